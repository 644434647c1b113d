set_option maxHeartbeats 8000000 in
set_option maxRecDepth 100000 in
/-- set(..) -/
theorem c_X4_set (l : Launch) (G : va_G) (cI cJ cZ cO : ClassId) (sz : Nat) (B : MA) (v : MR) (x : Int32) (y t g : Int64) (o : Int32) (hw0 : mW v 0 ≤ 80) (hlt40 : mMany v 1 ≤ 40) (hm : mMany v 1 < 40 → mW v 0 < 80) : Met l yX4_set wsX4_set ({ frames := 1, cells := 0, slots := 0, locals := 31 }) (xPc G (xK cI cJ cZ cO) sz [.ref (bH B), .int x, .long y, .long t, .long g, .int o] (wMo cI cJ cZ B v)) (va_Qi (fun r u2 => (¬ gSet x t g o ∧ u2 = mSetC v 1) ∨ (gSet x t g o ∧ mMany v 1 = 40 ∧ u2 = mSetC v 2) ∨ (gSet x t g o ∧ mMany v 1 ≠ 40 ∧ u2 = mSet v (mCn v 0, x, y, t, g, o) ∧ r = mCn v 0 + 1 - 1)) (xB G (xK cI cJ cZ cO) (wMo cI cJ cZ B v) sz (fun u9 : MR => wMo cI cJ cZ B u9)) (va_A (wMo cI cJ cZ B v) sz)) 0 0 (va_A (wMo cI cJ cZ B v) sz) := by
  refine x_body (by decide) rfl (Nat.le_of_ble_eq_true rfl) ?_
  intro p e s m below meth c F hr hlk hnm hsz hw ls hl
  subst hsz
  have F : CallFix p m c cX4_set 10 s _ wsX4_set RX4 := F
  have hl : lv_has ls 10 [(0, .ref (bH B)), (1, .int x), (2, .long y), (4, .long t), (6, .long g), (8, .int o)] := hl
  have hw : xW G (xK cI cJ cZ cO) _ s.heap s [(bH B, .inr (4, [.int (mCode v), .ref (bW B), .ref (bIt B), .ref (bCk B), .ref (bNu B), .ref (bKe B), .ref (bTi B), .ref (bGa B), .ref (bOf B), .ref (bNw B), .ref (bCn B), .int (nI (mKp v)), .int (nI (mDn v)), .ref (bDk B), .ref (bDu B), .ref (bDe B), .ref (bDt B), .ref (bDo B)])), (bW B, .inl (cI, 4, .inl (fun j9 => nI (mW v j9)))), (bIt B, .inl (cZ, 320, .inl (mIt v))), (bCk B, .inl (cI, 320, .inl (mCk v))), (bNu B, .inl (cI, 320, .inl (mNu v))), (bKe B, .inl (cJ, 320, .inr (.inl (mKe v)))), (bTi B, .inl (cJ, 320, .inr (.inl (mTi v)))), (bGa B, .inl (cJ, 320, .inr (.inl (mGa v)))), (bOf B, .inl (cI, 320, .inl (mOf v))), (bNw B, .inl (cJ, 8, .inr (.inl (mNw v)))), (bCn B, .inl (cI, 16, .inl (mCn v))), (bDk B, .inl (cI, 4000, .inl (mDk v))), (bDu B, .inl (cI, 4000, .inl (mDu v))), (bDe B, .inl (cJ, 4000, .inr (.inl (mDe v)))), (bDt B, .inl (cJ, 4000, .inr (.inl (mDt v)))), (bDo B, .inl (cI, 4000, .inl (mDo v)))] s.heap [] := hw
  have iX4 : ∀ w ∈ wsX40, w ∈ wsX4_set := by decide +kernel
  refine lv_iload_n F.1 F.2.1 dX4_set_0 rfl (lv_at hl 1 rfl) ?_
  refine lv_i2l (v := x.toInt64) F.1 F.2.1 dX4_set_1 (rfl) ?_
  refine lv_lconst (v := 0) F.1 F.2.1 dX4_set_2 (by decide) ?_
  refine lv_lconst (v := 1) F.1 F.2.1 dX4_set_3 (by decide) ?_
  refine x_ri (va_runS (As := [.long x.toInt64, .long 0, .long 1]) (rest := []) F (c_X4_isIn l G cI cJ cZ cO (Array.size _) x.toInt64 0 1) (va_cwS 3 F.2.2.2.2 gX4_set_X4_isIn rfl rfl rfl (by decide +kernel) ⟨Nat.le_of_ble_eq_true rfl, Nat.le_of_ble_eq_true rfl⟩) (x_preSW hw [] rfl (by decide)) rfl rfl hl.1 rfl (lv_room (Nat.le_of_ble_eq_true rfl)) dX4_set_4 ⟨Nat.le_of_ble_eq_true rfl, Nat.le_of_ble_eq_true rfl⟩) (fun r4 hr4 => ?_)
  refine lv_if_eq (tgt := 51) F.1 F.2.1 dX4_set_7 (by decide) (fun c7 => ?_) (fun c7 => ?_)
  · refine lv_iconst (v := 0) F.1 F.2.1 dX4_set_51 (by decide) ?_
    refine lv_istore (lv' := [(9, .int 0), (0, .ref (bH B)), (1, .int x), (2, .long y), (4, .long t), (6, .long g), (8, .int o)]) F.1 F.2.1 dX4_set_52 hl (by decide) rfl (fun ls hl => ?_)
    refine lv_aload_n F.1 F.2.1 dX4_set_54 rfl (lv_at hl 1 rfl) ?_
    refine lv_iload F.1 F.2.1 dX4_set_55 (lv_at hl 0 rfl) ?_
    refine lv_if_ne (tgt := 64) F.1 F.2.1 dX4_set_57 (by decide) (fun c57 => ?_) (fun c57 => ?_)
    · exact (c57 (by decide)).elim
    refine lv_iconst (v := 1) F.1 F.2.1 dX4_set_60 (by decide) ?_
    refine lv_goto (tgt := 79) F.1 F.2.1 dX4_set_61 (by decide) ?_
    refine x_wi (wr := []) (va_runV (As := [.int 1]) (rest := []) F (c_X4_isGood l G cI cJ cZ cO (Array.size _) B v 1) (cwV 1 F.2.2.2.2 gX4_set_X4_isGood rfl rfl rfl (by decide +kernel) ⟨Nat.le_of_ble_eq_true rfl, Nat.le_of_ble_eq_true rfl⟩) (x_preVW hw [0, 1, 2, 3, 4, 5, 6, 7, 8, 9, 10, 11, 12, 13, 14, 15] rfl (by decide) 0 rfl rfl) rfl rfl hl.1 rfl (lv_room (Nat.le_of_ble_eq_true rfl)) dX4_set_79 ⟨Nat.le_of_ble_eq_true rfl, Nat.le_of_ble_eq_true rfl⟩) hw [0, 1, 2, 3, 4, 5, 6, 7, 8, 9, 10, 11, 12, 13, 14, 15] [] rfl rfl (by decide) (by decide) (fun r9 u8 H locs hu9 hw => ?_)
    have hw : xW G (xK cI cJ cZ cO) _ s.heap s [(bH B, .inr (4, [.int (mCode u8), .ref (bW B), .ref (bIt B), .ref (bCk B), .ref (bNu B), .ref (bKe B), .ref (bTi B), .ref (bGa B), .ref (bOf B), .ref (bNw B), .ref (bCn B), .int (nI (mKp u8)), .int (nI (mDn u8)), .ref (bDk B), .ref (bDu B), .ref (bDe B), .ref (bDt B), .ref (bDo B)])), (bW B, .inl (cI, 4, .inl (fun j9 => nI (mW u8 j9)))), (bIt B, .inl (cZ, 320, .inl (mIt u8))), (bCk B, .inl (cI, 320, .inl (mCk u8))), (bNu B, .inl (cI, 320, .inl (mNu u8))), (bKe B, .inl (cJ, 320, .inr (.inl (mKe u8)))), (bTi B, .inl (cJ, 320, .inr (.inl (mTi u8)))), (bGa B, .inl (cJ, 320, .inr (.inl (mGa u8)))), (bOf B, .inl (cI, 320, .inl (mOf u8))), (bNw B, .inl (cJ, 8, .inr (.inl (mNw u8)))), (bCn B, .inl (cI, 16, .inl (mCn u8))), (bDk B, .inl (cI, 4000, .inl (mDk u8))), (bDu B, .inl (cI, 4000, .inl (mDu u8))), (bDe B, .inl (cJ, 4000, .inr (.inl (mDe u8)))), (bDt B, .inl (cJ, 4000, .inr (.inl (mDt u8)))), (bDo B, .inl (cI, 4000, .inl (mDo u8)))] H _ := hw
    obtain ⟨hu9, hr9⟩ := hu9
    subst hu9
    have hr9 := hr9.trans (if_neg (by decide))
    subst hr9
    refine lv_if_ne (tgt := 87) F.1 F.2.1 dX4_set_82 (by decide) (fun c82 => ?_) (fun c82 => ?_)
    · exact (c82 (by decide)).elim
    refine lv_iconst (v := 0) F.1 F.2.1 dX4_set_85 (by decide) ?_
    exact x_iret (f := fun u9 : MR => wMo cI cJ cZ B u9) (mCode (mSetC v 1), (mW (mSetC v 1)), (mIt (mSetC v 1)), (mCk (mSetC v 1)), (mNu (mSetC v 1)), (mKe (mSetC v 1)), (mTi (mSetC v 1)), (mGa (mSetC v 1)), (mOf (mSetC v 1)), (mNw (mSetC v 1)), (mCn (mSetC v 1)), mKp (mSetC v 1), mDn (mSetC v 1), (mDk (mSetC v 1)), (mDu (mSetC v 1)), (mDe (mSetC v 1)), (mDt (mSetC v 1)), (mDo (mSetC v 1))) F hr hlk hw (Or.inl ⟨fun h => if_z hr4 c7 h.1, rfl⟩) dX4_set_86
  · refine lv_lload F.1 F.2.1 dX4_set_10 (lv_at hl 3 rfl) ?_
    refine lv_lconst (v := 0) F.1 F.2.1 dX4_set_12 (by decide) ?_
    refine lv_ldc2 (v := 1000000000000) F.1 F.2.1 F.2.2.2.1 (F.2.2.2.2 _ (List.mem_of_getElem? (i := 1) rfl)) dX4_set_13 ?_
    refine x_ri (va_runS (As := [.long t, .long 0, .long 1000000000000]) (rest := []) F (c_X4_isIn l G cI cJ cZ cO (Array.size _) t 0 1000000000000) (va_cwS 3 F.2.2.2.2 gX4_set_X4_isIn rfl rfl rfl (by decide +kernel) ⟨Nat.le_of_ble_eq_true rfl, Nat.le_of_ble_eq_true rfl⟩) (x_preSW hw [] rfl (by decide)) rfl rfl hl.1 rfl (lv_room (Nat.le_of_ble_eq_true rfl)) dX4_set_16 ⟨Nat.le_of_ble_eq_true rfl, Nat.le_of_ble_eq_true rfl⟩) (fun r16 hr16 => ?_)
    refine lv_if_eq (tgt := 51) F.1 F.2.1 dX4_set_19 (by decide) (fun c19 => ?_) (fun c19 => ?_)
    · refine lv_iconst (v := 0) F.1 F.2.1 dX4_set_51 (by decide) ?_
      refine lv_istore (lv' := [(9, .int 0), (0, .ref (bH B)), (1, .int x), (2, .long y), (4, .long t), (6, .long g), (8, .int o)]) F.1 F.2.1 dX4_set_52 hl (by decide) rfl (fun ls hl => ?_)
      refine lv_aload_n F.1 F.2.1 dX4_set_54 rfl (lv_at hl 1 rfl) ?_
      refine lv_iload F.1 F.2.1 dX4_set_55 (lv_at hl 0 rfl) ?_
      refine lv_if_ne (tgt := 64) F.1 F.2.1 dX4_set_57 (by decide) (fun c57 => ?_) (fun c57 => ?_)
      · exact (c57 (by decide)).elim
      refine lv_iconst (v := 1) F.1 F.2.1 dX4_set_60 (by decide) ?_
      refine lv_goto (tgt := 79) F.1 F.2.1 dX4_set_61 (by decide) ?_
      refine x_wi (wr := []) (va_runV (As := [.int 1]) (rest := []) F (c_X4_isGood l G cI cJ cZ cO (Array.size _) B v 1) (cwV 1 F.2.2.2.2 gX4_set_X4_isGood rfl rfl rfl (by decide +kernel) ⟨Nat.le_of_ble_eq_true rfl, Nat.le_of_ble_eq_true rfl⟩) (x_preVW hw [0, 1, 2, 3, 4, 5, 6, 7, 8, 9, 10, 11, 12, 13, 14, 15] rfl (by decide) 0 rfl rfl) rfl rfl hl.1 rfl (lv_room (Nat.le_of_ble_eq_true rfl)) dX4_set_79 ⟨Nat.le_of_ble_eq_true rfl, Nat.le_of_ble_eq_true rfl⟩) hw [0, 1, 2, 3, 4, 5, 6, 7, 8, 9, 10, 11, 12, 13, 14, 15] [] rfl rfl (by decide) (by decide) (fun r9 u8 H locs hu9 hw => ?_)
      have hw : xW G (xK cI cJ cZ cO) _ s.heap s [(bH B, .inr (4, [.int (mCode u8), .ref (bW B), .ref (bIt B), .ref (bCk B), .ref (bNu B), .ref (bKe B), .ref (bTi B), .ref (bGa B), .ref (bOf B), .ref (bNw B), .ref (bCn B), .int (nI (mKp u8)), .int (nI (mDn u8)), .ref (bDk B), .ref (bDu B), .ref (bDe B), .ref (bDt B), .ref (bDo B)])), (bW B, .inl (cI, 4, .inl (fun j9 => nI (mW u8 j9)))), (bIt B, .inl (cZ, 320, .inl (mIt u8))), (bCk B, .inl (cI, 320, .inl (mCk u8))), (bNu B, .inl (cI, 320, .inl (mNu u8))), (bKe B, .inl (cJ, 320, .inr (.inl (mKe u8)))), (bTi B, .inl (cJ, 320, .inr (.inl (mTi u8)))), (bGa B, .inl (cJ, 320, .inr (.inl (mGa u8)))), (bOf B, .inl (cI, 320, .inl (mOf u8))), (bNw B, .inl (cJ, 8, .inr (.inl (mNw u8)))), (bCn B, .inl (cI, 16, .inl (mCn u8))), (bDk B, .inl (cI, 4000, .inl (mDk u8))), (bDu B, .inl (cI, 4000, .inl (mDu u8))), (bDe B, .inl (cJ, 4000, .inr (.inl (mDe u8)))), (bDt B, .inl (cJ, 4000, .inr (.inl (mDt u8)))), (bDo B, .inl (cI, 4000, .inl (mDo u8)))] H _ := hw
      obtain ⟨hu9, hr9⟩ := hu9
      subst hu9
      have hr9 := hr9.trans (if_neg (by decide))
      subst hr9
      refine lv_if_ne (tgt := 87) F.1 F.2.1 dX4_set_82 (by decide) (fun c82 => ?_) (fun c82 => ?_)
      · exact (c82 (by decide)).elim
      refine lv_iconst (v := 0) F.1 F.2.1 dX4_set_85 (by decide) ?_
      exact x_iret (f := fun u9 : MR => wMo cI cJ cZ B u9) (mCode (mSetC v 1), (mW (mSetC v 1)), (mIt (mSetC v 1)), (mCk (mSetC v 1)), (mNu (mSetC v 1)), (mKe (mSetC v 1)), (mTi (mSetC v 1)), (mGa (mSetC v 1)), (mOf (mSetC v 1)), (mNw (mSetC v 1)), (mCn (mSetC v 1)), mKp (mSetC v 1), mDn (mSetC v 1), (mDk (mSetC v 1)), (mDu (mSetC v 1)), (mDe (mSetC v 1)), (mDt (mSetC v 1)), (mDo (mSetC v 1))) F hr hlk hw (Or.inl ⟨fun h => if_z hr16 c19 h.2.1, rfl⟩) dX4_set_86
    · refine lv_lload F.1 F.2.1 dX4_set_22 (lv_at hl 4 rfl) ?_
      refine lv_lconst (v := 0) F.1 F.2.1 dX4_set_24 (by decide) ?_
      refine lv_ldc2 (v := 1000000000) F.1 F.2.1 F.2.2.2.1 (F.2.2.2.2 _ (List.mem_of_getElem? (i := 2) rfl)) dX4_set_25 ?_
      refine x_ri (va_runS (As := [.long g, .long 0, .long 1000000000]) (rest := []) F (c_X4_isIn l G cI cJ cZ cO (Array.size _) g 0 1000000000) (va_cwS 3 F.2.2.2.2 gX4_set_X4_isIn rfl rfl rfl (by decide +kernel) ⟨Nat.le_of_ble_eq_true rfl, Nat.le_of_ble_eq_true rfl⟩) (x_preSW hw [] rfl (by decide)) rfl rfl hl.1 rfl (lv_room (Nat.le_of_ble_eq_true rfl)) dX4_set_28 ⟨Nat.le_of_ble_eq_true rfl, Nat.le_of_ble_eq_true rfl⟩) (fun r28 hr28 => ?_)
      refine lv_if_eq (tgt := 51) F.1 F.2.1 dX4_set_31 (by decide) (fun c31 => ?_) (fun c31 => ?_)
      · refine lv_iconst (v := 0) F.1 F.2.1 dX4_set_51 (by decide) ?_
        refine lv_istore (lv' := [(9, .int 0), (0, .ref (bH B)), (1, .int x), (2, .long y), (4, .long t), (6, .long g), (8, .int o)]) F.1 F.2.1 dX4_set_52 hl (by decide) rfl (fun ls hl => ?_)
        refine lv_aload_n F.1 F.2.1 dX4_set_54 rfl (lv_at hl 1 rfl) ?_
        refine lv_iload F.1 F.2.1 dX4_set_55 (lv_at hl 0 rfl) ?_
        refine lv_if_ne (tgt := 64) F.1 F.2.1 dX4_set_57 (by decide) (fun c57 => ?_) (fun c57 => ?_)
        · exact (c57 (by decide)).elim
        refine lv_iconst (v := 1) F.1 F.2.1 dX4_set_60 (by decide) ?_
        refine lv_goto (tgt := 79) F.1 F.2.1 dX4_set_61 (by decide) ?_
        refine x_wi (wr := []) (va_runV (As := [.int 1]) (rest := []) F (c_X4_isGood l G cI cJ cZ cO (Array.size _) B v 1) (cwV 1 F.2.2.2.2 gX4_set_X4_isGood rfl rfl rfl (by decide +kernel) ⟨Nat.le_of_ble_eq_true rfl, Nat.le_of_ble_eq_true rfl⟩) (x_preVW hw [0, 1, 2, 3, 4, 5, 6, 7, 8, 9, 10, 11, 12, 13, 14, 15] rfl (by decide) 0 rfl rfl) rfl rfl hl.1 rfl (lv_room (Nat.le_of_ble_eq_true rfl)) dX4_set_79 ⟨Nat.le_of_ble_eq_true rfl, Nat.le_of_ble_eq_true rfl⟩) hw [0, 1, 2, 3, 4, 5, 6, 7, 8, 9, 10, 11, 12, 13, 14, 15] [] rfl rfl (by decide) (by decide) (fun r9 u8 H locs hu9 hw => ?_)
        have hw : xW G (xK cI cJ cZ cO) _ s.heap s [(bH B, .inr (4, [.int (mCode u8), .ref (bW B), .ref (bIt B), .ref (bCk B), .ref (bNu B), .ref (bKe B), .ref (bTi B), .ref (bGa B), .ref (bOf B), .ref (bNw B), .ref (bCn B), .int (nI (mKp u8)), .int (nI (mDn u8)), .ref (bDk B), .ref (bDu B), .ref (bDe B), .ref (bDt B), .ref (bDo B)])), (bW B, .inl (cI, 4, .inl (fun j9 => nI (mW u8 j9)))), (bIt B, .inl (cZ, 320, .inl (mIt u8))), (bCk B, .inl (cI, 320, .inl (mCk u8))), (bNu B, .inl (cI, 320, .inl (mNu u8))), (bKe B, .inl (cJ, 320, .inr (.inl (mKe u8)))), (bTi B, .inl (cJ, 320, .inr (.inl (mTi u8)))), (bGa B, .inl (cJ, 320, .inr (.inl (mGa u8)))), (bOf B, .inl (cI, 320, .inl (mOf u8))), (bNw B, .inl (cJ, 8, .inr (.inl (mNw u8)))), (bCn B, .inl (cI, 16, .inl (mCn u8))), (bDk B, .inl (cI, 4000, .inl (mDk u8))), (bDu B, .inl (cI, 4000, .inl (mDu u8))), (bDe B, .inl (cJ, 4000, .inr (.inl (mDe u8)))), (bDt B, .inl (cJ, 4000, .inr (.inl (mDt u8)))), (bDo B, .inl (cI, 4000, .inl (mDo u8)))] H _ := hw
        obtain ⟨hu9, hr9⟩ := hu9
        subst hu9
        have hr9 := hr9.trans (if_neg (by decide))
        subst hr9
        refine lv_if_ne (tgt := 87) F.1 F.2.1 dX4_set_82 (by decide) (fun c82 => ?_) (fun c82 => ?_)
        · exact (c82 (by decide)).elim
        refine lv_iconst (v := 0) F.1 F.2.1 dX4_set_85 (by decide) ?_
        exact x_iret (f := fun u9 : MR => wMo cI cJ cZ B u9) (mCode (mSetC v 1), (mW (mSetC v 1)), (mIt (mSetC v 1)), (mCk (mSetC v 1)), (mNu (mSetC v 1)), (mKe (mSetC v 1)), (mTi (mSetC v 1)), (mGa (mSetC v 1)), (mOf (mSetC v 1)), (mNw (mSetC v 1)), (mCn (mSetC v 1)), mKp (mSetC v 1), mDn (mSetC v 1), (mDk (mSetC v 1)), (mDu (mSetC v 1)), (mDe (mSetC v 1)), (mDt (mSetC v 1)), (mDo (mSetC v 1))) F hr hlk hw (Or.inl ⟨fun h => if_z hr28 c31 h.2.2.1, rfl⟩) dX4_set_86
      · refine lv_iload F.1 F.2.1 dX4_set_34 (lv_at hl 5 rfl) ?_
        refine lv_i2l (v := o.toInt64) F.1 F.2.1 dX4_set_36 (rfl) ?_
        refine lv_lconst (v := 0) F.1 F.2.1 dX4_set_37 (by decide) ?_
        refine lv_ldc2 (v := 50) F.1 F.2.1 F.2.2.2.1 (F.2.2.2.2 _ (List.mem_of_getElem? (i := 3) rfl)) dX4_set_38 ?_
        refine x_ri (va_runS (As := [.long o.toInt64, .long 0, .long 50]) (rest := []) F (c_X4_isIn l G cI cJ cZ cO (Array.size _) o.toInt64 0 50) (va_cwS 3 F.2.2.2.2 gX4_set_X4_isIn rfl rfl rfl (by decide +kernel) ⟨Nat.le_of_ble_eq_true rfl, Nat.le_of_ble_eq_true rfl⟩) (x_preSW hw [] rfl (by decide)) rfl rfl hl.1 rfl (lv_room (Nat.le_of_ble_eq_true rfl)) dX4_set_41 ⟨Nat.le_of_ble_eq_true rfl, Nat.le_of_ble_eq_true rfl⟩) (fun r41 hr41 => ?_)
        refine lv_if_eq (tgt := 51) F.1 F.2.1 dX4_set_44 (by decide) (fun c44 => ?_) (fun c44 => ?_)
        · refine lv_iconst (v := 0) F.1 F.2.1 dX4_set_51 (by decide) ?_
          refine lv_istore (lv' := [(9, .int 0), (0, .ref (bH B)), (1, .int x), (2, .long y), (4, .long t), (6, .long g), (8, .int o)]) F.1 F.2.1 dX4_set_52 hl (by decide) rfl (fun ls hl => ?_)
          refine lv_aload_n F.1 F.2.1 dX4_set_54 rfl (lv_at hl 1 rfl) ?_
          refine lv_iload F.1 F.2.1 dX4_set_55 (lv_at hl 0 rfl) ?_
          refine lv_if_ne (tgt := 64) F.1 F.2.1 dX4_set_57 (by decide) (fun c57 => ?_) (fun c57 => ?_)
          · exact (c57 (by decide)).elim
          refine lv_iconst (v := 1) F.1 F.2.1 dX4_set_60 (by decide) ?_
          refine lv_goto (tgt := 79) F.1 F.2.1 dX4_set_61 (by decide) ?_
          refine x_wi (wr := []) (va_runV (As := [.int 1]) (rest := []) F (c_X4_isGood l G cI cJ cZ cO (Array.size _) B v 1) (cwV 1 F.2.2.2.2 gX4_set_X4_isGood rfl rfl rfl (by decide +kernel) ⟨Nat.le_of_ble_eq_true rfl, Nat.le_of_ble_eq_true rfl⟩) (x_preVW hw [0, 1, 2, 3, 4, 5, 6, 7, 8, 9, 10, 11, 12, 13, 14, 15] rfl (by decide) 0 rfl rfl) rfl rfl hl.1 rfl (lv_room (Nat.le_of_ble_eq_true rfl)) dX4_set_79 ⟨Nat.le_of_ble_eq_true rfl, Nat.le_of_ble_eq_true rfl⟩) hw [0, 1, 2, 3, 4, 5, 6, 7, 8, 9, 10, 11, 12, 13, 14, 15] [] rfl rfl (by decide) (by decide) (fun r9 u8 H locs hu9 hw => ?_)
          have hw : xW G (xK cI cJ cZ cO) _ s.heap s [(bH B, .inr (4, [.int (mCode u8), .ref (bW B), .ref (bIt B), .ref (bCk B), .ref (bNu B), .ref (bKe B), .ref (bTi B), .ref (bGa B), .ref (bOf B), .ref (bNw B), .ref (bCn B), .int (nI (mKp u8)), .int (nI (mDn u8)), .ref (bDk B), .ref (bDu B), .ref (bDe B), .ref (bDt B), .ref (bDo B)])), (bW B, .inl (cI, 4, .inl (fun j9 => nI (mW u8 j9)))), (bIt B, .inl (cZ, 320, .inl (mIt u8))), (bCk B, .inl (cI, 320, .inl (mCk u8))), (bNu B, .inl (cI, 320, .inl (mNu u8))), (bKe B, .inl (cJ, 320, .inr (.inl (mKe u8)))), (bTi B, .inl (cJ, 320, .inr (.inl (mTi u8)))), (bGa B, .inl (cJ, 320, .inr (.inl (mGa u8)))), (bOf B, .inl (cI, 320, .inl (mOf u8))), (bNw B, .inl (cJ, 8, .inr (.inl (mNw u8)))), (bCn B, .inl (cI, 16, .inl (mCn u8))), (bDk B, .inl (cI, 4000, .inl (mDk u8))), (bDu B, .inl (cI, 4000, .inl (mDu u8))), (bDe B, .inl (cJ, 4000, .inr (.inl (mDe u8)))), (bDt B, .inl (cJ, 4000, .inr (.inl (mDt u8)))), (bDo B, .inl (cI, 4000, .inl (mDo u8)))] H _ := hw
          obtain ⟨hu9, hr9⟩ := hu9
          subst hu9
          have hr9 := hr9.trans (if_neg (by decide))
          subst hr9
          refine lv_if_ne (tgt := 87) F.1 F.2.1 dX4_set_82 (by decide) (fun c82 => ?_) (fun c82 => ?_)
          · exact (c82 (by decide)).elim
          refine lv_iconst (v := 0) F.1 F.2.1 dX4_set_85 (by decide) ?_
          exact x_iret (f := fun u9 : MR => wMo cI cJ cZ B u9) (mCode (mSetC v 1), (mW (mSetC v 1)), (mIt (mSetC v 1)), (mCk (mSetC v 1)), (mNu (mSetC v 1)), (mKe (mSetC v 1)), (mTi (mSetC v 1)), (mGa (mSetC v 1)), (mOf (mSetC v 1)), (mNw (mSetC v 1)), (mCn (mSetC v 1)), mKp (mSetC v 1), mDn (mSetC v 1), (mDk (mSetC v 1)), (mDu (mSetC v 1)), (mDe (mSetC v 1)), (mDt (mSetC v 1)), (mDo (mSetC v 1))) F hr hlk hw (Or.inl ⟨fun h => if_z hr41 c44 h.2.2.2, rfl⟩) dX4_set_86
        · refine lv_iconst (v := 1) F.1 F.2.1 dX4_set_47 (by decide) ?_
          refine lv_goto (tgt := 52) F.1 F.2.1 dX4_set_48 (by decide) ?_
          refine lv_istore (lv' := [(9, .int 1), (0, .ref (bH B)), (1, .int x), (2, .long y), (4, .long t), (6, .long g), (8, .int o)]) F.1 F.2.1 dX4_set_52 hl (by decide) rfl (fun ls hl => ?_)
          refine lv_aload_n F.1 F.2.1 dX4_set_54 rfl (lv_at hl 1 rfl) ?_
          refine lv_iload F.1 F.2.1 dX4_set_55 (lv_at hl 0 rfl) ?_
          refine lv_if_ne (tgt := 64) F.1 F.2.1 dX4_set_57 (by decide) (fun c57 => ?_) (fun c57 => ?_)
          rotate_left
          · exact absurd c57 (by decide)
          refine lv_aload_n F.1 F.2.1 dX4_set_64 rfl (lv_at hl 1 rfl) ?_
          refine lv_iconst (v := 1) F.1 F.2.1 dX4_set_65 (by decide) ?_
          refine x_ri (va_runV (As := [.int 1]) (rest := [.ref (bH B)]) F (c_X4_many l G cI cJ cZ cO (Array.size _) B v 1 hw0) (cwV 1 F.2.2.2.2 gX4_set_X4_many rfl rfl rfl (by decide +kernel) ⟨Nat.le_of_ble_eq_true rfl, Nat.le_of_ble_eq_true rfl⟩) (x_preVW hw [0, 1, 2, 3, 4, 5, 6, 7, 8, 9, 10, 11, 12, 13, 14, 15] rfl (by decide) 0 rfl rfl) rfl rfl hl.1 rfl (lv_room (Nat.le_of_ble_eq_true rfl)) dX4_set_66 ⟨Nat.le_of_ble_eq_true rfl, Nat.le_of_ble_eq_true rfl⟩) (fun r66 hr66 => ?_)
          subst hr66
          refine lv_bipush (v := 40) F.1 F.2.1 dX4_set_69 (by decide) ?_
          refine lv_icmp_ne (tgt := 78) F.1 F.2.1 dX4_set_71 (by decide) (fun c71 => ?_) (fun c71 => ?_)
          · refine lv_iconst (v := 0) F.1 F.2.1 dX4_set_78 (by decide) ?_
            refine x_wi (wr := []) (va_runV (As := [.int 0]) (rest := []) F (c_X4_isGood l G cI cJ cZ cO (Array.size _) B v 0) (cwV 1 F.2.2.2.2 gX4_set_X4_isGood rfl rfl rfl (by decide +kernel) ⟨Nat.le_of_ble_eq_true rfl, Nat.le_of_ble_eq_true rfl⟩) (x_preVW hw [0, 1, 2, 3, 4, 5, 6, 7, 8, 9, 10, 11, 12, 13, 14, 15] rfl (by decide) 0 rfl rfl) rfl rfl hl.1 rfl (lv_room (Nat.le_of_ble_eq_true rfl)) dX4_set_79 ⟨Nat.le_of_ble_eq_true rfl, Nat.le_of_ble_eq_true rfl⟩) hw [0, 1, 2, 3, 4, 5, 6, 7, 8, 9, 10, 11, 12, 13, 14, 15] [] rfl rfl (by decide) (by decide) (fun r9 u8 H locs hu9 hw => ?_)
            have hw : xW G (xK cI cJ cZ cO) _ s.heap s [(bH B, .inr (4, [.int (mCode u8), .ref (bW B), .ref (bIt B), .ref (bCk B), .ref (bNu B), .ref (bKe B), .ref (bTi B), .ref (bGa B), .ref (bOf B), .ref (bNw B), .ref (bCn B), .int (nI (mKp u8)), .int (nI (mDn u8)), .ref (bDk B), .ref (bDu B), .ref (bDe B), .ref (bDt B), .ref (bDo B)])), (bW B, .inl (cI, 4, .inl (fun j9 => nI (mW u8 j9)))), (bIt B, .inl (cZ, 320, .inl (mIt u8))), (bCk B, .inl (cI, 320, .inl (mCk u8))), (bNu B, .inl (cI, 320, .inl (mNu u8))), (bKe B, .inl (cJ, 320, .inr (.inl (mKe u8)))), (bTi B, .inl (cJ, 320, .inr (.inl (mTi u8)))), (bGa B, .inl (cJ, 320, .inr (.inl (mGa u8)))), (bOf B, .inl (cI, 320, .inl (mOf u8))), (bNw B, .inl (cJ, 8, .inr (.inl (mNw u8)))), (bCn B, .inl (cI, 16, .inl (mCn u8))), (bDk B, .inl (cI, 4000, .inl (mDk u8))), (bDu B, .inl (cI, 4000, .inl (mDu u8))), (bDe B, .inl (cJ, 4000, .inr (.inl (mDe u8)))), (bDt B, .inl (cJ, 4000, .inr (.inl (mDt u8)))), (bDo B, .inl (cI, 4000, .inl (mDo u8)))] H _ := hw
            obtain ⟨hu9, hr9⟩ := hu9
            subst hu9
            have hr9 := hr9.trans (if_pos rfl)
            subst hr9
            refine lv_if_ne (tgt := 87) F.1 F.2.1 dX4_set_82 (by decide) (fun c82 => ?_) (fun c82 => ?_)
            rotate_left
            · exact absurd c82 (by decide)
            have hne : mMany v 1 ≠ 40 := fun h => c71 (congrArg nI h)
            have hm4 : mMany v 1 < 40 := by have h9 := hlt40; omega
            refine lv_aload_n F.1 F.2.1 dX4_set_87 rfl (lv_at hl 1 rfl) ?_
            refine lv_iconst (v := 1) F.1 F.2.1 dX4_set_88 (by decide) ?_
            refine lv_iload_n F.1 F.2.1 dX4_set_89 rfl (lv_at hl 2 rfl) ?_
            refine lv_aload_n F.1 F.2.1 dX4_set_90 rfl (lv_at hl 1 rfl) ?_
            refine x_get F hw iX4 0 rfl rfl 10 (by decide) rfl (List.mem_of_getElem? (i := 4) rfl) rfl dX4_set_91 ?_
            refine lv_iconst (v := 0) F.1 F.2.1 dX4_set_94 (by decide) ?_
            refine x_ialdN F hw 10 0 rfl rfl 0 rfl (by omega) (by decide) dX4_set_95 ?_
            refine lv_lload_n F.1 F.2.1 dX4_set_96 rfl (lv_at hl 3 rfl) ?_
            refine lv_lload F.1 F.2.1 dX4_set_97 (lv_at hl 4 rfl) ?_
            refine lv_lload F.1 F.2.1 dX4_set_99 (lv_at hl 5 rfl) ?_
            refine lv_iload F.1 F.2.1 dX4_set_101 (lv_at hl 6 rfl) ?_
            refine x_wv (wr := []) (va_runV (As := [.int 1, .int x, .int (mCn (mSetC v 0) 0), .long y, .long t, .long g, .int o]) (rest := []) F (c_X4_add l G cI cJ cZ cO (Array.size H) B (mSetC v 0) 1 (mCn v 0, x, y, t, g, o) (Or.inr rfl) (hm hm4)) (cwV 7 F.2.2.2.2 gX4_set_X4_add rfl rfl rfl (by decide +kernel) ⟨Nat.le_of_ble_eq_true rfl, Nat.le_of_ble_eq_true rfl⟩) (x_preVW hw [0, 1, 2, 3, 4, 5, 6, 7, 8, 9, 10, 11, 12, 13, 14, 15] rfl (by decide) 0 rfl rfl) rfl rfl hl.1 rfl (lv_room (Nat.le_of_ble_eq_true rfl)) dX4_set_103 ⟨Nat.le_of_ble_eq_true rfl, Nat.le_of_ble_eq_true rfl⟩) hw [0, 1, 2, 3, 4, 5, 6, 7, 8, 9, 10, 11, 12, 13, 14, 15] [] rfl rfl (by decide) (by decide) (fun u7 H locs hu7 hw => ?_)
            have hw : xW G (xK cI cJ cZ cO) _ s.heap s [(bH B, .inr (4, [.int (mCode u7), .ref (bW B), .ref (bIt B), .ref (bCk B), .ref (bNu B), .ref (bKe B), .ref (bTi B), .ref (bGa B), .ref (bOf B), .ref (bNw B), .ref (bCn B), .int (nI (mKp u7)), .int (nI (mDn u7)), .ref (bDk B), .ref (bDu B), .ref (bDe B), .ref (bDt B), .ref (bDo B)])), (bW B, .inl (cI, 4, .inl (fun j9 => nI (mW u7 j9)))), (bIt B, .inl (cZ, 320, .inl (mIt u7))), (bCk B, .inl (cI, 320, .inl (mCk u7))), (bNu B, .inl (cI, 320, .inl (mNu u7))), (bKe B, .inl (cJ, 320, .inr (.inl (mKe u7)))), (bTi B, .inl (cJ, 320, .inr (.inl (mTi u7)))), (bGa B, .inl (cJ, 320, .inr (.inl (mGa u7)))), (bOf B, .inl (cI, 320, .inl (mOf u7))), (bNw B, .inl (cJ, 8, .inr (.inl (mNw u7)))), (bCn B, .inl (cI, 16, .inl (mCn u7))), (bDk B, .inl (cI, 4000, .inl (mDk u7))), (bDu B, .inl (cI, 4000, .inl (mDu u7))), (bDe B, .inl (cJ, 4000, .inr (.inl (mDe u7)))), (bDt B, .inl (cJ, 4000, .inr (.inl (mDt u7)))), (bDo B, .inl (cI, 4000, .inl (mDo u7)))] H _ := hw
            subst hu7
            refine lv_aload_n F.1 F.2.1 dX4_set_106 rfl (lv_at hl 1 rfl) ?_
            refine x_get F hw iX4 0 rfl rfl 10 (by decide) rfl (List.mem_of_getElem? (i := 4) rfl) rfl dX4_set_107 ?_
            refine lv_iconst (v := 0) F.1 F.2.1 dX4_set_110 (by decide) ?_
            refine lv_dup2_11 F.1 F.2.1 dX4_set_111 rfl rfl ?_
            refine x_ialdN F hw 10 0 rfl rfl 0 rfl (by omega) (by decide) dX4_set_112 ?_
            refine lv_iconst (v := 1) F.1 F.2.1 dX4_set_113 (by decide) ?_
            refine lv_iadd F.1 F.2.1 dX4_set_114 ?_
            refine x_iastN F hw 10 0 rfl rfl 0 rfl (by omega) (by decide) dX4_set_115 (fun H locs hw => ?_)
            have hw : xW G (xK cI cJ cZ cO) _ s.heap s [(bH B, .inr (4, [.int (mCode (mAdd (mSetC v 0) 1 (mCn v 0, x, y, t, g, o))), .ref (bW B), .ref (bIt B), .ref (bCk B), .ref (bNu B), .ref (bKe B), .ref (bTi B), .ref (bGa B), .ref (bOf B), .ref (bNw B), .ref (bCn B), .int (nI (mKp (mAdd (mSetC v 0) 1 (mCn v 0, x, y, t, g, o)))), .int (nI (mDn (mAdd (mSetC v 0) 1 (mCn v 0, x, y, t, g, o)))), .ref (bDk B), .ref (bDu B), .ref (bDe B), .ref (bDt B), .ref (bDo B)])), (bW B, .inl (cI, 4, .inl (fun j9 => nI (mW (mAdd (mSetC v 0) 1 (mCn v 0, x, y, t, g, o)) j9)))), (bIt B, .inl (cZ, 320, .inl (mIt (mAdd (mSetC v 0) 1 (mCn v 0, x, y, t, g, o))))), (bCk B, .inl (cI, 320, .inl (mCk (mAdd (mSetC v 0) 1 (mCn v 0, x, y, t, g, o))))), (bNu B, .inl (cI, 320, .inl (mNu (mAdd (mSetC v 0) 1 (mCn v 0, x, y, t, g, o))))), (bKe B, .inl (cJ, 320, .inr (.inl (mKe (mAdd (mSetC v 0) 1 (mCn v 0, x, y, t, g, o)))))), (bTi B, .inl (cJ, 320, .inr (.inl (mTi (mAdd (mSetC v 0) 1 (mCn v 0, x, y, t, g, o)))))), (bGa B, .inl (cJ, 320, .inr (.inl (mGa (mAdd (mSetC v 0) 1 (mCn v 0, x, y, t, g, o)))))), (bOf B, .inl (cI, 320, .inl (mOf (mAdd (mSetC v 0) 1 (mCn v 0, x, y, t, g, o))))), (bNw B, .inl (cJ, 8, .inr (.inl (mNw (mAdd (mSetC v 0) 1 (mCn v 0, x, y, t, g, o)))))), (bCn B, .inl (cI, 16, .inl (upd (mCn (mAdd (mSetC v 0) 1 (mCn v 0, x, y, t, g, o))) 0 ((mCn (mAdd (mSetC v 0) 1 (mCn v 0, x, y, t, g, o)) 0) + 1)))), (bDk B, .inl (cI, 4000, .inl (mDk (mAdd (mSetC v 0) 1 (mCn v 0, x, y, t, g, o))))), (bDu B, .inl (cI, 4000, .inl (mDu (mAdd (mSetC v 0) 1 (mCn v 0, x, y, t, g, o))))), (bDe B, .inl (cJ, 4000, .inr (.inl (mDe (mAdd (mSetC v 0) 1 (mCn v 0, x, y, t, g, o)))))), (bDt B, .inl (cJ, 4000, .inr (.inl (mDt (mAdd (mSetC v 0) 1 (mCn v 0, x, y, t, g, o)))))), (bDo B, .inl (cI, 4000, .inl (mDo (mAdd (mSetC v 0) 1 (mCn v 0, x, y, t, g, o)))))] H _ := hw
            refine lv_aload_n F.1 F.2.1 dX4_set_116 rfl (lv_at hl 1 rfl) ?_
            refine x_get F hw iX4 0 rfl rfl 10 (by decide) rfl (List.mem_of_getElem? (i := 4) rfl) rfl dX4_set_117 ?_
            refine lv_iconst (v := 0) F.1 F.2.1 dX4_set_120 (by decide) ?_
            refine x_ialdN F hw 10 0 rfl rfl 0 rfl (by omega) (by decide) dX4_set_121 ?_
            refine lv_iconst (v := 1) F.1 F.2.1 dX4_set_122 (by decide) ?_
            refine lv_isub F.1 F.2.1 dX4_set_123 ?_
            exact x_iret (f := fun u9 : MR => wMo cI cJ cZ B u9) (mCode (mAdd (mSetC v 0) 1 (mCn v 0, x, y, t, g, o)), (mW (mAdd (mSetC v 0) 1 (mCn v 0, x, y, t, g, o))), (mIt (mAdd (mSetC v 0) 1 (mCn v 0, x, y, t, g, o))), (mCk (mAdd (mSetC v 0) 1 (mCn v 0, x, y, t, g, o))), (mNu (mAdd (mSetC v 0) 1 (mCn v 0, x, y, t, g, o))), (mKe (mAdd (mSetC v 0) 1 (mCn v 0, x, y, t, g, o))), (mTi (mAdd (mSetC v 0) 1 (mCn v 0, x, y, t, g, o))), (mGa (mAdd (mSetC v 0) 1 (mCn v 0, x, y, t, g, o))), (mOf (mAdd (mSetC v 0) 1 (mCn v 0, x, y, t, g, o))), (mNw (mAdd (mSetC v 0) 1 (mCn v 0, x, y, t, g, o))), (upd (mCn (mAdd (mSetC v 0) 1 (mCn v 0, x, y, t, g, o))) 0 ((mCn (mAdd (mSetC v 0) 1 (mCn v 0, x, y, t, g, o)) 0) + 1)), mKp (mAdd (mSetC v 0) 1 (mCn v 0, x, y, t, g, o)), mDn (mAdd (mSetC v 0) 1 (mCn v 0, x, y, t, g, o)), (mDk (mAdd (mSetC v 0) 1 (mCn v 0, x, y, t, g, o))), (mDu (mAdd (mSetC v 0) 1 (mCn v 0, x, y, t, g, o))), (mDe (mAdd (mSetC v 0) 1 (mCn v 0, x, y, t, g, o))), (mDt (mAdd (mSetC v 0) 1 (mCn v 0, x, y, t, g, o))), (mDo (mAdd (mSetC v 0) 1 (mCn v 0, x, y, t, g, o)))) F hr hlk hw (Or.inr (Or.inr ⟨⟨if_nz hr4 c7, if_nz hr16 c19, if_nz hr28 c31, if_nz hr41 c44⟩, hne, rfl, rfl⟩)) dX4_set_124
          · refine lv_iconst (v := 2) F.1 F.2.1 dX4_set_74 (by decide) ?_
            refine lv_goto (tgt := 79) F.1 F.2.1 dX4_set_75 (by decide) ?_
            refine x_wi (wr := []) (va_runV (As := [.int 2]) (rest := []) F (c_X4_isGood l G cI cJ cZ cO (Array.size _) B v 2) (cwV 1 F.2.2.2.2 gX4_set_X4_isGood rfl rfl rfl (by decide +kernel) ⟨Nat.le_of_ble_eq_true rfl, Nat.le_of_ble_eq_true rfl⟩) (x_preVW hw [0, 1, 2, 3, 4, 5, 6, 7, 8, 9, 10, 11, 12, 13, 14, 15] rfl (by decide) 0 rfl rfl) rfl rfl hl.1 rfl (lv_room (Nat.le_of_ble_eq_true rfl)) dX4_set_79 ⟨Nat.le_of_ble_eq_true rfl, Nat.le_of_ble_eq_true rfl⟩) hw [0, 1, 2, 3, 4, 5, 6, 7, 8, 9, 10, 11, 12, 13, 14, 15] [] rfl rfl (by decide) (by decide) (fun r9 u8 H locs hu9 hw => ?_)
            have hw : xW G (xK cI cJ cZ cO) _ s.heap s [(bH B, .inr (4, [.int (mCode u8), .ref (bW B), .ref (bIt B), .ref (bCk B), .ref (bNu B), .ref (bKe B), .ref (bTi B), .ref (bGa B), .ref (bOf B), .ref (bNw B), .ref (bCn B), .int (nI (mKp u8)), .int (nI (mDn u8)), .ref (bDk B), .ref (bDu B), .ref (bDe B), .ref (bDt B), .ref (bDo B)])), (bW B, .inl (cI, 4, .inl (fun j9 => nI (mW u8 j9)))), (bIt B, .inl (cZ, 320, .inl (mIt u8))), (bCk B, .inl (cI, 320, .inl (mCk u8))), (bNu B, .inl (cI, 320, .inl (mNu u8))), (bKe B, .inl (cJ, 320, .inr (.inl (mKe u8)))), (bTi B, .inl (cJ, 320, .inr (.inl (mTi u8)))), (bGa B, .inl (cJ, 320, .inr (.inl (mGa u8)))), (bOf B, .inl (cI, 320, .inl (mOf u8))), (bNw B, .inl (cJ, 8, .inr (.inl (mNw u8)))), (bCn B, .inl (cI, 16, .inl (mCn u8))), (bDk B, .inl (cI, 4000, .inl (mDk u8))), (bDu B, .inl (cI, 4000, .inl (mDu u8))), (bDe B, .inl (cJ, 4000, .inr (.inl (mDe u8)))), (bDt B, .inl (cJ, 4000, .inr (.inl (mDt u8)))), (bDo B, .inl (cI, 4000, .inl (mDo u8)))] H _ := hw
            obtain ⟨hu9, hr9⟩ := hu9
            subst hu9
            have hr9 := hr9.trans (if_neg (by decide))
            subst hr9
            refine lv_if_ne (tgt := 87) F.1 F.2.1 dX4_set_82 (by decide) (fun c82 => ?_) (fun c82 => ?_)
            · exact (c82 (by decide)).elim
            refine lv_iconst (v := 0) F.1 F.2.1 dX4_set_85 (by decide) ?_
            exact x_iret (f := fun u9 : MR => wMo cI cJ cZ B u9) (mCode (mSetC v 2), (mW (mSetC v 2)), (mIt (mSetC v 2)), (mCk (mSetC v 2)), (mNu (mSetC v 2)), (mKe (mSetC v 2)), (mTi (mSetC v 2)), (mGa (mSetC v 2)), (mOf (mSetC v 2)), (mNw (mSetC v 2)), (mCn (mSetC v 2)), mKp (mSetC v 2), mDn (mSetC v 2), (mDk (mSetC v 2)), (mDu (mSetC v 2)), (mDe (mSetC v 2)), (mDt (mSetC v 2)), (mDo (mSetC v 2))) F hr hlk hw (Or.inr (Or.inl ⟨⟨if_nz hr4 c7, if_nz hr16 c19, if_nz hr28 c31, if_nz hr41 c44⟩, (nI_eq (by have h9 := cnt_le (fun j9 => decide (mIt v j9 = 1)) (mW v 0); omega) (by decide)).mp c71, rfl⟩)) dX4_set_86

set_option maxHeartbeats 8000000 in
set_option maxRecDepth 100000 in
/-- move(timer, t) -/
theorem c_X4_move (l : Launch) (G : va_G) (cI cJ cZ cO : ClassId) (sz : Nat) (B : MA) (v : MR) (x : Int32) (t : Int64) (hw0 : mW v 0 ≤ 80) : Met l yX4_move wsX4_move ({ frames := 1, cells := 0, slots := 0, locals := 25 }) (xPc G (xK cI cJ cZ cO) sz [.ref (bH B), .int x, .long t] (wMo cI cJ cZ B v)) (va_Ql (fun r u2 => (¬ gTim t ∧ u2 = mSetC v 1) ∨ (gTim t ∧ (∀ k, k < mW v 0 → mIt v k ≠ 0 → mNu v k ≠ x) ∧ u2 = mSetC v 2) ∨ (gTim t ∧ ∃ k, k < mW v 0 ∧ mIt v k ≠ 0 ∧ mNu v k = x ∧ u2 = mSetT (mSetC v 0) k t ∧ r = mTi v k)) (xB G (xK cI cJ cZ cO) (wMo cI cJ cZ B v) sz (fun u9 : MR => wMo cI cJ cZ B u9)) (va_A (wMo cI cJ cZ B v) sz)) 0 0 (va_A (wMo cI cJ cZ B v) sz) := by
  refine x_body (by decide) rfl (Nat.le_of_ble_eq_true rfl) ?_
  intro p e s m below meth c F hr hlk hnm hsz hw ls hl
  subst hsz
  have F : CallFix p m c cX4_move 7 s _ wsX4_move RX4 := F
  have hl : lv_has ls 7 [(0, .ref (bH B)), (1, .int x), (2, .long t)] := hl
  have hw : xW G (xK cI cJ cZ cO) _ s.heap s [(bH B, .inr (4, [.int (mCode v), .ref (bW B), .ref (bIt B), .ref (bCk B), .ref (bNu B), .ref (bKe B), .ref (bTi B), .ref (bGa B), .ref (bOf B), .ref (bNw B), .ref (bCn B), .int (nI (mKp v)), .int (nI (mDn v)), .ref (bDk B), .ref (bDu B), .ref (bDe B), .ref (bDt B), .ref (bDo B)])), (bW B, .inl (cI, 4, .inl (fun j9 => nI (mW v j9)))), (bIt B, .inl (cZ, 320, .inl (mIt v))), (bCk B, .inl (cI, 320, .inl (mCk v))), (bNu B, .inl (cI, 320, .inl (mNu v))), (bKe B, .inl (cJ, 320, .inr (.inl (mKe v)))), (bTi B, .inl (cJ, 320, .inr (.inl (mTi v)))), (bGa B, .inl (cJ, 320, .inr (.inl (mGa v)))), (bOf B, .inl (cI, 320, .inl (mOf v))), (bNw B, .inl (cJ, 8, .inr (.inl (mNw v)))), (bCn B, .inl (cI, 16, .inl (mCn v))), (bDk B, .inl (cI, 4000, .inl (mDk v))), (bDu B, .inl (cI, 4000, .inl (mDu v))), (bDe B, .inl (cJ, 4000, .inr (.inl (mDe v)))), (bDt B, .inl (cJ, 4000, .inr (.inl (mDt v)))), (bDo B, .inl (cI, 4000, .inl (mDo v)))] s.heap [] := hw
  have iX4 : ∀ w ∈ wsX40, w ∈ wsX4_move := by decide +kernel
  refine lv_aload_n F.1 F.2.1 dX4_move_0 rfl (lv_at hl 0 rfl) ?_
  refine lv_iload_n F.1 F.2.1 dX4_move_1 rfl (lv_at hl 1 rfl) ?_
  refine x_ri (va_runV (As := [.int x]) (rest := []) F (c_X4_find l G cI cJ cZ cO (Array.size _) B v x hw0) (cwV 1 F.2.2.2.2 gX4_move_X4_find rfl rfl rfl (by decide +kernel) ⟨Nat.le_of_ble_eq_true rfl, Nat.le_of_ble_eq_true rfl⟩) (x_preVW hw [0, 1, 2, 3, 4, 5, 6, 7, 8, 9, 10, 11, 12, 13, 14, 15] rfl (by decide) 0 rfl rfl) rfl rfl hl.1 rfl (lv_room (Nat.le_of_ble_eq_true rfl)) dX4_move_2 ⟨Nat.le_of_ble_eq_true rfl, Nat.le_of_ble_eq_true rfl⟩) (fun r2 hr2 => ?_)
  refine lv_istore (lv' := [(4, .int r2), (0, .ref (bH B)), (1, .int x), (2, .long t)]) F.1 F.2.1 dX4_move_5 hl (by decide) rfl (fun ls hl => ?_)
  refine lv_aload_n F.1 F.2.1 dX4_move_7 rfl (lv_at hl 1 rfl) ?_
  refine lv_lload_n F.1 F.2.1 dX4_move_8 rfl (lv_at hl 3 rfl) ?_
  refine lv_lconst (v := 0) F.1 F.2.1 dX4_move_9 (by decide) ?_
  refine lv_ldc2 (v := 1000000000000) F.1 F.2.1 F.2.2.2.1 (F.2.2.2.2 _ (List.mem_of_getElem? (i := 1) rfl)) dX4_move_10 ?_
  refine x_ri (va_runS (As := [.long t, .long 0, .long 1000000000000]) (rest := [.ref (bH B)]) F (c_X4_isIn l G cI cJ cZ cO (Array.size _) t 0 1000000000000) (va_cwS 3 F.2.2.2.2 gX4_move_X4_isIn rfl rfl rfl (by decide +kernel) ⟨Nat.le_of_ble_eq_true rfl, Nat.le_of_ble_eq_true rfl⟩) (x_preSW hw [] rfl (by decide)) rfl rfl hl.1 rfl (lv_room (Nat.le_of_ble_eq_true rfl)) dX4_move_13 ⟨Nat.le_of_ble_eq_true rfl, Nat.le_of_ble_eq_true rfl⟩) (fun r13 hr13 => ?_)
  refine lv_if_ne (tgt := 23) F.1 F.2.1 dX4_move_16 (by decide) (fun c16 => ?_) (fun c16 => ?_)
  · refine lv_iload F.1 F.2.1 dX4_move_23 (lv_at hl 0 rfl) ?_
    refine lv_if_ge (tgt := 32) F.1 F.2.1 dX4_move_25 (by decide) (fun c25 => ?_) (fun c25 => ?_)
    · refine lv_iconst (v := 0) F.1 F.2.1 dX4_move_32 (by decide) ?_
      refine x_wi (wr := []) (va_runV (As := [.int 0]) (rest := []) F (c_X4_isGood l G cI cJ cZ cO (Array.size _) B v 0) (cwV 1 F.2.2.2.2 gX4_move_X4_isGood rfl rfl rfl (by decide +kernel) ⟨Nat.le_of_ble_eq_true rfl, Nat.le_of_ble_eq_true rfl⟩) (x_preVW hw [0, 1, 2, 3, 4, 5, 6, 7, 8, 9, 10, 11, 12, 13, 14, 15] rfl (by decide) 0 rfl rfl) rfl rfl hl.1 rfl (lv_room (Nat.le_of_ble_eq_true rfl)) dX4_move_33 ⟨Nat.le_of_ble_eq_true rfl, Nat.le_of_ble_eq_true rfl⟩) hw [0, 1, 2, 3, 4, 5, 6, 7, 8, 9, 10, 11, 12, 13, 14, 15] [] rfl rfl (by decide) (by decide) (fun r9 u8 H locs hu9 hw => ?_)
      have hw : xW G (xK cI cJ cZ cO) _ s.heap s [(bH B, .inr (4, [.int (mCode u8), .ref (bW B), .ref (bIt B), .ref (bCk B), .ref (bNu B), .ref (bKe B), .ref (bTi B), .ref (bGa B), .ref (bOf B), .ref (bNw B), .ref (bCn B), .int (nI (mKp u8)), .int (nI (mDn u8)), .ref (bDk B), .ref (bDu B), .ref (bDe B), .ref (bDt B), .ref (bDo B)])), (bW B, .inl (cI, 4, .inl (fun j9 => nI (mW u8 j9)))), (bIt B, .inl (cZ, 320, .inl (mIt u8))), (bCk B, .inl (cI, 320, .inl (mCk u8))), (bNu B, .inl (cI, 320, .inl (mNu u8))), (bKe B, .inl (cJ, 320, .inr (.inl (mKe u8)))), (bTi B, .inl (cJ, 320, .inr (.inl (mTi u8)))), (bGa B, .inl (cJ, 320, .inr (.inl (mGa u8)))), (bOf B, .inl (cI, 320, .inl (mOf u8))), (bNw B, .inl (cJ, 8, .inr (.inl (mNw u8)))), (bCn B, .inl (cI, 16, .inl (mCn u8))), (bDk B, .inl (cI, 4000, .inl (mDk u8))), (bDu B, .inl (cI, 4000, .inl (mDu u8))), (bDe B, .inl (cJ, 4000, .inr (.inl (mDe u8)))), (bDt B, .inl (cJ, 4000, .inr (.inl (mDt u8)))), (bDo B, .inl (cI, 4000, .inl (mDo u8)))] H _ := hw
      obtain ⟨hu9, hr9⟩ := hu9
      subst hu9
      have hr9 := hr9.trans (if_pos rfl)
      subst hr9
      refine lv_if_ne (tgt := 41) F.1 F.2.1 dX4_move_36 (by decide) (fun c36 => ?_) (fun c36 => ?_)
      rotate_left
      · exact absurd c36 (by decide)
      obtain ⟨k9, hk9, hit9, hnu9, rfl⟩ : ∃ k, k < mW v 0 ∧ mIt v k ≠ 0 ∧ mNu v k = x ∧ r2 = nI k := by
        rcases hr2 with h | h
        · exact h
        · exact absurd h.2 (fun e => by rw [e] at c25; exact absurd c25 (by decide))
      refine lv_aload_n F.1 F.2.1 dX4_move_41 rfl (lv_at hl 1 rfl) ?_
      refine x_get F hw iX4 0 rfl rfl 6 (by decide) rfl (List.mem_of_getElem? (i := 2) rfl) rfl dX4_move_42 ?_
      refine lv_iload F.1 F.2.1 dX4_move_45 (lv_at hl 0 rfl) ?_
      refine x_laldN F hw 6 1 rfl rfl k9 rfl (by omega) (by decide) dX4_move_47 ?_
      refine lv_lstore (lv' := [(5, .long (mTi (mSetC v 0) k9)), (4, .int (nI k9)), (0, .ref (bH B)), (1, .int x), (2, .long t)]) F.1 F.2.1 dX4_move_48 hl (by decide) rfl (fun ls hl => ?_)
      refine lv_aload_n F.1 F.2.1 dX4_move_50 rfl (lv_at hl 2 rfl) ?_
      refine x_get F hw iX4 0 rfl rfl 6 (by decide) rfl (List.mem_of_getElem? (i := 2) rfl) rfl dX4_move_51 ?_
      refine lv_iload F.1 F.2.1 dX4_move_54 (lv_at hl 1 rfl) ?_
      refine lv_lload_n F.1 F.2.1 dX4_move_56 rfl (lv_at hl 4 rfl) ?_
      refine x_lastN F hw 6 1 rfl rfl k9 rfl (by omega) (by decide) dX4_move_57 (fun H locs hw => ?_)
      have hw : xW G (xK cI cJ cZ cO) _ s.heap s [(bH B, .inr (4, [.int (mCode (mSetC v 0)), .ref (bW B), .ref (bIt B), .ref (bCk B), .ref (bNu B), .ref (bKe B), .ref (bTi B), .ref (bGa B), .ref (bOf B), .ref (bNw B), .ref (bCn B), .int (nI (mKp (mSetC v 0))), .int (nI (mDn (mSetC v 0))), .ref (bDk B), .ref (bDu B), .ref (bDe B), .ref (bDt B), .ref (bDo B)])), (bW B, .inl (cI, 4, .inl (fun j9 => nI (mW (mSetC v 0) j9)))), (bIt B, .inl (cZ, 320, .inl (mIt (mSetC v 0)))), (bCk B, .inl (cI, 320, .inl (mCk (mSetC v 0)))), (bNu B, .inl (cI, 320, .inl (mNu (mSetC v 0)))), (bKe B, .inl (cJ, 320, .inr (.inl (mKe (mSetC v 0))))), (bTi B, .inl (cJ, 320, .inr (.inl (vp_updL (mTi (mSetC v 0)) k9 t)))), (bGa B, .inl (cJ, 320, .inr (.inl (mGa (mSetC v 0))))), (bOf B, .inl (cI, 320, .inl (mOf (mSetC v 0)))), (bNw B, .inl (cJ, 8, .inr (.inl (mNw (mSetC v 0))))), (bCn B, .inl (cI, 16, .inl (mCn (mSetC v 0)))), (bDk B, .inl (cI, 4000, .inl (mDk (mSetC v 0)))), (bDu B, .inl (cI, 4000, .inl (mDu (mSetC v 0)))), (bDe B, .inl (cJ, 4000, .inr (.inl (mDe (mSetC v 0))))), (bDt B, .inl (cJ, 4000, .inr (.inl (mDt (mSetC v 0))))), (bDo B, .inl (cI, 4000, .inl (mDo (mSetC v 0))))] H _ := hw
      refine lv_lload F.1 F.2.1 dX4_move_58 (lv_at hl 0 rfl) ?_
      exact x_lret (f := fun u9 : MR => wMo cI cJ cZ B u9) (mCode (mSetC v 0), (mW (mSetC v 0)), (mIt (mSetC v 0)), (mCk (mSetC v 0)), (mNu (mSetC v 0)), (mKe (mSetC v 0)), (vp_updL (mTi (mSetC v 0)) k9 t), (mGa (mSetC v 0)), (mOf (mSetC v 0)), (mNw (mSetC v 0)), (mCn (mSetC v 0)), mKp (mSetC v 0), mDn (mSetC v 0), (mDk (mSetC v 0)), (mDu (mSetC v 0)), (mDe (mSetC v 0)), (mDt (mSetC v 0)), (mDo (mSetC v 0))) F hr hlk hw (Or.inr (Or.inr ⟨if_nz hr13 c16, k9, hk9, hit9, hnu9, rfl, rfl⟩)) dX4_move_60
    · refine lv_iconst (v := 2) F.1 F.2.1 dX4_move_28 (by decide) ?_
      refine lv_goto (tgt := 33) F.1 F.2.1 dX4_move_29 (by decide) ?_
      refine x_wi (wr := []) (va_runV (As := [.int 2]) (rest := []) F (c_X4_isGood l G cI cJ cZ cO (Array.size _) B v 2) (cwV 1 F.2.2.2.2 gX4_move_X4_isGood rfl rfl rfl (by decide +kernel) ⟨Nat.le_of_ble_eq_true rfl, Nat.le_of_ble_eq_true rfl⟩) (x_preVW hw [0, 1, 2, 3, 4, 5, 6, 7, 8, 9, 10, 11, 12, 13, 14, 15] rfl (by decide) 0 rfl rfl) rfl rfl hl.1 rfl (lv_room (Nat.le_of_ble_eq_true rfl)) dX4_move_33 ⟨Nat.le_of_ble_eq_true rfl, Nat.le_of_ble_eq_true rfl⟩) hw [0, 1, 2, 3, 4, 5, 6, 7, 8, 9, 10, 11, 12, 13, 14, 15] [] rfl rfl (by decide) (by decide) (fun r9 u8 H locs hu9 hw => ?_)
      have hw : xW G (xK cI cJ cZ cO) _ s.heap s [(bH B, .inr (4, [.int (mCode u8), .ref (bW B), .ref (bIt B), .ref (bCk B), .ref (bNu B), .ref (bKe B), .ref (bTi B), .ref (bGa B), .ref (bOf B), .ref (bNw B), .ref (bCn B), .int (nI (mKp u8)), .int (nI (mDn u8)), .ref (bDk B), .ref (bDu B), .ref (bDe B), .ref (bDt B), .ref (bDo B)])), (bW B, .inl (cI, 4, .inl (fun j9 => nI (mW u8 j9)))), (bIt B, .inl (cZ, 320, .inl (mIt u8))), (bCk B, .inl (cI, 320, .inl (mCk u8))), (bNu B, .inl (cI, 320, .inl (mNu u8))), (bKe B, .inl (cJ, 320, .inr (.inl (mKe u8)))), (bTi B, .inl (cJ, 320, .inr (.inl (mTi u8)))), (bGa B, .inl (cJ, 320, .inr (.inl (mGa u8)))), (bOf B, .inl (cI, 320, .inl (mOf u8))), (bNw B, .inl (cJ, 8, .inr (.inl (mNw u8)))), (bCn B, .inl (cI, 16, .inl (mCn u8))), (bDk B, .inl (cI, 4000, .inl (mDk u8))), (bDu B, .inl (cI, 4000, .inl (mDu u8))), (bDe B, .inl (cJ, 4000, .inr (.inl (mDe u8)))), (bDt B, .inl (cJ, 4000, .inr (.inl (mDt u8)))), (bDo B, .inl (cI, 4000, .inl (mDo u8)))] H _ := hw
      obtain ⟨hu9, hr9⟩ := hu9
      subst hu9
      have hr9 := hr9.trans (if_neg (by decide))
      subst hr9
      refine lv_if_ne (tgt := 41) F.1 F.2.1 dX4_move_36 (by decide) (fun c36 => ?_) (fun c36 => ?_)
      · exact (c36 (by decide)).elim
      have hno9 : ∀ k, k < mW v 0 → mIt v k ≠ 0 → mNu v k ≠ x := by
        rcases hr2 with ⟨k, hk, -, -, e⟩ | h
        · rw [e] at c25; exact absurd c25 (fun h => h (nI_pos' (by omega)))
        · exact h.1
      refine lv_lconst (v := 0) F.1 F.2.1 dX4_move_39 (by decide) ?_
      exact x_lret (f := fun u9 : MR => wMo cI cJ cZ B u9) (mCode (mSetC v 2), (mW (mSetC v 2)), (mIt (mSetC v 2)), (mCk (mSetC v 2)), (mNu (mSetC v 2)), (mKe (mSetC v 2)), (mTi (mSetC v 2)), (mGa (mSetC v 2)), (mOf (mSetC v 2)), (mNw (mSetC v 2)), (mCn (mSetC v 2)), mKp (mSetC v 2), mDn (mSetC v 2), (mDk (mSetC v 2)), (mDu (mSetC v 2)), (mDe (mSetC v 2)), (mDt (mSetC v 2)), (mDo (mSetC v 2))) F hr hlk hw (Or.inr (Or.inl ⟨if_nz hr13 c16, hno9, rfl⟩)) dX4_move_40
  · refine lv_iconst (v := 1) F.1 F.2.1 dX4_move_19 (by decide) ?_
    refine lv_goto (tgt := 33) F.1 F.2.1 dX4_move_20 (by decide) ?_
    refine x_wi (wr := []) (va_runV (As := [.int 1]) (rest := []) F (c_X4_isGood l G cI cJ cZ cO (Array.size _) B v 1) (cwV 1 F.2.2.2.2 gX4_move_X4_isGood rfl rfl rfl (by decide +kernel) ⟨Nat.le_of_ble_eq_true rfl, Nat.le_of_ble_eq_true rfl⟩) (x_preVW hw [0, 1, 2, 3, 4, 5, 6, 7, 8, 9, 10, 11, 12, 13, 14, 15] rfl (by decide) 0 rfl rfl) rfl rfl hl.1 rfl (lv_room (Nat.le_of_ble_eq_true rfl)) dX4_move_33 ⟨Nat.le_of_ble_eq_true rfl, Nat.le_of_ble_eq_true rfl⟩) hw [0, 1, 2, 3, 4, 5, 6, 7, 8, 9, 10, 11, 12, 13, 14, 15] [] rfl rfl (by decide) (by decide) (fun r9 u8 H locs hu9 hw => ?_)
    have hw : xW G (xK cI cJ cZ cO) _ s.heap s [(bH B, .inr (4, [.int (mCode u8), .ref (bW B), .ref (bIt B), .ref (bCk B), .ref (bNu B), .ref (bKe B), .ref (bTi B), .ref (bGa B), .ref (bOf B), .ref (bNw B), .ref (bCn B), .int (nI (mKp u8)), .int (nI (mDn u8)), .ref (bDk B), .ref (bDu B), .ref (bDe B), .ref (bDt B), .ref (bDo B)])), (bW B, .inl (cI, 4, .inl (fun j9 => nI (mW u8 j9)))), (bIt B, .inl (cZ, 320, .inl (mIt u8))), (bCk B, .inl (cI, 320, .inl (mCk u8))), (bNu B, .inl (cI, 320, .inl (mNu u8))), (bKe B, .inl (cJ, 320, .inr (.inl (mKe u8)))), (bTi B, .inl (cJ, 320, .inr (.inl (mTi u8)))), (bGa B, .inl (cJ, 320, .inr (.inl (mGa u8)))), (bOf B, .inl (cI, 320, .inl (mOf u8))), (bNw B, .inl (cJ, 8, .inr (.inl (mNw u8)))), (bCn B, .inl (cI, 16, .inl (mCn u8))), (bDk B, .inl (cI, 4000, .inl (mDk u8))), (bDu B, .inl (cI, 4000, .inl (mDu u8))), (bDe B, .inl (cJ, 4000, .inr (.inl (mDe u8)))), (bDt B, .inl (cJ, 4000, .inr (.inl (mDt u8)))), (bDo B, .inl (cI, 4000, .inl (mDo u8)))] H _ := hw
    obtain ⟨hu9, hr9⟩ := hu9
    subst hu9
    have hr9 := hr9.trans (if_neg (by decide))
    subst hr9
    refine lv_if_ne (tgt := 41) F.1 F.2.1 dX4_move_36 (by decide) (fun c36 => ?_) (fun c36 => ?_)
    · exact (c36 (by decide)).elim
    refine lv_lconst (v := 0) F.1 F.2.1 dX4_move_39 (by decide) ?_
    exact x_lret (f := fun u9 : MR => wMo cI cJ cZ B u9) (mCode (mSetC v 1), (mW (mSetC v 1)), (mIt (mSetC v 1)), (mCk (mSetC v 1)), (mNu (mSetC v 1)), (mKe (mSetC v 1)), (mTi (mSetC v 1)), (mGa (mSetC v 1)), (mOf (mSetC v 1)), (mNw (mSetC v 1)), (mCn (mSetC v 1)), mKp (mSetC v 1), mDn (mSetC v 1), (mDk (mSetC v 1)), (mDu (mSetC v 1)), (mDe (mSetC v 1)), (mDt (mSetC v 1)), (mDo (mSetC v 1))) F hr hlk hw (Or.inl ⟨if_z hr13 c16, rfl⟩) dX4_move_40

set_option maxHeartbeats 8000000 in
set_option maxRecDepth 100000 in
/-- cancel(timer) -/
theorem c_X4_cancel (l : Launch) (G : va_G) (cI cJ cZ cO : ClassId) (sz : Nat) (B : MA) (v : MR) (x : Int32) (hz : ∀ j, mIt v j = 0 ∨ mIt v j = 1) (hw0 : mW v 0 ≤ 80) : Met l yX4_cancel wsX4_cancel ({ frames := 2, cells := 0, slots := 0, locals := 43 }) (xPc G (xK cI cJ cZ cO) sz [.ref (bH B), .int x] (wMo cI cJ cZ B v)) (va_Qi (fun r u2 => ((∀ k, k < mW v 0 → mIt v k ≠ 0 → mNu v k ≠ x) ∧ u2 = mSetC v 0 ∧ r = 0) ∨ (∃ k, k < mW v 0 ∧ mIt v k ≠ 0 ∧ mNu v k = x ∧ u2 = mTake (mSetC v 0) k ∧ r = 1)) (xB G (xK cI cJ cZ cO) (wMo cI cJ cZ B v) sz (fun u9 : MR => wMo cI cJ cZ B u9)) (va_A (wMo cI cJ cZ B v) sz)) 0 0 (va_A (wMo cI cJ cZ B v) sz) := by
  refine x_body (by decide) rfl (Nat.le_of_ble_eq_true rfl) ?_
  intro p e s m below meth c F hr hlk hnm hsz hw ls hl
  subst hsz
  have F : CallFix p m c cX4_cancel 3 s _ wsX4_cancel RX4 := F
  have hl : lv_has ls 3 [(0, .ref (bH B)), (1, .int x)] := hl
  have hw : xW G (xK cI cJ cZ cO) _ s.heap s [(bH B, .inr (4, [.int (mCode v), .ref (bW B), .ref (bIt B), .ref (bCk B), .ref (bNu B), .ref (bKe B), .ref (bTi B), .ref (bGa B), .ref (bOf B), .ref (bNw B), .ref (bCn B), .int (nI (mKp v)), .int (nI (mDn v)), .ref (bDk B), .ref (bDu B), .ref (bDe B), .ref (bDt B), .ref (bDo B)])), (bW B, .inl (cI, 4, .inl (fun j9 => nI (mW v j9)))), (bIt B, .inl (cZ, 320, .inl (mIt v))), (bCk B, .inl (cI, 320, .inl (mCk v))), (bNu B, .inl (cI, 320, .inl (mNu v))), (bKe B, .inl (cJ, 320, .inr (.inl (mKe v)))), (bTi B, .inl (cJ, 320, .inr (.inl (mTi v)))), (bGa B, .inl (cJ, 320, .inr (.inl (mGa v)))), (bOf B, .inl (cI, 320, .inl (mOf v))), (bNw B, .inl (cJ, 8, .inr (.inl (mNw v)))), (bCn B, .inl (cI, 16, .inl (mCn v))), (bDk B, .inl (cI, 4000, .inl (mDk v))), (bDu B, .inl (cI, 4000, .inl (mDu v))), (bDe B, .inl (cJ, 4000, .inr (.inl (mDe v)))), (bDt B, .inl (cJ, 4000, .inr (.inl (mDt v)))), (bDo B, .inl (cI, 4000, .inl (mDo v)))] s.heap [] := hw
  have iX4 : ∀ w ∈ wsX40, w ∈ wsX4_cancel := by decide +kernel
  refine lv_aload_n F.1 F.2.1 dX4_cancel_0 rfl (lv_at hl 0 rfl) ?_
  refine lv_iconst (v := 0) F.1 F.2.1 dX4_cancel_1 (by decide) ?_
  refine x_put F hw iX4 tyX4 tyX4_ok nmX4 0 rfl rfl 0 (by decide) rfl (List.mem_of_getElem? (i := 1) rfl) (rfl) (rfl) (Nat.le_of_ble_eq_true rfl) dX4_cancel_2 (fun H locs hw => ?_)
  have hw : xW G (xK cI cJ cZ cO) _ s.heap s [(bH B, .inr (4, [.int 0, .ref (bW B), .ref (bIt B), .ref (bCk B), .ref (bNu B), .ref (bKe B), .ref (bTi B), .ref (bGa B), .ref (bOf B), .ref (bNw B), .ref (bCn B), .int (nI (mKp v)), .int (nI (mDn v)), .ref (bDk B), .ref (bDu B), .ref (bDe B), .ref (bDt B), .ref (bDo B)])), (bW B, .inl (cI, 4, .inl (fun j9 => nI (mW v j9)))), (bIt B, .inl (cZ, 320, .inl (mIt v))), (bCk B, .inl (cI, 320, .inl (mCk v))), (bNu B, .inl (cI, 320, .inl (mNu v))), (bKe B, .inl (cJ, 320, .inr (.inl (mKe v)))), (bTi B, .inl (cJ, 320, .inr (.inl (mTi v)))), (bGa B, .inl (cJ, 320, .inr (.inl (mGa v)))), (bOf B, .inl (cI, 320, .inl (mOf v))), (bNw B, .inl (cJ, 8, .inr (.inl (mNw v)))), (bCn B, .inl (cI, 16, .inl (mCn v))), (bDk B, .inl (cI, 4000, .inl (mDk v))), (bDu B, .inl (cI, 4000, .inl (mDu v))), (bDe B, .inl (cJ, 4000, .inr (.inl (mDe v)))), (bDt B, .inl (cJ, 4000, .inr (.inl (mDt v)))), (bDo B, .inl (cI, 4000, .inl (mDo v)))] H _ := hw
  have hw : xW G (xK cI cJ cZ cO) _ s.heap s [(bH B, .inr (4, [.int (mCode (mSetC v 0)), .ref (bW B), .ref (bIt B), .ref (bCk B), .ref (bNu B), .ref (bKe B), .ref (bTi B), .ref (bGa B), .ref (bOf B), .ref (bNw B), .ref (bCn B), .int (nI (mKp (mSetC v 0))), .int (nI (mDn (mSetC v 0))), .ref (bDk B), .ref (bDu B), .ref (bDe B), .ref (bDt B), .ref (bDo B)])), (bW B, .inl (cI, 4, .inl (fun j9 => nI (mW (mSetC v 0) j9)))), (bIt B, .inl (cZ, 320, .inl (mIt (mSetC v 0)))), (bCk B, .inl (cI, 320, .inl (mCk (mSetC v 0)))), (bNu B, .inl (cI, 320, .inl (mNu (mSetC v 0)))), (bKe B, .inl (cJ, 320, .inr (.inl (mKe (mSetC v 0))))), (bTi B, .inl (cJ, 320, .inr (.inl (mTi (mSetC v 0))))), (bGa B, .inl (cJ, 320, .inr (.inl (mGa (mSetC v 0))))), (bOf B, .inl (cI, 320, .inl (mOf (mSetC v 0)))), (bNw B, .inl (cJ, 8, .inr (.inl (mNw (mSetC v 0))))), (bCn B, .inl (cI, 16, .inl (mCn (mSetC v 0)))), (bDk B, .inl (cI, 4000, .inl (mDk (mSetC v 0)))), (bDu B, .inl (cI, 4000, .inl (mDu (mSetC v 0)))), (bDe B, .inl (cJ, 4000, .inr (.inl (mDe (mSetC v 0))))), (bDt B, .inl (cJ, 4000, .inr (.inl (mDt (mSetC v 0))))), (bDo B, .inl (cI, 4000, .inl (mDo (mSetC v 0))))] H _ := hw
  refine lv_aload_n F.1 F.2.1 dX4_cancel_5 rfl (lv_at hl 0 rfl) ?_
  refine lv_iload_n F.1 F.2.1 dX4_cancel_6 rfl (lv_at hl 1 rfl) ?_
  refine x_ri (va_runV (As := [.int x]) (rest := []) F (c_X4_find l G cI cJ cZ cO (Array.size _) B (mSetC v 0) x hw0) (cwV 1 F.2.2.2.2 gX4_cancel_X4_find rfl rfl rfl (by decide +kernel) ⟨Nat.le_of_ble_eq_true rfl, Nat.le_of_ble_eq_true rfl⟩) (x_preVW hw [0, 1, 2, 3, 4, 5, 6, 7, 8, 9, 10, 11, 12, 13, 14, 15] rfl (by decide) 0 rfl rfl) rfl rfl hl.1 rfl (lv_room (Nat.le_of_ble_eq_true rfl)) dX4_cancel_7 ⟨Nat.le_of_ble_eq_true rfl, Nat.le_of_ble_eq_true rfl⟩) (fun r7 hr7 => ?_)
  refine lv_istore_n (lv' := [(2, .int r7), (0, .ref (bH B)), (1, .int x)]) F.1 F.2.1 dX4_cancel_10 rfl hl (by decide) rfl (fun ls hl => ?_)
  refine lv_iload_n F.1 F.2.1 dX4_cancel_11 rfl (lv_at hl 0 rfl) ?_
  refine lv_if_lt (tgt := 20) F.1 F.2.1 dX4_cancel_12 (by decide) (fun c12 => ?_) (fun c12 => ?_)
  · refine lv_iload_n F.1 F.2.1 dX4_cancel_20 rfl (lv_at hl 0 rfl) ?_
    refine lv_if_lt (tgt := 28) F.1 F.2.1 dX4_cancel_21 (by decide) (fun c21 => ?_) (fun c21 => ?_)
    rotate_left
    · exact absurd c12 c21
    have hno9 : ∀ k, k < mW v 0 → mIt v k ≠ 0 → mNu v k ≠ x := by
      rcases hr7 with ⟨k, hk, -, -, e⟩ | h
      · rw [e] at c12; exact absurd c12 (nI_pos (by have h9 : mW (mSetC v 0) 0 = mW v 0 := rfl; omega))
      · exact h.1
    refine lv_iconst (v := 0) F.1 F.2.1 dX4_cancel_28 (by decide) ?_
    exact x_zret (f := fun u9 : MR => wMo cI cJ cZ B u9) (mCode (mSetC v 0), (mW (mSetC v 0)), (mIt (mSetC v 0)), (mCk (mSetC v 0)), (mNu (mSetC v 0)), (mKe (mSetC v 0)), (mTi (mSetC v 0)), (mGa (mSetC v 0)), (mOf (mSetC v 0)), (mNw (mSetC v 0)), (mCn (mSetC v 0)), mKp (mSetC v 0), mDn (mSetC v 0), (mDk (mSetC v 0)), (mDu (mSetC v 0)), (mDe (mSetC v 0)), (mDt (mSetC v 0)), (mDo (mSetC v 0))) F hr hlk (rfl) hw (Or.inl ⟨hno9, rfl, rfl⟩) dX4_cancel_29
  · obtain ⟨k9, hk9, hit9, hnu9, rfl⟩ : ∃ k, k < mW v 0 ∧ mIt v k ≠ 0 ∧ mNu v k = x ∧ r7 = nI k := by
      rcases hr7 with h | h
      · exact h
      · exact absurd (by rw [h.2]; decide) c12
    refine lv_aload_n F.1 F.2.1 dX4_cancel_15 rfl (lv_at hl 1 rfl) ?_
    refine lv_iload_n F.1 F.2.1 dX4_cancel_16 rfl (lv_at hl 0 rfl) ?_
    refine x_wv (wr := []) (va_runV (As := [.int (nI k9)]) (rest := []) F (c_X4_take l G cI cJ cZ cO (Array.size _) B (mSetC v 0) k9 hz hw0 hk9) (cwV 1 F.2.2.2.2 gX4_cancel_X4_take rfl rfl rfl (by decide +kernel) ⟨Nat.le_of_ble_eq_true rfl, Nat.le_of_ble_eq_true rfl⟩) (x_preVW hw [0, 1, 2, 3, 4, 5, 6, 7, 8, 9, 10, 11, 12, 13, 14, 15] rfl (by decide) 0 rfl rfl) rfl rfl hl.1 rfl (lv_room (Nat.le_of_ble_eq_true rfl)) dX4_cancel_17 ⟨Nat.le_of_ble_eq_true rfl, Nat.le_of_ble_eq_true rfl⟩) hw [0, 1, 2, 3, 4, 5, 6, 7, 8, 9, 10, 11, 12, 13, 14, 15] [] rfl rfl (by decide) (by decide) (fun u7 H locs hu7 hw => ?_)
    have hw : xW G (xK cI cJ cZ cO) _ s.heap s [(bH B, .inr (4, [.int (mCode u7), .ref (bW B), .ref (bIt B), .ref (bCk B), .ref (bNu B), .ref (bKe B), .ref (bTi B), .ref (bGa B), .ref (bOf B), .ref (bNw B), .ref (bCn B), .int (nI (mKp u7)), .int (nI (mDn u7)), .ref (bDk B), .ref (bDu B), .ref (bDe B), .ref (bDt B), .ref (bDo B)])), (bW B, .inl (cI, 4, .inl (fun j9 => nI (mW u7 j9)))), (bIt B, .inl (cZ, 320, .inl (mIt u7))), (bCk B, .inl (cI, 320, .inl (mCk u7))), (bNu B, .inl (cI, 320, .inl (mNu u7))), (bKe B, .inl (cJ, 320, .inr (.inl (mKe u7)))), (bTi B, .inl (cJ, 320, .inr (.inl (mTi u7)))), (bGa B, .inl (cJ, 320, .inr (.inl (mGa u7)))), (bOf B, .inl (cI, 320, .inl (mOf u7))), (bNw B, .inl (cJ, 8, .inr (.inl (mNw u7)))), (bCn B, .inl (cI, 16, .inl (mCn u7))), (bDk B, .inl (cI, 4000, .inl (mDk u7))), (bDu B, .inl (cI, 4000, .inl (mDu u7))), (bDe B, .inl (cJ, 4000, .inr (.inl (mDe u7)))), (bDt B, .inl (cJ, 4000, .inr (.inl (mDt u7)))), (bDo B, .inl (cI, 4000, .inl (mDo u7)))] H _ := hw
    subst hu7
    refine lv_iload_n F.1 F.2.1 dX4_cancel_20 rfl (lv_at hl 0 rfl) ?_
    refine lv_if_lt (tgt := 28) F.1 F.2.1 dX4_cancel_21 (by decide) (fun c21 => ?_) (fun c21 => ?_)
    · exact absurd c21 (nI_pos (by omega))
    refine lv_iconst (v := 1) F.1 F.2.1 dX4_cancel_24 (by decide) ?_
    refine lv_goto (tgt := 29) F.1 F.2.1 dX4_cancel_25 (by decide) ?_
    exact x_zret (f := fun u9 : MR => wMo cI cJ cZ B u9) (mCode (mTake (mSetC v 0) k9), (mW (mTake (mSetC v 0) k9)), (mIt (mTake (mSetC v 0) k9)), (mCk (mTake (mSetC v 0) k9)), (mNu (mTake (mSetC v 0) k9)), (mKe (mTake (mSetC v 0) k9)), (mTi (mTake (mSetC v 0) k9)), (mGa (mTake (mSetC v 0) k9)), (mOf (mTake (mSetC v 0) k9)), (mNw (mTake (mSetC v 0) k9)), (mCn (mTake (mSetC v 0) k9)), mKp (mTake (mSetC v 0) k9), mDn (mTake (mSetC v 0) k9), (mDk (mTake (mSetC v 0) k9)), (mDu (mTake (mSetC v 0) k9)), (mDe (mTake (mSetC v 0) k9)), (mDt (mTake (mSetC v 0) k9)), (mDo (mTake (mSetC v 0) k9))) F hr hlk (rfl) hw (Or.inr ⟨k9, hk9, hit9, hnu9, rfl, rfl⟩) dX4_cancel_29
