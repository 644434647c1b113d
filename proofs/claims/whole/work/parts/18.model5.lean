set_option maxHeartbeats 8000000 in
set_option maxRecDepth 100000 in
/-- done(i, what) -/
theorem c_X4_done (l : Launch) (G : va_G) (cI cJ cZ cO : ClassId) (sz : Nat) (B : MA) (v : MR) (x y : Int32) (hd : mDn v ≤ 4000) : Met l yX4_done wsX4_done ({ frames := 1, cells := 0, slots := 0, locals := 25 }) (xPc G (xK cI cJ cZ cO) sz [.ref (bH B), .int x, .int y] (wMo cI cJ cZ B v)) (va_Ql (fun r u2 => (¬ (0 ≤ y.toInt64 ∧ y.toInt64 ≤ 4) ∧ u2 = mSetC v 1) ∨ ((0 ≤ y.toInt64 ∧ y.toInt64 ≤ 4) ∧ (∀ j, j < mDn v → x ≠ nI j) ∧ u2 = mSetC v 2) ∨ ((0 ≤ y.toInt64 ∧ y.toInt64 ≤ 4) ∧ ∃ j, j < mDn v ∧ x = nI j ∧ u2 = mSetC v 0 ∧ r = if y = 0 then (mDk v j).toInt64 else if y = 1 then (mDu v j).toInt64 else if y = 2 then mDe v j else if y = 3 then mDt v j else (mDo v j).toInt64)) (xB G (xK cI cJ cZ cO) (wMo cI cJ cZ B v) sz (fun u9 : MR => wMo cI cJ cZ B u9)) (va_A (wMo cI cJ cZ B v) sz)) 0 0 (va_A (wMo cI cJ cZ B v) sz) := by
  refine x_body (by decide) rfl (Nat.le_of_ble_eq_true rfl) ?_
  intro p e s m below meth c F hr hlk hnm hsz hw ls hl
  subst hsz
  have F : CallFix p m c cX4_done 3 s _ wsX4_done RX4 := F
  have hl : lv_has ls 3 [(0, .ref (bH B)), (1, .int x), (2, .int y)] := hl
  have hw : xW G (xK cI cJ cZ cO) _ s.heap s [(bH B, .inr (4, [.int (mCode v), .ref (bW B), .ref (bIt B), .ref (bCk B), .ref (bNu B), .ref (bKe B), .ref (bTi B), .ref (bGa B), .ref (bOf B), .ref (bNw B), .ref (bCn B), .int (nI (mKp v)), .int (nI (mDn v)), .ref (bDk B), .ref (bDu B), .ref (bDe B), .ref (bDt B), .ref (bDo B)])), (bW B, .inl (cI, 4, .inl (fun j9 => nI (mW v j9)))), (bIt B, .inl (cZ, 320, .inl (mIt v))), (bCk B, .inl (cI, 320, .inl (mCk v))), (bNu B, .inl (cI, 320, .inl (mNu v))), (bKe B, .inl (cJ, 320, .inr (.inl (mKe v)))), (bTi B, .inl (cJ, 320, .inr (.inl (mTi v)))), (bGa B, .inl (cJ, 320, .inr (.inl (mGa v)))), (bOf B, .inl (cI, 320, .inl (mOf v))), (bNw B, .inl (cJ, 8, .inr (.inl (mNw v)))), (bCn B, .inl (cI, 16, .inl (mCn v))), (bDk B, .inl (cI, 4000, .inl (mDk v))), (bDu B, .inl (cI, 4000, .inl (mDu v))), (bDe B, .inl (cJ, 4000, .inr (.inl (mDe v)))), (bDt B, .inl (cJ, 4000, .inr (.inl (mDt v)))), (bDo B, .inl (cI, 4000, .inl (mDo v)))] s.heap [] := hw
  have iX4 : ∀ w ∈ wsX40, w ∈ wsX4_done := by decide +kernel
  refine lv_aload_n F.1 F.2.1 dX4_done_0 rfl (lv_at hl 0 rfl) ?_
  refine lv_iload_n F.1 F.2.1 dX4_done_1 rfl (lv_at hl 2 rfl) ?_
  refine lv_i2l (v := y.toInt64) F.1 F.2.1 dX4_done_2 (rfl) ?_
  refine lv_lconst (v := 0) F.1 F.2.1 dX4_done_3 (by decide) ?_
  refine lv_ldc2 (v := 4) F.1 F.2.1 F.2.2.2.1 (F.2.2.2.2 _ (List.mem_of_getElem? (i := 1) rfl)) dX4_done_4 ?_
  refine x_ri (va_runS (As := [.long y.toInt64, .long 0, .long 4]) (rest := [.ref (bH B)]) F (c_X4_isIn l G cI cJ cZ cO (Array.size _) y.toInt64 0 4) (va_cwS 3 F.2.2.2.2 gX4_done_X4_isIn rfl rfl rfl (by decide +kernel) ⟨Nat.le_of_ble_eq_true rfl, Nat.le_of_ble_eq_true rfl⟩) (x_preSW hw [] rfl (by decide)) rfl rfl hl.1 rfl (lv_room (Nat.le_of_ble_eq_true rfl)) dX4_done_7 ⟨Nat.le_of_ble_eq_true rfl, Nat.le_of_ble_eq_true rfl⟩) (fun r7 hr7 => ?_)
  refine lv_if_ne (tgt := 17) F.1 F.2.1 dX4_done_10 (by decide) (fun c10 => ?_) (fun c10 => ?_)
  · refine lv_iload_n F.1 F.2.1 dX4_done_17 rfl (lv_at hl 1 rfl) ?_
    refine lv_i2l (v := x.toInt64) F.1 F.2.1 dX4_done_18 (rfl) ?_
    refine lv_lconst (v := 0) F.1 F.2.1 dX4_done_19 (by decide) ?_
    refine lv_aload_n F.1 F.2.1 dX4_done_20 rfl (lv_at hl 0 rfl) ?_
    refine x_get F hw iX4 0 rfl rfl 12 (by decide) rfl (List.mem_of_getElem? (i := 2) rfl) rfl dX4_done_21 ?_
    refine lv_iconst (v := 1) F.1 F.2.1 dX4_done_24 (by decide) ?_
    refine lv_isub F.1 F.2.1 dX4_done_25 ?_
    refine lv_i2l (v := ((nI (mDn v)) - 1).toInt64) F.1 F.2.1 dX4_done_26 (rfl) ?_
    refine x_ri (va_runS (As := [.long x.toInt64, .long 0, .long (((nI (mDn v)) - 1).toInt64)]) (rest := [.ref (bH B)]) F (c_X4_isIn l G cI cJ cZ cO (Array.size _) x.toInt64 0 (((nI (mDn v)) - 1).toInt64)) (va_cwS 3 F.2.2.2.2 gX4_done_X4_isIn rfl rfl rfl (by decide +kernel) ⟨Nat.le_of_ble_eq_true rfl, Nat.le_of_ble_eq_true rfl⟩) (x_preSW hw [] rfl (by decide)) rfl rfl hl.1 rfl (lv_room (Nat.le_of_ble_eq_true rfl)) dX4_done_27 ⟨Nat.le_of_ble_eq_true rfl, Nat.le_of_ble_eq_true rfl⟩) (fun r27 hr27 => ?_)
    refine lv_if_ne (tgt := 37) F.1 F.2.1 dX4_done_30 (by decide) (fun c30 => ?_) (fun c30 => ?_)
    · refine lv_iconst (v := 0) F.1 F.2.1 dX4_done_37 (by decide) ?_
      refine x_wi (wr := []) (va_runV (As := [.int 0]) (rest := []) F (c_X4_isGood l G cI cJ cZ cO (Array.size _) B v 0) (cwV 1 F.2.2.2.2 gX4_done_X4_isGood rfl rfl rfl (by decide +kernel) ⟨Nat.le_of_ble_eq_true rfl, Nat.le_of_ble_eq_true rfl⟩) (x_preVW hw [0, 1, 2, 3, 4, 5, 6, 7, 8, 9, 10, 11, 12, 13, 14, 15] rfl (by decide) 0 rfl rfl) rfl rfl hl.1 rfl (lv_room (Nat.le_of_ble_eq_true rfl)) dX4_done_38 ⟨Nat.le_of_ble_eq_true rfl, Nat.le_of_ble_eq_true rfl⟩) hw [0, 1, 2, 3, 4, 5, 6, 7, 8, 9, 10, 11, 12, 13, 14, 15] [] rfl rfl (by decide) (by decide) (fun r9 u8 H locs hu9 hw => ?_)
      have hw : xW G (xK cI cJ cZ cO) _ s.heap s [(bH B, .inr (4, [.int (mCode u8), .ref (bW B), .ref (bIt B), .ref (bCk B), .ref (bNu B), .ref (bKe B), .ref (bTi B), .ref (bGa B), .ref (bOf B), .ref (bNw B), .ref (bCn B), .int (nI (mKp u8)), .int (nI (mDn u8)), .ref (bDk B), .ref (bDu B), .ref (bDe B), .ref (bDt B), .ref (bDo B)])), (bW B, .inl (cI, 4, .inl (fun j9 => nI (mW u8 j9)))), (bIt B, .inl (cZ, 320, .inl (mIt u8))), (bCk B, .inl (cI, 320, .inl (mCk u8))), (bNu B, .inl (cI, 320, .inl (mNu u8))), (bKe B, .inl (cJ, 320, .inr (.inl (mKe u8)))), (bTi B, .inl (cJ, 320, .inr (.inl (mTi u8)))), (bGa B, .inl (cJ, 320, .inr (.inl (mGa u8)))), (bOf B, .inl (cI, 320, .inl (mOf u8))), (bNw B, .inl (cJ, 8, .inr (.inl (mNw u8)))), (bCn B, .inl (cI, 16, .inl (mCn u8))), (bDk B, .inl (cI, 4000, .inl (mDk u8))), (bDu B, .inl (cI, 4000, .inl (mDu u8))), (bDe B, .inl (cJ, 4000, .inr (.inl (mDe u8)))), (bDt B, .inl (cJ, 4000, .inr (.inl (mDt u8)))), (bDo B, .inl (cI, 4000, .inl (mDo u8)))] H _ := hw
      obtain ⟨hu9, hr9⟩ := hu9
      subst hu9
      have hr9 := hr9.trans (if_pos rfl)
      subst hr9
      refine lv_if_ne (tgt := 46) F.1 F.2.1 dX4_done_41 (by decide) (fun c41 => ?_) (fun c41 => ?_)
      rotate_left
      · exact absurd c41 (by decide)
      obtain ⟨j9, hj9, rfl⟩ := below_of (by omega) (if_nz hr27 c30)
      have hg := if_nz hr7 c10
      refine lv_iload_n F.1 F.2.1 dX4_done_46 rfl (lv_at hl 2 rfl) ?_
      rcases (what_of hg : y = 0 ∨ y = 1 ∨ y = 2 ∨ y = 3 ∨ y = 4) with rfl | rfl | rfl | rfl | rfl
      · refine lv_tableIn (tgt := 76) F.1 F.2.1 dX4_done_47 (by decide) (by decide) rfl (by decide) ?_
        refine lv_aload_n F.1 F.2.1 dX4_done_76 rfl (lv_at hl 0 rfl) ?_
        refine x_get F hw iX4 0 rfl rfl 13 (by decide) rfl (List.mem_of_getElem? (i := 3) rfl) rfl dX4_done_77 ?_
        refine lv_iload_n F.1 F.2.1 dX4_done_80 rfl (lv_at hl 1 rfl) ?_
        refine x_ialdN F hw 11 0 rfl rfl j9 rfl (by omega) (by decide) dX4_done_81 ?_
        refine lv_i2l (v := (mDk (mSetC v 0) j9).toInt64) F.1 F.2.1 dX4_done_82 (rfl) ?_
        exact x_lret (f := fun u9 : MR => wMo cI cJ cZ B u9) (mCode (mSetC v 0), (mW (mSetC v 0)), (mIt (mSetC v 0)), (mCk (mSetC v 0)), (mNu (mSetC v 0)), (mKe (mSetC v 0)), (mTi (mSetC v 0)), (mGa (mSetC v 0)), (mOf (mSetC v 0)), (mNw (mSetC v 0)), (mCn (mSetC v 0)), mKp (mSetC v 0), mDn (mSetC v 0), (mDk (mSetC v 0)), (mDu (mSetC v 0)), (mDe (mSetC v 0)), (mDt (mSetC v 0)), (mDo (mSetC v 0))) F hr hlk hw (Or.inr (Or.inr ⟨hg, j9, hj9, rfl, rfl, by rfl⟩)) dX4_done_83
      · refine lv_tableIn (tgt := 84) F.1 F.2.1 dX4_done_47 (by decide) (by decide) rfl (by decide) ?_
        refine lv_aload_n F.1 F.2.1 dX4_done_84 rfl (lv_at hl 0 rfl) ?_
        refine x_get F hw iX4 0 rfl rfl 14 (by decide) rfl (List.mem_of_getElem? (i := 4) rfl) rfl dX4_done_85 ?_
        refine lv_iload_n F.1 F.2.1 dX4_done_88 rfl (lv_at hl 1 rfl) ?_
        refine x_ialdN F hw 12 0 rfl rfl j9 rfl (by omega) (by decide) dX4_done_89 ?_
        refine lv_i2l (v := (mDu (mSetC v 0) j9).toInt64) F.1 F.2.1 dX4_done_90 (rfl) ?_
        exact x_lret (f := fun u9 : MR => wMo cI cJ cZ B u9) (mCode (mSetC v 0), (mW (mSetC v 0)), (mIt (mSetC v 0)), (mCk (mSetC v 0)), (mNu (mSetC v 0)), (mKe (mSetC v 0)), (mTi (mSetC v 0)), (mGa (mSetC v 0)), (mOf (mSetC v 0)), (mNw (mSetC v 0)), (mCn (mSetC v 0)), mKp (mSetC v 0), mDn (mSetC v 0), (mDk (mSetC v 0)), (mDu (mSetC v 0)), (mDe (mSetC v 0)), (mDt (mSetC v 0)), (mDo (mSetC v 0))) F hr hlk hw (Or.inr (Or.inr ⟨hg, j9, hj9, rfl, rfl, by rfl⟩)) dX4_done_91
      · refine lv_tableIn (tgt := 92) F.1 F.2.1 dX4_done_47 (by decide) (by decide) rfl (by decide) ?_
        refine lv_aload_n F.1 F.2.1 dX4_done_92 rfl (lv_at hl 0 rfl) ?_
        refine x_get F hw iX4 0 rfl rfl 15 (by decide) rfl (List.mem_of_getElem? (i := 5) rfl) rfl dX4_done_93 ?_
        refine lv_iload_n F.1 F.2.1 dX4_done_96 rfl (lv_at hl 1 rfl) ?_
        refine x_laldN F hw 13 1 rfl rfl j9 rfl (by omega) (by decide) dX4_done_97 ?_
        exact x_lret (f := fun u9 : MR => wMo cI cJ cZ B u9) (mCode (mSetC v 0), (mW (mSetC v 0)), (mIt (mSetC v 0)), (mCk (mSetC v 0)), (mNu (mSetC v 0)), (mKe (mSetC v 0)), (mTi (mSetC v 0)), (mGa (mSetC v 0)), (mOf (mSetC v 0)), (mNw (mSetC v 0)), (mCn (mSetC v 0)), mKp (mSetC v 0), mDn (mSetC v 0), (mDk (mSetC v 0)), (mDu (mSetC v 0)), (mDe (mSetC v 0)), (mDt (mSetC v 0)), (mDo (mSetC v 0))) F hr hlk hw (Or.inr (Or.inr ⟨hg, j9, hj9, rfl, rfl, by rfl⟩)) dX4_done_98
      · refine lv_tableIn (tgt := 99) F.1 F.2.1 dX4_done_47 (by decide) (by decide) rfl (by decide) ?_
        refine lv_aload_n F.1 F.2.1 dX4_done_99 rfl (lv_at hl 0 rfl) ?_
        refine x_get F hw iX4 0 rfl rfl 16 (by decide) rfl (List.mem_of_getElem? (i := 6) rfl) rfl dX4_done_100 ?_
        refine lv_iload_n F.1 F.2.1 dX4_done_103 rfl (lv_at hl 1 rfl) ?_
        refine x_laldN F hw 14 1 rfl rfl j9 rfl (by omega) (by decide) dX4_done_104 ?_
        exact x_lret (f := fun u9 : MR => wMo cI cJ cZ B u9) (mCode (mSetC v 0), (mW (mSetC v 0)), (mIt (mSetC v 0)), (mCk (mSetC v 0)), (mNu (mSetC v 0)), (mKe (mSetC v 0)), (mTi (mSetC v 0)), (mGa (mSetC v 0)), (mOf (mSetC v 0)), (mNw (mSetC v 0)), (mCn (mSetC v 0)), mKp (mSetC v 0), mDn (mSetC v 0), (mDk (mSetC v 0)), (mDu (mSetC v 0)), (mDe (mSetC v 0)), (mDt (mSetC v 0)), (mDo (mSetC v 0))) F hr hlk hw (Or.inr (Or.inr ⟨hg, j9, hj9, rfl, rfl, by rfl⟩)) dX4_done_105
      · refine lv_tableOut (tgt := 106) F.1 F.2.1 dX4_done_47 (by decide) (by decide) ?_
        refine lv_aload_n F.1 F.2.1 dX4_done_106 rfl (lv_at hl 0 rfl) ?_
        refine x_get F hw iX4 0 rfl rfl 17 (by decide) rfl (List.mem_of_getElem? (i := 7) rfl) rfl dX4_done_107 ?_
        refine lv_iload_n F.1 F.2.1 dX4_done_110 rfl (lv_at hl 1 rfl) ?_
        refine x_ialdN F hw 15 0 rfl rfl j9 rfl (by omega) (by decide) dX4_done_111 ?_
        refine lv_i2l (v := (mDo (mSetC v 0) j9).toInt64) F.1 F.2.1 dX4_done_112 (rfl) ?_
        exact x_lret (f := fun u9 : MR => wMo cI cJ cZ B u9) (mCode (mSetC v 0), (mW (mSetC v 0)), (mIt (mSetC v 0)), (mCk (mSetC v 0)), (mNu (mSetC v 0)), (mKe (mSetC v 0)), (mTi (mSetC v 0)), (mGa (mSetC v 0)), (mOf (mSetC v 0)), (mNw (mSetC v 0)), (mCn (mSetC v 0)), mKp (mSetC v 0), mDn (mSetC v 0), (mDk (mSetC v 0)), (mDu (mSetC v 0)), (mDe (mSetC v 0)), (mDt (mSetC v 0)), (mDo (mSetC v 0))) F hr hlk hw (Or.inr (Or.inr ⟨hg, j9, hj9, rfl, rfl, by rfl⟩)) dX4_done_113
    · refine lv_iconst (v := 2) F.1 F.2.1 dX4_done_33 (by decide) ?_
      refine lv_goto (tgt := 38) F.1 F.2.1 dX4_done_34 (by decide) ?_
      refine x_wi (wr := []) (va_runV (As := [.int 2]) (rest := []) F (c_X4_isGood l G cI cJ cZ cO (Array.size _) B v 2) (cwV 1 F.2.2.2.2 gX4_done_X4_isGood rfl rfl rfl (by decide +kernel) ⟨Nat.le_of_ble_eq_true rfl, Nat.le_of_ble_eq_true rfl⟩) (x_preVW hw [0, 1, 2, 3, 4, 5, 6, 7, 8, 9, 10, 11, 12, 13, 14, 15] rfl (by decide) 0 rfl rfl) rfl rfl hl.1 rfl (lv_room (Nat.le_of_ble_eq_true rfl)) dX4_done_38 ⟨Nat.le_of_ble_eq_true rfl, Nat.le_of_ble_eq_true rfl⟩) hw [0, 1, 2, 3, 4, 5, 6, 7, 8, 9, 10, 11, 12, 13, 14, 15] [] rfl rfl (by decide) (by decide) (fun r9 u8 H locs hu9 hw => ?_)
      have hw : xW G (xK cI cJ cZ cO) _ s.heap s [(bH B, .inr (4, [.int (mCode u8), .ref (bW B), .ref (bIt B), .ref (bCk B), .ref (bNu B), .ref (bKe B), .ref (bTi B), .ref (bGa B), .ref (bOf B), .ref (bNw B), .ref (bCn B), .int (nI (mKp u8)), .int (nI (mDn u8)), .ref (bDk B), .ref (bDu B), .ref (bDe B), .ref (bDt B), .ref (bDo B)])), (bW B, .inl (cI, 4, .inl (fun j9 => nI (mW u8 j9)))), (bIt B, .inl (cZ, 320, .inl (mIt u8))), (bCk B, .inl (cI, 320, .inl (mCk u8))), (bNu B, .inl (cI, 320, .inl (mNu u8))), (bKe B, .inl (cJ, 320, .inr (.inl (mKe u8)))), (bTi B, .inl (cJ, 320, .inr (.inl (mTi u8)))), (bGa B, .inl (cJ, 320, .inr (.inl (mGa u8)))), (bOf B, .inl (cI, 320, .inl (mOf u8))), (bNw B, .inl (cJ, 8, .inr (.inl (mNw u8)))), (bCn B, .inl (cI, 16, .inl (mCn u8))), (bDk B, .inl (cI, 4000, .inl (mDk u8))), (bDu B, .inl (cI, 4000, .inl (mDu u8))), (bDe B, .inl (cJ, 4000, .inr (.inl (mDe u8)))), (bDt B, .inl (cJ, 4000, .inr (.inl (mDt u8)))), (bDo B, .inl (cI, 4000, .inl (mDo u8)))] H _ := hw
      obtain ⟨hu9, hr9⟩ := hu9
      subst hu9
      have hr9 := hr9.trans (if_neg (by decide))
      subst hr9
      refine lv_if_ne (tgt := 46) F.1 F.2.1 dX4_done_41 (by decide) (fun c41 => ?_) (fun c41 => ?_)
      · exact (c41 (by decide)).elim
      refine lv_lconst (v := 0) F.1 F.2.1 dX4_done_44 (by decide) ?_
      exact x_lret (f := fun u9 : MR => wMo cI cJ cZ B u9) (mCode (mSetC v 2), (mW (mSetC v 2)), (mIt (mSetC v 2)), (mCk (mSetC v 2)), (mNu (mSetC v 2)), (mKe (mSetC v 2)), (mTi (mSetC v 2)), (mGa (mSetC v 2)), (mOf (mSetC v 2)), (mNw (mSetC v 2)), (mCn (mSetC v 2)), mKp (mSetC v 2), mDn (mSetC v 2), (mDk (mSetC v 2)), (mDu (mSetC v 2)), (mDe (mSetC v 2)), (mDt (mSetC v 2)), (mDo (mSetC v 2))) F hr hlk hw (Or.inr (Or.inl ⟨if_nz hr7 c10, fun j hj e => if_z hr27 c30 (below_iff (by omega) hj e), rfl⟩)) dX4_done_45
  · refine lv_iconst (v := 1) F.1 F.2.1 dX4_done_13 (by decide) ?_
    refine lv_goto (tgt := 38) F.1 F.2.1 dX4_done_14 (by decide) ?_
    refine x_wi (wr := []) (va_runV (As := [.int 1]) (rest := []) F (c_X4_isGood l G cI cJ cZ cO (Array.size _) B v 1) (cwV 1 F.2.2.2.2 gX4_done_X4_isGood rfl rfl rfl (by decide +kernel) ⟨Nat.le_of_ble_eq_true rfl, Nat.le_of_ble_eq_true rfl⟩) (x_preVW hw [0, 1, 2, 3, 4, 5, 6, 7, 8, 9, 10, 11, 12, 13, 14, 15] rfl (by decide) 0 rfl rfl) rfl rfl hl.1 rfl (lv_room (Nat.le_of_ble_eq_true rfl)) dX4_done_38 ⟨Nat.le_of_ble_eq_true rfl, Nat.le_of_ble_eq_true rfl⟩) hw [0, 1, 2, 3, 4, 5, 6, 7, 8, 9, 10, 11, 12, 13, 14, 15] [] rfl rfl (by decide) (by decide) (fun r9 u8 H locs hu9 hw => ?_)
    have hw : xW G (xK cI cJ cZ cO) _ s.heap s [(bH B, .inr (4, [.int (mCode u8), .ref (bW B), .ref (bIt B), .ref (bCk B), .ref (bNu B), .ref (bKe B), .ref (bTi B), .ref (bGa B), .ref (bOf B), .ref (bNw B), .ref (bCn B), .int (nI (mKp u8)), .int (nI (mDn u8)), .ref (bDk B), .ref (bDu B), .ref (bDe B), .ref (bDt B), .ref (bDo B)])), (bW B, .inl (cI, 4, .inl (fun j9 => nI (mW u8 j9)))), (bIt B, .inl (cZ, 320, .inl (mIt u8))), (bCk B, .inl (cI, 320, .inl (mCk u8))), (bNu B, .inl (cI, 320, .inl (mNu u8))), (bKe B, .inl (cJ, 320, .inr (.inl (mKe u8)))), (bTi B, .inl (cJ, 320, .inr (.inl (mTi u8)))), (bGa B, .inl (cJ, 320, .inr (.inl (mGa u8)))), (bOf B, .inl (cI, 320, .inl (mOf u8))), (bNw B, .inl (cJ, 8, .inr (.inl (mNw u8)))), (bCn B, .inl (cI, 16, .inl (mCn u8))), (bDk B, .inl (cI, 4000, .inl (mDk u8))), (bDu B, .inl (cI, 4000, .inl (mDu u8))), (bDe B, .inl (cJ, 4000, .inr (.inl (mDe u8)))), (bDt B, .inl (cJ, 4000, .inr (.inl (mDt u8)))), (bDo B, .inl (cI, 4000, .inl (mDo u8)))] H _ := hw
    obtain ⟨hu9, hr9⟩ := hu9
    subst hu9
    have hr9 := hr9.trans (if_neg (by decide))
    subst hr9
    refine lv_if_ne (tgt := 46) F.1 F.2.1 dX4_done_41 (by decide) (fun c41 => ?_) (fun c41 => ?_)
    · exact (c41 (by decide)).elim
    refine lv_lconst (v := 0) F.1 F.2.1 dX4_done_44 (by decide) ?_
    exact x_lret (f := fun u9 : MR => wMo cI cJ cZ B u9) (mCode (mSetC v 1), (mW (mSetC v 1)), (mIt (mSetC v 1)), (mCk (mSetC v 1)), (mNu (mSetC v 1)), (mKe (mSetC v 1)), (mTi (mSetC v 1)), (mGa (mSetC v 1)), (mOf (mSetC v 1)), (mNw (mSetC v 1)), (mCn (mSetC v 1)), mKp (mSetC v 1), mDn (mSetC v 1), (mDk (mSetC v 1)), (mDu (mSetC v 1)), (mDe (mSetC v 1)), (mDt (mSetC v 1)), (mDo (mSetC v 1))) F hr hlk hw (Or.inl ⟨if_z hr7 c10, rfl⟩) dX4_done_45

set_option maxHeartbeats 8000000 in
set_option maxRecDepth 100000 in
/-- told(timer, what) -/
theorem c_X4_told (l : Launch) (G : va_G) (cI cJ cZ cO : ClassId) (sz : Nat) (B : MA) (v : MR) (x y : Int32) (hw0 : mW v 0 ≤ 80) : Met l yX4_told wsX4_told ({ frames := 1, cells := 0, slots := 0, locals := 25 }) (xPc G (xK cI cJ cZ cO) sz [.ref (bH B), .int x, .int y] (wMo cI cJ cZ B v)) (va_Ql (fun r u2 => (¬ (0 ≤ y.toInt64 ∧ y.toInt64 ≤ 4) ∧ u2 = mSetC v 1) ∨ ((0 ≤ y.toInt64 ∧ y.toInt64 ≤ 4) ∧ (∀ k, k < mW v 0 → mIt v k ≠ 0 → mNu v k ≠ x) ∧ u2 = mSetC v 2) ∨ ((0 ≤ y.toInt64 ∧ y.toInt64 ≤ 4) ∧ ∃ k, k < mW v 0 ∧ mIt v k ≠ 0 ∧ mNu v k = x ∧ u2 = mSetC v 0 ∧ r = if y = 0 then (mCk v k).toInt64 else if y = 1 then mKe v k else if y = 2 then mTi v k else if y = 3 then mGa v k else (mOf v k).toInt64)) (xB G (xK cI cJ cZ cO) (wMo cI cJ cZ B v) sz (fun u9 : MR => wMo cI cJ cZ B u9)) (va_A (wMo cI cJ cZ B v) sz)) 0 0 (va_A (wMo cI cJ cZ B v) sz) := by
  refine x_body (by decide) rfl (Nat.le_of_ble_eq_true rfl) ?_
  intro p e s m below meth c F hr hlk hnm hsz hw ls hl
  subst hsz
  have F : CallFix p m c cX4_told 4 s _ wsX4_told RX4 := F
  have hl : lv_has ls 4 [(0, .ref (bH B)), (1, .int x), (2, .int y)] := hl
  have hw : xW G (xK cI cJ cZ cO) _ s.heap s [(bH B, .inr (4, [.int (mCode v), .ref (bW B), .ref (bIt B), .ref (bCk B), .ref (bNu B), .ref (bKe B), .ref (bTi B), .ref (bGa B), .ref (bOf B), .ref (bNw B), .ref (bCn B), .int (nI (mKp v)), .int (nI (mDn v)), .ref (bDk B), .ref (bDu B), .ref (bDe B), .ref (bDt B), .ref (bDo B)])), (bW B, .inl (cI, 4, .inl (fun j9 => nI (mW v j9)))), (bIt B, .inl (cZ, 320, .inl (mIt v))), (bCk B, .inl (cI, 320, .inl (mCk v))), (bNu B, .inl (cI, 320, .inl (mNu v))), (bKe B, .inl (cJ, 320, .inr (.inl (mKe v)))), (bTi B, .inl (cJ, 320, .inr (.inl (mTi v)))), (bGa B, .inl (cJ, 320, .inr (.inl (mGa v)))), (bOf B, .inl (cI, 320, .inl (mOf v))), (bNw B, .inl (cJ, 8, .inr (.inl (mNw v)))), (bCn B, .inl (cI, 16, .inl (mCn v))), (bDk B, .inl (cI, 4000, .inl (mDk v))), (bDu B, .inl (cI, 4000, .inl (mDu v))), (bDe B, .inl (cJ, 4000, .inr (.inl (mDe v)))), (bDt B, .inl (cJ, 4000, .inr (.inl (mDt v)))), (bDo B, .inl (cI, 4000, .inl (mDo v)))] s.heap [] := hw
  have iX4 : ∀ w ∈ wsX40, w ∈ wsX4_told := by decide +kernel
  refine lv_aload_n F.1 F.2.1 dX4_told_0 rfl (lv_at hl 0 rfl) ?_
  refine lv_iload_n F.1 F.2.1 dX4_told_1 rfl (lv_at hl 1 rfl) ?_
  refine x_ri (va_runV (As := [.int x]) (rest := []) F (c_X4_find l G cI cJ cZ cO (Array.size _) B v x hw0) (cwV 1 F.2.2.2.2 gX4_told_X4_find rfl rfl rfl (by decide +kernel) ⟨Nat.le_of_ble_eq_true rfl, Nat.le_of_ble_eq_true rfl⟩) (x_preVW hw [0, 1, 2, 3, 4, 5, 6, 7, 8, 9, 10, 11, 12, 13, 14, 15] rfl (by decide) 0 rfl rfl) rfl rfl hl.1 rfl (lv_room (Nat.le_of_ble_eq_true rfl)) dX4_told_2 ⟨Nat.le_of_ble_eq_true rfl, Nat.le_of_ble_eq_true rfl⟩) (fun r2 hr2 => ?_)
  refine lv_istore_n (lv' := [(3, .int r2), (0, .ref (bH B)), (1, .int x), (2, .int y)]) F.1 F.2.1 dX4_told_5 rfl hl (by decide) rfl (fun ls hl => ?_)
  refine lv_aload_n F.1 F.2.1 dX4_told_6 rfl (lv_at hl 1 rfl) ?_
  refine lv_iload_n F.1 F.2.1 dX4_told_7 rfl (lv_at hl 3 rfl) ?_
  refine lv_i2l (v := y.toInt64) F.1 F.2.1 dX4_told_8 (rfl) ?_
  refine lv_lconst (v := 0) F.1 F.2.1 dX4_told_9 (by decide) ?_
  refine lv_ldc2 (v := 4) F.1 F.2.1 F.2.2.2.1 (F.2.2.2.2 _ (List.mem_of_getElem? (i := 1) rfl)) dX4_told_10 ?_
  refine x_ri (va_runS (As := [.long y.toInt64, .long 0, .long 4]) (rest := [.ref (bH B)]) F (c_X4_isIn l G cI cJ cZ cO (Array.size _) y.toInt64 0 4) (va_cwS 3 F.2.2.2.2 gX4_told_X4_isIn rfl rfl rfl (by decide +kernel) ⟨Nat.le_of_ble_eq_true rfl, Nat.le_of_ble_eq_true rfl⟩) (x_preSW hw [] rfl (by decide)) rfl rfl hl.1 rfl (lv_room (Nat.le_of_ble_eq_true rfl)) dX4_told_13 ⟨Nat.le_of_ble_eq_true rfl, Nat.le_of_ble_eq_true rfl⟩) (fun r13 hr13 => ?_)
  refine lv_if_ne (tgt := 23) F.1 F.2.1 dX4_told_16 (by decide) (fun c16 => ?_) (fun c16 => ?_)
  · refine lv_iload_n F.1 F.2.1 dX4_told_23 rfl (lv_at hl 0 rfl) ?_
    refine lv_if_ge (tgt := 31) F.1 F.2.1 dX4_told_24 (by decide) (fun c24 => ?_) (fun c24 => ?_)
    · refine lv_iconst (v := 0) F.1 F.2.1 dX4_told_31 (by decide) ?_
      refine x_wi (wr := []) (va_runV (As := [.int 0]) (rest := []) F (c_X4_isGood l G cI cJ cZ cO (Array.size _) B v 0) (cwV 1 F.2.2.2.2 gX4_told_X4_isGood rfl rfl rfl (by decide +kernel) ⟨Nat.le_of_ble_eq_true rfl, Nat.le_of_ble_eq_true rfl⟩) (x_preVW hw [0, 1, 2, 3, 4, 5, 6, 7, 8, 9, 10, 11, 12, 13, 14, 15] rfl (by decide) 0 rfl rfl) rfl rfl hl.1 rfl (lv_room (Nat.le_of_ble_eq_true rfl)) dX4_told_32 ⟨Nat.le_of_ble_eq_true rfl, Nat.le_of_ble_eq_true rfl⟩) hw [0, 1, 2, 3, 4, 5, 6, 7, 8, 9, 10, 11, 12, 13, 14, 15] [] rfl rfl (by decide) (by decide) (fun r9 u8 H locs hu9 hw => ?_)
      have hw : xW G (xK cI cJ cZ cO) _ s.heap s [(bH B, .inr (4, [.int (mCode u8), .ref (bW B), .ref (bIt B), .ref (bCk B), .ref (bNu B), .ref (bKe B), .ref (bTi B), .ref (bGa B), .ref (bOf B), .ref (bNw B), .ref (bCn B), .int (nI (mKp u8)), .int (nI (mDn u8)), .ref (bDk B), .ref (bDu B), .ref (bDe B), .ref (bDt B), .ref (bDo B)])), (bW B, .inl (cI, 4, .inl (fun j9 => nI (mW u8 j9)))), (bIt B, .inl (cZ, 320, .inl (mIt u8))), (bCk B, .inl (cI, 320, .inl (mCk u8))), (bNu B, .inl (cI, 320, .inl (mNu u8))), (bKe B, .inl (cJ, 320, .inr (.inl (mKe u8)))), (bTi B, .inl (cJ, 320, .inr (.inl (mTi u8)))), (bGa B, .inl (cJ, 320, .inr (.inl (mGa u8)))), (bOf B, .inl (cI, 320, .inl (mOf u8))), (bNw B, .inl (cJ, 8, .inr (.inl (mNw u8)))), (bCn B, .inl (cI, 16, .inl (mCn u8))), (bDk B, .inl (cI, 4000, .inl (mDk u8))), (bDu B, .inl (cI, 4000, .inl (mDu u8))), (bDe B, .inl (cJ, 4000, .inr (.inl (mDe u8)))), (bDt B, .inl (cJ, 4000, .inr (.inl (mDt u8)))), (bDo B, .inl (cI, 4000, .inl (mDo u8)))] H _ := hw
      obtain ⟨hu9, hr9⟩ := hu9
      subst hu9
      have hr9 := hr9.trans (if_pos rfl)
      subst hr9
      refine lv_if_ne (tgt := 40) F.1 F.2.1 dX4_told_35 (by decide) (fun c35 => ?_) (fun c35 => ?_)
      rotate_left
      · exact absurd c35 (by decide)
      obtain ⟨k9, hk9, hit9, hnu9, rfl⟩ : ∃ k, k < mW v 0 ∧ mIt v k ≠ 0 ∧ mNu v k = x ∧ r2 = nI k := by
        rcases hr2 with h | h
        · exact h
        · exact absurd h.2 (fun e => by rw [e] at c24; exact absurd c24 (by decide))
      have hg := if_nz hr13 c16
      refine lv_iload_n F.1 F.2.1 dX4_told_40 rfl (lv_at hl 3 rfl) ?_
      rcases (what_of hg : y = 0 ∨ y = 1 ∨ y = 2 ∨ y = 3 ∨ y = 4) with rfl | rfl | rfl | rfl | rfl
      · refine lv_tableIn (tgt := 72) F.1 F.2.1 dX4_told_41 (by decide) (by decide) rfl (by decide) ?_
        refine lv_aload_n F.1 F.2.1 dX4_told_72 rfl (lv_at hl 1 rfl) ?_
        refine x_get F hw iX4 0 rfl rfl 3 (by decide) rfl (List.mem_of_getElem? (i := 2) rfl) rfl dX4_told_73 ?_
        refine lv_iload_n F.1 F.2.1 dX4_told_76 rfl (lv_at hl 0 rfl) ?_
        refine x_ialdN F hw 3 0 rfl rfl k9 rfl (by omega) (by decide) dX4_told_77 ?_
        refine lv_i2l (v := (mCk (mSetC v 0) k9).toInt64) F.1 F.2.1 dX4_told_78 (rfl) ?_
        exact x_lret (f := fun u9 : MR => wMo cI cJ cZ B u9) (mCode (mSetC v 0), (mW (mSetC v 0)), (mIt (mSetC v 0)), (mCk (mSetC v 0)), (mNu (mSetC v 0)), (mKe (mSetC v 0)), (mTi (mSetC v 0)), (mGa (mSetC v 0)), (mOf (mSetC v 0)), (mNw (mSetC v 0)), (mCn (mSetC v 0)), mKp (mSetC v 0), mDn (mSetC v 0), (mDk (mSetC v 0)), (mDu (mSetC v 0)), (mDe (mSetC v 0)), (mDt (mSetC v 0)), (mDo (mSetC v 0))) F hr hlk hw (Or.inr (Or.inr ⟨hg, k9, hk9, hit9, hnu9, rfl, by rfl⟩)) dX4_told_79
      · refine lv_tableIn (tgt := 80) F.1 F.2.1 dX4_told_41 (by decide) (by decide) rfl (by decide) ?_
        refine lv_aload_n F.1 F.2.1 dX4_told_80 rfl (lv_at hl 1 rfl) ?_
        refine x_get F hw iX4 0 rfl rfl 5 (by decide) rfl (List.mem_of_getElem? (i := 3) rfl) rfl dX4_told_81 ?_
        refine lv_iload_n F.1 F.2.1 dX4_told_84 rfl (lv_at hl 0 rfl) ?_
        refine x_laldN F hw 5 1 rfl rfl k9 rfl (by omega) (by decide) dX4_told_85 ?_
        exact x_lret (f := fun u9 : MR => wMo cI cJ cZ B u9) (mCode (mSetC v 0), (mW (mSetC v 0)), (mIt (mSetC v 0)), (mCk (mSetC v 0)), (mNu (mSetC v 0)), (mKe (mSetC v 0)), (mTi (mSetC v 0)), (mGa (mSetC v 0)), (mOf (mSetC v 0)), (mNw (mSetC v 0)), (mCn (mSetC v 0)), mKp (mSetC v 0), mDn (mSetC v 0), (mDk (mSetC v 0)), (mDu (mSetC v 0)), (mDe (mSetC v 0)), (mDt (mSetC v 0)), (mDo (mSetC v 0))) F hr hlk hw (Or.inr (Or.inr ⟨hg, k9, hk9, hit9, hnu9, rfl, by rfl⟩)) dX4_told_86
      · refine lv_tableIn (tgt := 87) F.1 F.2.1 dX4_told_41 (by decide) (by decide) rfl (by decide) ?_
        refine lv_aload_n F.1 F.2.1 dX4_told_87 rfl (lv_at hl 1 rfl) ?_
        refine x_get F hw iX4 0 rfl rfl 6 (by decide) rfl (List.mem_of_getElem? (i := 4) rfl) rfl dX4_told_88 ?_
        refine lv_iload_n F.1 F.2.1 dX4_told_91 rfl (lv_at hl 0 rfl) ?_
        refine x_laldN F hw 6 1 rfl rfl k9 rfl (by omega) (by decide) dX4_told_92 ?_
        exact x_lret (f := fun u9 : MR => wMo cI cJ cZ B u9) (mCode (mSetC v 0), (mW (mSetC v 0)), (mIt (mSetC v 0)), (mCk (mSetC v 0)), (mNu (mSetC v 0)), (mKe (mSetC v 0)), (mTi (mSetC v 0)), (mGa (mSetC v 0)), (mOf (mSetC v 0)), (mNw (mSetC v 0)), (mCn (mSetC v 0)), mKp (mSetC v 0), mDn (mSetC v 0), (mDk (mSetC v 0)), (mDu (mSetC v 0)), (mDe (mSetC v 0)), (mDt (mSetC v 0)), (mDo (mSetC v 0))) F hr hlk hw (Or.inr (Or.inr ⟨hg, k9, hk9, hit9, hnu9, rfl, by rfl⟩)) dX4_told_93
      · refine lv_tableIn (tgt := 94) F.1 F.2.1 dX4_told_41 (by decide) (by decide) rfl (by decide) ?_
        refine lv_aload_n F.1 F.2.1 dX4_told_94 rfl (lv_at hl 1 rfl) ?_
        refine x_get F hw iX4 0 rfl rfl 7 (by decide) rfl (List.mem_of_getElem? (i := 5) rfl) rfl dX4_told_95 ?_
        refine lv_iload_n F.1 F.2.1 dX4_told_98 rfl (lv_at hl 0 rfl) ?_
        refine x_laldN F hw 7 1 rfl rfl k9 rfl (by omega) (by decide) dX4_told_99 ?_
        exact x_lret (f := fun u9 : MR => wMo cI cJ cZ B u9) (mCode (mSetC v 0), (mW (mSetC v 0)), (mIt (mSetC v 0)), (mCk (mSetC v 0)), (mNu (mSetC v 0)), (mKe (mSetC v 0)), (mTi (mSetC v 0)), (mGa (mSetC v 0)), (mOf (mSetC v 0)), (mNw (mSetC v 0)), (mCn (mSetC v 0)), mKp (mSetC v 0), mDn (mSetC v 0), (mDk (mSetC v 0)), (mDu (mSetC v 0)), (mDe (mSetC v 0)), (mDt (mSetC v 0)), (mDo (mSetC v 0))) F hr hlk hw (Or.inr (Or.inr ⟨hg, k9, hk9, hit9, hnu9, rfl, by rfl⟩)) dX4_told_100
      · refine lv_tableOut (tgt := 101) F.1 F.2.1 dX4_told_41 (by decide) (by decide) ?_
        refine lv_aload_n F.1 F.2.1 dX4_told_101 rfl (lv_at hl 1 rfl) ?_
        refine x_get F hw iX4 0 rfl rfl 8 (by decide) rfl (List.mem_of_getElem? (i := 6) rfl) rfl dX4_told_102 ?_
        refine lv_iload_n F.1 F.2.1 dX4_told_105 rfl (lv_at hl 0 rfl) ?_
        refine x_ialdN F hw 8 0 rfl rfl k9 rfl (by omega) (by decide) dX4_told_106 ?_
        refine lv_i2l (v := (mOf (mSetC v 0) k9).toInt64) F.1 F.2.1 dX4_told_107 (rfl) ?_
        exact x_lret (f := fun u9 : MR => wMo cI cJ cZ B u9) (mCode (mSetC v 0), (mW (mSetC v 0)), (mIt (mSetC v 0)), (mCk (mSetC v 0)), (mNu (mSetC v 0)), (mKe (mSetC v 0)), (mTi (mSetC v 0)), (mGa (mSetC v 0)), (mOf (mSetC v 0)), (mNw (mSetC v 0)), (mCn (mSetC v 0)), mKp (mSetC v 0), mDn (mSetC v 0), (mDk (mSetC v 0)), (mDu (mSetC v 0)), (mDe (mSetC v 0)), (mDt (mSetC v 0)), (mDo (mSetC v 0))) F hr hlk hw (Or.inr (Or.inr ⟨hg, k9, hk9, hit9, hnu9, rfl, by rfl⟩)) dX4_told_108
    · refine lv_iconst (v := 2) F.1 F.2.1 dX4_told_27 (by decide) ?_
      refine lv_goto (tgt := 32) F.1 F.2.1 dX4_told_28 (by decide) ?_
      refine x_wi (wr := []) (va_runV (As := [.int 2]) (rest := []) F (c_X4_isGood l G cI cJ cZ cO (Array.size _) B v 2) (cwV 1 F.2.2.2.2 gX4_told_X4_isGood rfl rfl rfl (by decide +kernel) ⟨Nat.le_of_ble_eq_true rfl, Nat.le_of_ble_eq_true rfl⟩) (x_preVW hw [0, 1, 2, 3, 4, 5, 6, 7, 8, 9, 10, 11, 12, 13, 14, 15] rfl (by decide) 0 rfl rfl) rfl rfl hl.1 rfl (lv_room (Nat.le_of_ble_eq_true rfl)) dX4_told_32 ⟨Nat.le_of_ble_eq_true rfl, Nat.le_of_ble_eq_true rfl⟩) hw [0, 1, 2, 3, 4, 5, 6, 7, 8, 9, 10, 11, 12, 13, 14, 15] [] rfl rfl (by decide) (by decide) (fun r9 u8 H locs hu9 hw => ?_)
      have hw : xW G (xK cI cJ cZ cO) _ s.heap s [(bH B, .inr (4, [.int (mCode u8), .ref (bW B), .ref (bIt B), .ref (bCk B), .ref (bNu B), .ref (bKe B), .ref (bTi B), .ref (bGa B), .ref (bOf B), .ref (bNw B), .ref (bCn B), .int (nI (mKp u8)), .int (nI (mDn u8)), .ref (bDk B), .ref (bDu B), .ref (bDe B), .ref (bDt B), .ref (bDo B)])), (bW B, .inl (cI, 4, .inl (fun j9 => nI (mW u8 j9)))), (bIt B, .inl (cZ, 320, .inl (mIt u8))), (bCk B, .inl (cI, 320, .inl (mCk u8))), (bNu B, .inl (cI, 320, .inl (mNu u8))), (bKe B, .inl (cJ, 320, .inr (.inl (mKe u8)))), (bTi B, .inl (cJ, 320, .inr (.inl (mTi u8)))), (bGa B, .inl (cJ, 320, .inr (.inl (mGa u8)))), (bOf B, .inl (cI, 320, .inl (mOf u8))), (bNw B, .inl (cJ, 8, .inr (.inl (mNw u8)))), (bCn B, .inl (cI, 16, .inl (mCn u8))), (bDk B, .inl (cI, 4000, .inl (mDk u8))), (bDu B, .inl (cI, 4000, .inl (mDu u8))), (bDe B, .inl (cJ, 4000, .inr (.inl (mDe u8)))), (bDt B, .inl (cJ, 4000, .inr (.inl (mDt u8)))), (bDo B, .inl (cI, 4000, .inl (mDo u8)))] H _ := hw
      obtain ⟨hu9, hr9⟩ := hu9
      subst hu9
      have hr9 := hr9.trans (if_neg (by decide))
      subst hr9
      refine lv_if_ne (tgt := 40) F.1 F.2.1 dX4_told_35 (by decide) (fun c35 => ?_) (fun c35 => ?_)
      · exact (c35 (by decide)).elim
      have hno9 : ∀ k, k < mW v 0 → mIt v k ≠ 0 → mNu v k ≠ x := by
        rcases hr2 with ⟨k, hk, -, -, e⟩ | h
        · rw [e] at c24; exact absurd c24 (fun h => h (nI_pos' (by omega)))
        · exact h.1
      refine lv_lconst (v := 0) F.1 F.2.1 dX4_told_38 (by decide) ?_
      exact x_lret (f := fun u9 : MR => wMo cI cJ cZ B u9) (mCode (mSetC v 2), (mW (mSetC v 2)), (mIt (mSetC v 2)), (mCk (mSetC v 2)), (mNu (mSetC v 2)), (mKe (mSetC v 2)), (mTi (mSetC v 2)), (mGa (mSetC v 2)), (mOf (mSetC v 2)), (mNw (mSetC v 2)), (mCn (mSetC v 2)), mKp (mSetC v 2), mDn (mSetC v 2), (mDk (mSetC v 2)), (mDu (mSetC v 2)), (mDe (mSetC v 2)), (mDt (mSetC v 2)), (mDo (mSetC v 2))) F hr hlk hw (Or.inr (Or.inl ⟨if_nz hr13 c16, hno9, rfl⟩)) dX4_told_39
  · refine lv_iconst (v := 1) F.1 F.2.1 dX4_told_19 (by decide) ?_
    refine lv_goto (tgt := 32) F.1 F.2.1 dX4_told_20 (by decide) ?_
    refine x_wi (wr := []) (va_runV (As := [.int 1]) (rest := []) F (c_X4_isGood l G cI cJ cZ cO (Array.size _) B v 1) (cwV 1 F.2.2.2.2 gX4_told_X4_isGood rfl rfl rfl (by decide +kernel) ⟨Nat.le_of_ble_eq_true rfl, Nat.le_of_ble_eq_true rfl⟩) (x_preVW hw [0, 1, 2, 3, 4, 5, 6, 7, 8, 9, 10, 11, 12, 13, 14, 15] rfl (by decide) 0 rfl rfl) rfl rfl hl.1 rfl (lv_room (Nat.le_of_ble_eq_true rfl)) dX4_told_32 ⟨Nat.le_of_ble_eq_true rfl, Nat.le_of_ble_eq_true rfl⟩) hw [0, 1, 2, 3, 4, 5, 6, 7, 8, 9, 10, 11, 12, 13, 14, 15] [] rfl rfl (by decide) (by decide) (fun r9 u8 H locs hu9 hw => ?_)
    have hw : xW G (xK cI cJ cZ cO) _ s.heap s [(bH B, .inr (4, [.int (mCode u8), .ref (bW B), .ref (bIt B), .ref (bCk B), .ref (bNu B), .ref (bKe B), .ref (bTi B), .ref (bGa B), .ref (bOf B), .ref (bNw B), .ref (bCn B), .int (nI (mKp u8)), .int (nI (mDn u8)), .ref (bDk B), .ref (bDu B), .ref (bDe B), .ref (bDt B), .ref (bDo B)])), (bW B, .inl (cI, 4, .inl (fun j9 => nI (mW u8 j9)))), (bIt B, .inl (cZ, 320, .inl (mIt u8))), (bCk B, .inl (cI, 320, .inl (mCk u8))), (bNu B, .inl (cI, 320, .inl (mNu u8))), (bKe B, .inl (cJ, 320, .inr (.inl (mKe u8)))), (bTi B, .inl (cJ, 320, .inr (.inl (mTi u8)))), (bGa B, .inl (cJ, 320, .inr (.inl (mGa u8)))), (bOf B, .inl (cI, 320, .inl (mOf u8))), (bNw B, .inl (cJ, 8, .inr (.inl (mNw u8)))), (bCn B, .inl (cI, 16, .inl (mCn u8))), (bDk B, .inl (cI, 4000, .inl (mDk u8))), (bDu B, .inl (cI, 4000, .inl (mDu u8))), (bDe B, .inl (cJ, 4000, .inr (.inl (mDe u8)))), (bDt B, .inl (cJ, 4000, .inr (.inl (mDt u8)))), (bDo B, .inl (cI, 4000, .inl (mDo u8)))] H _ := hw
    obtain ⟨hu9, hr9⟩ := hu9
    subst hu9
    have hr9 := hr9.trans (if_neg (by decide))
    subst hr9
    refine lv_if_ne (tgt := 40) F.1 F.2.1 dX4_told_35 (by decide) (fun c35 => ?_) (fun c35 => ?_)
    · exact (c35 (by decide)).elim
    refine lv_lconst (v := 0) F.1 F.2.1 dX4_told_38 (by decide) ?_
    exact x_lret (f := fun u9 : MR => wMo cI cJ cZ B u9) (mCode (mSetC v 1), (mW (mSetC v 1)), (mIt (mSetC v 1)), (mCk (mSetC v 1)), (mNu (mSetC v 1)), (mKe (mSetC v 1)), (mTi (mSetC v 1)), (mGa (mSetC v 1)), (mOf (mSetC v 1)), (mNw (mSetC v 1)), (mCn (mSetC v 1)), mKp (mSetC v 1), mDn (mSetC v 1), (mDk (mSetC v 1)), (mDu (mSetC v 1)), (mDe (mSetC v 1)), (mDt (mSetC v 1)), (mDo (mSetC v 1))) F hr hlk hw (Or.inl ⟨if_z hr13 c16, rfl⟩) dX4_told_39

set_option maxHeartbeats 8000000 in
set_option maxRecDepth 100000 in
/-- waiting(..) -/
theorem c_X4_waiting (l : Launch) (G : va_G) (cI cJ cZ cO : ClassId) (sz : Nat) (B : MA) (v : MR) (x : Int32) (y t1 t2 : Int64) (hw0 : mW v 0 ≤ 80) : Met l yX4_waiting wsX4_waiting ({ frames := 1, cells := 0, slots := 0, locals := 25 }) (xPc G (xK cI cJ cZ cO) sz [.ref (bH B), .int x, .long y, .long t1, .long t2] (wMo cI cJ cZ B v)) (va_Qi (fun r u2 => (¬ (gClk x ∧ t1 ≤ t2) ∧ u2 = mSetC v 1) ∨ ((gClk x ∧ t1 ≤ t2) ∧ u2 = mSetC v 0 ∧ r = nI (cnt (mBet v x y t1 t2) (mW v 0)))) (xB G (xK cI cJ cZ cO) (wMo cI cJ cZ B v) sz (fun u9 : MR => wMo cI cJ cZ B u9)) (va_A (wMo cI cJ cZ B v) sz)) 0 0 (va_A (wMo cI cJ cZ B v) sz) := by
  refine x_body (by decide) rfl (Nat.le_of_ble_eq_true rfl) ?_
  intro p e s m below meth c F hr hlk hnm hsz hw ls hl
  subst hsz
  have F : CallFix p m c cX4_waiting 10 s _ wsX4_waiting RX4 := F
  have hl : lv_has ls 10 [(0, .ref (bH B)), (1, .int x), (2, .long y), (4, .long t1), (6, .long t2)] := hl
  have hw : xW G (xK cI cJ cZ cO) _ s.heap s [(bH B, .inr (4, [.int (mCode v), .ref (bW B), .ref (bIt B), .ref (bCk B), .ref (bNu B), .ref (bKe B), .ref (bTi B), .ref (bGa B), .ref (bOf B), .ref (bNw B), .ref (bCn B), .int (nI (mKp v)), .int (nI (mDn v)), .ref (bDk B), .ref (bDu B), .ref (bDe B), .ref (bDt B), .ref (bDo B)])), (bW B, .inl (cI, 4, .inl (fun j9 => nI (mW v j9)))), (bIt B, .inl (cZ, 320, .inl (mIt v))), (bCk B, .inl (cI, 320, .inl (mCk v))), (bNu B, .inl (cI, 320, .inl (mNu v))), (bKe B, .inl (cJ, 320, .inr (.inl (mKe v)))), (bTi B, .inl (cJ, 320, .inr (.inl (mTi v)))), (bGa B, .inl (cJ, 320, .inr (.inl (mGa v)))), (bOf B, .inl (cI, 320, .inl (mOf v))), (bNw B, .inl (cJ, 8, .inr (.inl (mNw v)))), (bCn B, .inl (cI, 16, .inl (mCn v))), (bDk B, .inl (cI, 4000, .inl (mDk v))), (bDu B, .inl (cI, 4000, .inl (mDu v))), (bDe B, .inl (cJ, 4000, .inr (.inl (mDe v)))), (bDt B, .inl (cJ, 4000, .inr (.inl (mDt v)))), (bDo B, .inl (cI, 4000, .inl (mDo v)))] s.heap [] := hw
  have iX4 : ∀ w ∈ wsX40, w ∈ wsX4_waiting := by decide +kernel
  refine lv_aload_n F.1 F.2.1 dX4_waiting_0 rfl (lv_at hl 0 rfl) ?_
  refine lv_iload_n F.1 F.2.1 dX4_waiting_1 rfl (lv_at hl 1 rfl) ?_
  refine lv_i2l (v := x.toInt64) F.1 F.2.1 dX4_waiting_2 (rfl) ?_
  refine lv_lconst (v := 0) F.1 F.2.1 dX4_waiting_3 (by decide) ?_
  refine lv_lconst (v := 1) F.1 F.2.1 dX4_waiting_4 (by decide) ?_
  refine x_ri (va_runS (As := [.long x.toInt64, .long 0, .long 1]) (rest := [.ref (bH B)]) F (c_X4_isIn l G cI cJ cZ cO (Array.size _) x.toInt64 0 1) (va_cwS 3 F.2.2.2.2 gX4_waiting_X4_isIn rfl rfl rfl (by decide +kernel) ⟨Nat.le_of_ble_eq_true rfl, Nat.le_of_ble_eq_true rfl⟩) (x_preSW hw [] rfl (by decide)) rfl rfl hl.1 rfl (lv_room (Nat.le_of_ble_eq_true rfl)) dX4_waiting_5 ⟨Nat.le_of_ble_eq_true rfl, Nat.le_of_ble_eq_true rfl⟩) (fun r5 hr5 => ?_)
  refine lv_if_eq (tgt := 23) F.1 F.2.1 dX4_waiting_8 (by decide) (fun c8 => ?_) (fun c8 => ?_)
  · refine lv_iconst (v := 1) F.1 F.2.1 dX4_waiting_23 (by decide) ?_
    refine x_wi (wr := []) (va_runV (As := [.int 1]) (rest := []) F (c_X4_isGood l G cI cJ cZ cO (Array.size _) B v 1) (cwV 1 F.2.2.2.2 gX4_waiting_X4_isGood rfl rfl rfl (by decide +kernel) ⟨Nat.le_of_ble_eq_true rfl, Nat.le_of_ble_eq_true rfl⟩) (x_preVW hw [0, 1, 2, 3, 4, 5, 6, 7, 8, 9, 10, 11, 12, 13, 14, 15] rfl (by decide) 0 rfl rfl) rfl rfl hl.1 rfl (lv_room (Nat.le_of_ble_eq_true rfl)) dX4_waiting_24 ⟨Nat.le_of_ble_eq_true rfl, Nat.le_of_ble_eq_true rfl⟩) hw [0, 1, 2, 3, 4, 5, 6, 7, 8, 9, 10, 11, 12, 13, 14, 15] [] rfl rfl (by decide) (by decide) (fun r9 u8 H locs hu9 hw => ?_)
    have hw : xW G (xK cI cJ cZ cO) _ s.heap s [(bH B, .inr (4, [.int (mCode u8), .ref (bW B), .ref (bIt B), .ref (bCk B), .ref (bNu B), .ref (bKe B), .ref (bTi B), .ref (bGa B), .ref (bOf B), .ref (bNw B), .ref (bCn B), .int (nI (mKp u8)), .int (nI (mDn u8)), .ref (bDk B), .ref (bDu B), .ref (bDe B), .ref (bDt B), .ref (bDo B)])), (bW B, .inl (cI, 4, .inl (fun j9 => nI (mW u8 j9)))), (bIt B, .inl (cZ, 320, .inl (mIt u8))), (bCk B, .inl (cI, 320, .inl (mCk u8))), (bNu B, .inl (cI, 320, .inl (mNu u8))), (bKe B, .inl (cJ, 320, .inr (.inl (mKe u8)))), (bTi B, .inl (cJ, 320, .inr (.inl (mTi u8)))), (bGa B, .inl (cJ, 320, .inr (.inl (mGa u8)))), (bOf B, .inl (cI, 320, .inl (mOf u8))), (bNw B, .inl (cJ, 8, .inr (.inl (mNw u8)))), (bCn B, .inl (cI, 16, .inl (mCn u8))), (bDk B, .inl (cI, 4000, .inl (mDk u8))), (bDu B, .inl (cI, 4000, .inl (mDu u8))), (bDe B, .inl (cJ, 4000, .inr (.inl (mDe u8)))), (bDt B, .inl (cJ, 4000, .inr (.inl (mDt u8)))), (bDo B, .inl (cI, 4000, .inl (mDo u8)))] H _ := hw
    obtain ⟨hu9, hr9⟩ := hu9
    subst hu9
    have hr9 := hr9.trans (if_neg (by decide))
    subst hr9
    refine lv_if_ne (tgt := 32) F.1 F.2.1 dX4_waiting_27 (by decide) (fun c27 => ?_) (fun c27 => ?_)
    · exact (c27 (by decide)).elim
    refine lv_iconst (v := 0) F.1 F.2.1 dX4_waiting_30 (by decide) ?_
    exact x_iret (f := fun u9 : MR => wMo cI cJ cZ B u9) (mCode (mSetC v 1), (mW (mSetC v 1)), (mIt (mSetC v 1)), (mCk (mSetC v 1)), (mNu (mSetC v 1)), (mKe (mSetC v 1)), (mTi (mSetC v 1)), (mGa (mSetC v 1)), (mOf (mSetC v 1)), (mNw (mSetC v 1)), (mCn (mSetC v 1)), mKp (mSetC v 1), mDn (mSetC v 1), (mDk (mSetC v 1)), (mDu (mSetC v 1)), (mDe (mSetC v 1)), (mDt (mSetC v 1)), (mDo (mSetC v 1))) F hr hlk hw (Or.inl ⟨fun h => if_z hr5 c8 h.1, rfl⟩) dX4_waiting_31
  · refine lv_lload F.1 F.2.1 dX4_waiting_11 (lv_at hl 3 rfl) ?_
    refine lv_lload F.1 F.2.1 dX4_waiting_13 (lv_at hl 4 rfl) ?_
    refine x_l_gt (tgt := 23) F dX4_waiting_15 dX4_waiting_16 (by decide) (fun c15 => ?_) (fun c15 => ?_)
    · refine lv_iconst (v := 1) F.1 F.2.1 dX4_waiting_23 (by decide) ?_
      refine x_wi (wr := []) (va_runV (As := [.int 1]) (rest := []) F (c_X4_isGood l G cI cJ cZ cO (Array.size _) B v 1) (cwV 1 F.2.2.2.2 gX4_waiting_X4_isGood rfl rfl rfl (by decide +kernel) ⟨Nat.le_of_ble_eq_true rfl, Nat.le_of_ble_eq_true rfl⟩) (x_preVW hw [0, 1, 2, 3, 4, 5, 6, 7, 8, 9, 10, 11, 12, 13, 14, 15] rfl (by decide) 0 rfl rfl) rfl rfl hl.1 rfl (lv_room (Nat.le_of_ble_eq_true rfl)) dX4_waiting_24 ⟨Nat.le_of_ble_eq_true rfl, Nat.le_of_ble_eq_true rfl⟩) hw [0, 1, 2, 3, 4, 5, 6, 7, 8, 9, 10, 11, 12, 13, 14, 15] [] rfl rfl (by decide) (by decide) (fun r9 u8 H locs hu9 hw => ?_)
      have hw : xW G (xK cI cJ cZ cO) _ s.heap s [(bH B, .inr (4, [.int (mCode u8), .ref (bW B), .ref (bIt B), .ref (bCk B), .ref (bNu B), .ref (bKe B), .ref (bTi B), .ref (bGa B), .ref (bOf B), .ref (bNw B), .ref (bCn B), .int (nI (mKp u8)), .int (nI (mDn u8)), .ref (bDk B), .ref (bDu B), .ref (bDe B), .ref (bDt B), .ref (bDo B)])), (bW B, .inl (cI, 4, .inl (fun j9 => nI (mW u8 j9)))), (bIt B, .inl (cZ, 320, .inl (mIt u8))), (bCk B, .inl (cI, 320, .inl (mCk u8))), (bNu B, .inl (cI, 320, .inl (mNu u8))), (bKe B, .inl (cJ, 320, .inr (.inl (mKe u8)))), (bTi B, .inl (cJ, 320, .inr (.inl (mTi u8)))), (bGa B, .inl (cJ, 320, .inr (.inl (mGa u8)))), (bOf B, .inl (cI, 320, .inl (mOf u8))), (bNw B, .inl (cJ, 8, .inr (.inl (mNw u8)))), (bCn B, .inl (cI, 16, .inl (mCn u8))), (bDk B, .inl (cI, 4000, .inl (mDk u8))), (bDu B, .inl (cI, 4000, .inl (mDu u8))), (bDe B, .inl (cJ, 4000, .inr (.inl (mDe u8)))), (bDt B, .inl (cJ, 4000, .inr (.inl (mDt u8)))), (bDo B, .inl (cI, 4000, .inl (mDo u8)))] H _ := hw
      obtain ⟨hu9, hr9⟩ := hu9
      subst hu9
      have hr9 := hr9.trans (if_neg (by decide))
      subst hr9
      refine lv_if_ne (tgt := 32) F.1 F.2.1 dX4_waiting_27 (by decide) (fun c27 => ?_) (fun c27 => ?_)
      · exact (c27 (by decide)).elim
      refine lv_iconst (v := 0) F.1 F.2.1 dX4_waiting_30 (by decide) ?_
      exact x_iret (f := fun u9 : MR => wMo cI cJ cZ B u9) (mCode (mSetC v 1), (mW (mSetC v 1)), (mIt (mSetC v 1)), (mCk (mSetC v 1)), (mNu (mSetC v 1)), (mKe (mSetC v 1)), (mTi (mSetC v 1)), (mGa (mSetC v 1)), (mOf (mSetC v 1)), (mNw (mSetC v 1)), (mCn (mSetC v 1)), mKp (mSetC v 1), mDn (mSetC v 1), (mDk (mSetC v 1)), (mDu (mSetC v 1)), (mDe (mSetC v 1)), (mDt (mSetC v 1)), (mDo (mSetC v 1))) F hr hlk hw (Or.inl ⟨fun h => Int64.not_le.mpr c15 h.2, rfl⟩) dX4_waiting_31
    · refine lv_iconst (v := 0) F.1 F.2.1 dX4_waiting_19 (by decide) ?_
      refine lv_goto (tgt := 24) F.1 F.2.1 dX4_waiting_20 (by decide) ?_
      refine x_wi (wr := []) (va_runV (As := [.int 0]) (rest := []) F (c_X4_isGood l G cI cJ cZ cO (Array.size _) B v 0) (cwV 1 F.2.2.2.2 gX4_waiting_X4_isGood rfl rfl rfl (by decide +kernel) ⟨Nat.le_of_ble_eq_true rfl, Nat.le_of_ble_eq_true rfl⟩) (x_preVW hw [0, 1, 2, 3, 4, 5, 6, 7, 8, 9, 10, 11, 12, 13, 14, 15] rfl (by decide) 0 rfl rfl) rfl rfl hl.1 rfl (lv_room (Nat.le_of_ble_eq_true rfl)) dX4_waiting_24 ⟨Nat.le_of_ble_eq_true rfl, Nat.le_of_ble_eq_true rfl⟩) hw [0, 1, 2, 3, 4, 5, 6, 7, 8, 9, 10, 11, 12, 13, 14, 15] [] rfl rfl (by decide) (by decide) (fun r9 u8 H locs hu9 hw => ?_)
      have hw : xW G (xK cI cJ cZ cO) _ s.heap s [(bH B, .inr (4, [.int (mCode u8), .ref (bW B), .ref (bIt B), .ref (bCk B), .ref (bNu B), .ref (bKe B), .ref (bTi B), .ref (bGa B), .ref (bOf B), .ref (bNw B), .ref (bCn B), .int (nI (mKp u8)), .int (nI (mDn u8)), .ref (bDk B), .ref (bDu B), .ref (bDe B), .ref (bDt B), .ref (bDo B)])), (bW B, .inl (cI, 4, .inl (fun j9 => nI (mW u8 j9)))), (bIt B, .inl (cZ, 320, .inl (mIt u8))), (bCk B, .inl (cI, 320, .inl (mCk u8))), (bNu B, .inl (cI, 320, .inl (mNu u8))), (bKe B, .inl (cJ, 320, .inr (.inl (mKe u8)))), (bTi B, .inl (cJ, 320, .inr (.inl (mTi u8)))), (bGa B, .inl (cJ, 320, .inr (.inl (mGa u8)))), (bOf B, .inl (cI, 320, .inl (mOf u8))), (bNw B, .inl (cJ, 8, .inr (.inl (mNw u8)))), (bCn B, .inl (cI, 16, .inl (mCn u8))), (bDk B, .inl (cI, 4000, .inl (mDk u8))), (bDu B, .inl (cI, 4000, .inl (mDu u8))), (bDe B, .inl (cJ, 4000, .inr (.inl (mDe u8)))), (bDt B, .inl (cJ, 4000, .inr (.inl (mDt u8)))), (bDo B, .inl (cI, 4000, .inl (mDo u8)))] H _ := hw
      obtain ⟨hu9, hr9⟩ := hu9
      subst hu9
      have hr9 := hr9.trans (if_pos rfl)
      subst hr9
      refine lv_if_ne (tgt := 32) F.1 F.2.1 dX4_waiting_27 (by decide) (fun c27 => ?_) (fun c27 => ?_)
      rotate_left
      · exact absurd c27 (by decide)
      refine lv_iconst (v := 0) F.1 F.2.1 dX4_waiting_32 (by decide) ?_
      refine lv_istore (lv' := [(8, .int 0), (0, .ref (bH B)), (1, .int x), (2, .long y), (4, .long t1), (6, .long t2)]) F.1 F.2.1 dX4_waiting_33 hl (by decide) rfl (fun ls hl => ?_)
      refine lv_iconst (v := 0) F.1 F.2.1 dX4_waiting_35 (by decide) ?_
      refine lv_istore (lv' := [(9, .int 0), (8, .int 0), (0, .ref (bH B)), (1, .int x), (2, .long y), (4, .long t1), (6, .long t2)]) F.1 F.2.1 dX4_waiting_36 hl (by decide) rfl (fun ls hl => ?_)
      refine x_rec (α := Nat × Nat) (fun a9 => mW v 0 - a9.1) (fun a9 H locs ls => lv_has ls 10 [(0, .ref (bH B)), (1, .int x), (2, .long y), (4, .long t1), (6, .long t2), (8, .int (nI a9.2)), (9, .int (nI a9.1))] ∧ xW G (xK cI cJ cZ cO) _ s.heap s [(bH B, .inr (4, [.int (mCode (mSetC v 0)), .ref (bW B), .ref (bIt B), .ref (bCk B), .ref (bNu B), .ref (bKe B), .ref (bTi B), .ref (bGa B), .ref (bOf B), .ref (bNw B), .ref (bCn B), .int (nI (mKp (mSetC v 0))), .int (nI (mDn (mSetC v 0))), .ref (bDk B), .ref (bDu B), .ref (bDe B), .ref (bDt B), .ref (bDo B)])), (bW B, .inl (cI, 4, .inl (fun j9 => nI (mW (mSetC v 0) j9)))), (bIt B, .inl (cZ, 320, .inl (mIt (mSetC v 0)))), (bCk B, .inl (cI, 320, .inl (mCk (mSetC v 0)))), (bNu B, .inl (cI, 320, .inl (mNu (mSetC v 0)))), (bKe B, .inl (cJ, 320, .inr (.inl (mKe (mSetC v 0))))), (bTi B, .inl (cJ, 320, .inr (.inl (mTi (mSetC v 0))))), (bGa B, .inl (cJ, 320, .inr (.inl (mGa (mSetC v 0))))), (bOf B, .inl (cI, 320, .inl (mOf (mSetC v 0)))), (bNw B, .inl (cJ, 8, .inr (.inl (mNw (mSetC v 0))))), (bCn B, .inl (cI, 16, .inl (mCn (mSetC v 0)))), (bDk B, .inl (cI, 4000, .inl (mDk (mSetC v 0)))), (bDu B, .inl (cI, 4000, .inl (mDu (mSetC v 0)))), (bDe B, .inl (cJ, 4000, .inr (.inl (mDe (mSetC v 0))))), (bDt B, .inl (cJ, 4000, .inr (.inl (mDt (mSetC v 0))))), (bDo B, .inl (cI, 4000, .inl (mDo (mSetC v 0))))] H locs ∧ a9.1 ≤ mW v 0 ∧ a9.2 = cnt (mBet v x y t1 t2) a9.1) ?_ ((0, 0)) ⟨lv_sub hl [2, 3, 4, 5, 6, 1, 0] rfl, hw, Nat.zero_le _, rfl⟩
      rintro ⟨i, n⟩ H locs ls ⟨hl, hw, hi, hn⟩ ih
      try dsimp only at hi hn
      have hl : lv_has ls 10 [(0, .ref (bH B)), (1, .int x), (2, .long y), (4, .long t1), (6, .long t2), (8, .int (nI n)), (9, .int (nI i))] := hl
      have hw : xW G (xK cI cJ cZ cO) _ s.heap s [(bH B, .inr (4, [.int (mCode (mSetC v 0)), .ref (bW B), .ref (bIt B), .ref (bCk B), .ref (bNu B), .ref (bKe B), .ref (bTi B), .ref (bGa B), .ref (bOf B), .ref (bNw B), .ref (bCn B), .int (nI (mKp (mSetC v 0))), .int (nI (mDn (mSetC v 0))), .ref (bDk B), .ref (bDu B), .ref (bDe B), .ref (bDt B), .ref (bDo B)])), (bW B, .inl (cI, 4, .inl (fun j9 => nI (mW (mSetC v 0) j9)))), (bIt B, .inl (cZ, 320, .inl (mIt (mSetC v 0)))), (bCk B, .inl (cI, 320, .inl (mCk (mSetC v 0)))), (bNu B, .inl (cI, 320, .inl (mNu (mSetC v 0)))), (bKe B, .inl (cJ, 320, .inr (.inl (mKe (mSetC v 0))))), (bTi B, .inl (cJ, 320, .inr (.inl (mTi (mSetC v 0))))), (bGa B, .inl (cJ, 320, .inr (.inl (mGa (mSetC v 0))))), (bOf B, .inl (cI, 320, .inl (mOf (mSetC v 0)))), (bNw B, .inl (cJ, 8, .inr (.inl (mNw (mSetC v 0))))), (bCn B, .inl (cI, 16, .inl (mCn (mSetC v 0)))), (bDk B, .inl (cI, 4000, .inl (mDk (mSetC v 0)))), (bDu B, .inl (cI, 4000, .inl (mDu (mSetC v 0)))), (bDe B, .inl (cJ, 4000, .inr (.inl (mDe (mSetC v 0))))), (bDt B, .inl (cJ, 4000, .inr (.inl (mDt (mSetC v 0))))), (bDo B, .inl (cI, 4000, .inl (mDo (mSetC v 0))))] H _ := hw
      refine lv_iload F.1 F.2.1 dX4_waiting_38 (lv_at hl 6 rfl) ?_
      refine lv_aload_n F.1 F.2.1 dX4_waiting_40 rfl (lv_at hl 0 rfl) ?_
      refine x_get F hw iX4 0 rfl rfl 1 (by decide) rfl (List.mem_of_getElem? (i := 1) rfl) rfl dX4_waiting_41 ?_
      refine lv_iconst (v := 0) F.1 F.2.1 dX4_waiting_44 (by decide) ?_
      refine x_ialdN F hw 1 0 rfl rfl 0 rfl (by omega) (by decide) dX4_waiting_45 ?_
      refine lv_icmp_ge (tgt := 115) F.1 F.2.1 dX4_waiting_46 (by decide) (fun c46 => ?_) (fun c46 => ?_)
      · refine lv_iload F.1 F.2.1 dX4_waiting_115 (lv_at hl 5 rfl) ?_
        exact x_iret (f := fun u9 : MR => wMo cI cJ cZ B u9) (mCode (mSetC v 0), (mW (mSetC v 0)), (mIt (mSetC v 0)), (mCk (mSetC v 0)), (mNu (mSetC v 0)), (mKe (mSetC v 0)), (mTi (mSetC v 0)), (mGa (mSetC v 0)), (mOf (mSetC v 0)), (mNw (mSetC v 0)), (mCn (mSetC v 0)), mKp (mSetC v 0), mDn (mSetC v 0), (mDk (mSetC v 0)), (mDu (mSetC v 0)), (mDe (mSetC v 0)), (mDt (mSetC v 0)), (mDo (mSetC v 0))) F hr hlk hw (Or.inr ⟨⟨if_nz hr5 c8, Int64.not_lt.mp c15⟩, rfl, by have h9 := x_le (show mW v 0 < 2 ^ 31 by omega) (by omega) c46; rw [hn, show i = mW v 0 by omega]⟩) dX4_waiting_117
      · have hlt : i < mW v 0 := x_nle (show mW v 0 < 2 ^ 31 by omega) (by omega) c46
        refine lv_iload F.1 F.2.1 dX4_waiting_49 (lv_at hl 5 rfl) ?_
        refine lv_aload_n F.1 F.2.1 dX4_waiting_51 rfl (lv_at hl 0 rfl) ?_
        refine x_get F hw iX4 0 rfl rfl 2 (by decide) rfl (List.mem_of_getElem? (i := 2) rfl) rfl dX4_waiting_52 ?_
        refine lv_iload F.1 F.2.1 dX4_waiting_55 (lv_at hl 6 rfl) ?_
        refine x_zaldN F hw 2 2 rfl rfl i rfl (by omega) (by decide) dX4_waiting_57 ?_
        refine lv_if_eq (tgt := 105) F.1 F.2.1 dX4_waiting_58 (by decide) (fun c58 => ?_) (fun c58 => ?_)
        · refine lv_iconst (v := 0) F.1 F.2.1 dX4_waiting_105 (by decide) ?_
          refine lv_iadd F.1 F.2.1 dX4_waiting_106 ?_
          refine x_topi (v := nI (n + 0)) ((nI_add n 0).symm) ?_
          refine lv_istore (lv' := [(8, .int (nI (n + 0))), (0, .ref (bH B)), (1, .int x), (2, .long y), (4, .long t1), (6, .long t2), (9, .int (nI i))]) F.1 F.2.1 dX4_waiting_107 hl (by decide) rfl (fun ls hl => ?_)
          refine lv_iinc (v := nI (i + 1)) (lv' := [(9, .int (nI (i + 1))), (8, .int (nI (n + 0))), (0, .ref (bH B)), (1, .int x), (2, .long y), (4, .long t1), (6, .long t2)]) F.1 F.2.1 dX4_waiting_109 hl (k := 6) rfl (by rw [show Int32.ofInt 1 = 1 from rfl]; exact nI_1 _) (by decide) rfl (fun ls hl => ?_)
          refine lv_goto (tgt := 38) F.1 F.2.1 dX4_waiting_112 (by decide) ?_
          exact ih ((i + 1, n + 0)) _ _ _ (by simp only []; omega) ⟨lv_sub hl [2, 3, 4, 5, 6, 1, 0] rfl, hw, by omega, by simp only []; rw [cnt_0 (P := mBet v x y t1 t2) (by show (decide (mIt v i ≠ 0) && _) = false; rw [decide_eq_false (fun q => q c58)]; rfl), hn]; rfl⟩
        · refine lv_aload_n F.1 F.2.1 dX4_waiting_61 rfl (lv_at hl 0 rfl) ?_
          refine x_get F hw iX4 0 rfl rfl 3 (by decide) rfl (List.mem_of_getElem? (i := 3) rfl) rfl dX4_waiting_62 ?_
          refine lv_iload F.1 F.2.1 dX4_waiting_65 (lv_at hl 6 rfl) ?_
          refine x_ialdN F hw 3 0 rfl rfl i rfl (by omega) (by decide) dX4_waiting_67 ?_
          refine lv_iload_n F.1 F.2.1 dX4_waiting_68 rfl (lv_at hl 1 rfl) ?_
          refine lv_icmp_ne (tgt := 105) F.1 F.2.1 dX4_waiting_69 (by decide) (fun c69 => ?_) (fun c69 => ?_)
          · refine lv_iconst (v := 0) F.1 F.2.1 dX4_waiting_105 (by decide) ?_
            refine lv_iadd F.1 F.2.1 dX4_waiting_106 ?_
            refine x_topi (v := nI (n + 0)) ((nI_add n 0).symm) ?_
            refine lv_istore (lv' := [(8, .int (nI (n + 0))), (0, .ref (bH B)), (1, .int x), (2, .long y), (4, .long t1), (6, .long t2), (9, .int (nI i))]) F.1 F.2.1 dX4_waiting_107 hl (by decide) rfl (fun ls hl => ?_)
            refine lv_iinc (v := nI (i + 1)) (lv' := [(9, .int (nI (i + 1))), (8, .int (nI (n + 0))), (0, .ref (bH B)), (1, .int x), (2, .long y), (4, .long t1), (6, .long t2)]) F.1 F.2.1 dX4_waiting_109 hl (k := 6) rfl (by rw [show Int32.ofInt 1 = 1 from rfl]; exact nI_1 _) (by decide) rfl (fun ls hl => ?_)
            refine lv_goto (tgt := 38) F.1 F.2.1 dX4_waiting_112 (by decide) ?_
            exact ih ((i + 1, n + 0)) _ _ _ (by simp only []; omega) ⟨lv_sub hl [2, 3, 4, 5, 6, 1, 0] rfl, hw, by omega, by simp only []; rw [cnt_0 (P := mBet v x y t1 t2) (by show (_ && eBet x y t1 t2 (mE v i).2) = false; rw [eBet_c c69, Bool.and_false]), hn]; rfl⟩
          · refine lv_aload_n F.1 F.2.1 dX4_waiting_72 rfl (lv_at hl 0 rfl) ?_
            refine x_get F hw iX4 0 rfl rfl 5 (by decide) rfl (List.mem_of_getElem? (i := 4) rfl) rfl dX4_waiting_73 ?_
            refine lv_iload F.1 F.2.1 dX4_waiting_76 (lv_at hl 6 rfl) ?_
            refine x_laldN F hw 5 1 rfl rfl i rfl (by omega) (by decide) dX4_waiting_78 ?_
            refine lv_lload_n F.1 F.2.1 dX4_waiting_79 rfl (lv_at hl 2 rfl) ?_
            refine x_l_ne (tgt := 105) F dX4_waiting_80 dX4_waiting_81 (by decide) (fun c80 => ?_) (fun c80 => ?_)
            · refine lv_iconst (v := 0) F.1 F.2.1 dX4_waiting_105 (by decide) ?_
              refine lv_iadd F.1 F.2.1 dX4_waiting_106 ?_
              refine x_topi (v := nI (n + 0)) ((nI_add n 0).symm) ?_
              refine lv_istore (lv' := [(8, .int (nI (n + 0))), (0, .ref (bH B)), (1, .int x), (2, .long y), (4, .long t1), (6, .long t2), (9, .int (nI i))]) F.1 F.2.1 dX4_waiting_107 hl (by decide) rfl (fun ls hl => ?_)
              refine lv_iinc (v := nI (i + 1)) (lv' := [(9, .int (nI (i + 1))), (8, .int (nI (n + 0))), (0, .ref (bH B)), (1, .int x), (2, .long y), (4, .long t1), (6, .long t2)]) F.1 F.2.1 dX4_waiting_109 hl (k := 6) rfl (by rw [show Int32.ofInt 1 = 1 from rfl]; exact nI_1 _) (by decide) rfl (fun ls hl => ?_)
              refine lv_goto (tgt := 38) F.1 F.2.1 dX4_waiting_112 (by decide) ?_
              exact ih ((i + 1, n + 0)) _ _ _ (by simp only []; omega) ⟨lv_sub hl [2, 3, 4, 5, 6, 1, 0] rfl, hw, by omega, by simp only []; rw [cnt_0 (P := mBet v x y t1 t2) (by show (_ && eBet x y t1 t2 (mE v i).2) = false; rw [eBet_d c80, Bool.and_false]), hn]; rfl⟩
            · refine lv_aload_n F.1 F.2.1 dX4_waiting_84 rfl (lv_at hl 0 rfl) ?_
              refine x_get F hw iX4 0 rfl rfl 6 (by decide) rfl (List.mem_of_getElem? (i := 5) rfl) rfl dX4_waiting_85 ?_
              refine lv_iload F.1 F.2.1 dX4_waiting_88 (lv_at hl 6 rfl) ?_
              refine x_laldN F hw 6 1 rfl rfl i rfl (by omega) (by decide) dX4_waiting_90 ?_
              refine lv_lload F.1 F.2.1 dX4_waiting_91 (lv_at hl 3 rfl) ?_
              refine lv_lload F.1 F.2.1 dX4_waiting_93 (lv_at hl 4 rfl) ?_
              refine x_ri (va_runS (As := [.long (mTi (mSetC v 0) i), .long t1, .long t2]) (rest := [.int (nI n)]) F (c_X4_isIn l G cI cJ cZ cO (Array.size H) (mTi (mSetC v 0) i) t1 t2) (va_cwS 3 F.2.2.2.2 gX4_waiting_X4_isIn rfl rfl rfl (by decide +kernel) ⟨Nat.le_of_ble_eq_true rfl, Nat.le_of_ble_eq_true rfl⟩) (x_preSW hw [] rfl (by decide)) rfl rfl hl.1 rfl (lv_room (Nat.le_of_ble_eq_true rfl)) dX4_waiting_95 ⟨Nat.le_of_ble_eq_true rfl, Nat.le_of_ble_eq_true rfl⟩) (fun r95 hr95 => ?_)
              refine lv_if_eq (tgt := 105) F.1 F.2.1 dX4_waiting_98 (by decide) (fun c98 => ?_) (fun c98 => ?_)
              · refine lv_iconst (v := 0) F.1 F.2.1 dX4_waiting_105 (by decide) ?_
                refine lv_iadd F.1 F.2.1 dX4_waiting_106 ?_
                refine x_topi (v := nI (n + 0)) ((nI_add n 0).symm) ?_
                refine lv_istore (lv' := [(8, .int (nI (n + 0))), (0, .ref (bH B)), (1, .int x), (2, .long y), (4, .long t1), (6, .long t2), (9, .int (nI i))]) F.1 F.2.1 dX4_waiting_107 hl (by decide) rfl (fun ls hl => ?_)
                refine lv_iinc (v := nI (i + 1)) (lv' := [(9, .int (nI (i + 1))), (8, .int (nI (n + 0))), (0, .ref (bH B)), (1, .int x), (2, .long y), (4, .long t1), (6, .long t2)]) F.1 F.2.1 dX4_waiting_109 hl (k := 6) rfl (by rw [show Int32.ofInt 1 = 1 from rfl]; exact nI_1 _) (by decide) rfl (fun ls hl => ?_)
                refine lv_goto (tgt := 38) F.1 F.2.1 dX4_waiting_112 (by decide) ?_
                exact ih ((i + 1, n + 0)) _ _ _ (by simp only []; omega) ⟨lv_sub hl [2, 3, 4, 5, 6, 1, 0] rfl, hw, by omega, by simp only []; rw [cnt_0 (P := mBet v x y t1 t2) (by show (_ && eBet x y t1 t2 (mE v i).2) = false; rw [show eBet x y t1 t2 (mE v i).2 = false from eBet_n (if_z hr95 c98), Bool.and_false]), hn]; rfl⟩
              · refine lv_iconst (v := 1) F.1 F.2.1 dX4_waiting_101 (by decide) ?_
                refine lv_goto (tgt := 106) F.1 F.2.1 dX4_waiting_102 (by decide) ?_
                refine lv_iadd F.1 F.2.1 dX4_waiting_106 ?_
                refine x_topi (v := nI (n + 1)) ((nI_add n 1).symm) ?_
                refine lv_istore (lv' := [(8, .int (nI (n + 1))), (0, .ref (bH B)), (1, .int x), (2, .long y), (4, .long t1), (6, .long t2), (9, .int (nI i))]) F.1 F.2.1 dX4_waiting_107 hl (by decide) rfl (fun ls hl => ?_)
                refine lv_iinc (v := nI (i + 1)) (lv' := [(9, .int (nI (i + 1))), (8, .int (nI (n + 1))), (0, .ref (bH B)), (1, .int x), (2, .long y), (4, .long t1), (6, .long t2)]) F.1 F.2.1 dX4_waiting_109 hl (k := 6) rfl (by rw [show Int32.ofInt 1 = 1 from rfl]; exact nI_1 _) (by decide) rfl (fun ls hl => ?_)
                refine lv_goto (tgt := 38) F.1 F.2.1 dX4_waiting_112 (by decide) ?_
                exact ih ((i + 1, n + 1)) _ _ _ (by simp only []; omega) ⟨lv_sub hl [2, 3, 4, 5, 6, 1, 0] rfl, hw, by omega, by simp only []; rw [cnt_1 (P := mBet v x y t1 t2) (by show (decide (mIt v i ≠ 0) && eBet x y t1 t2 (mE v i).2) = true; rw [decide_eq_true (show mIt v i ≠ 0 from c58), eBet_1 (a := (mE v i).2) (Int64.not_lt.mpr (if_nz hr95 c98).1) (Int64.not_lt.mpr (if_nz hr95 c98).2) c69 c80]; rfl), hn]⟩

set_option maxHeartbeats 8000000 in
set_option maxRecDepth 100000 in
/-- taskOf(k, tasks) -/
theorem c_X4_taskOf (l : Launch) (G : va_G) (cI cJ cZ cO : ClassId) (sz : Nat) (k : Int64) (n : Int32) : Met l yX4_taskOf wsX4_taskOf ({ frames := 0, cells := 0, slots := 0, locals := 0 }) (xPc G (xK cI cJ cZ cO) sz [.long k, .int n] ([])) (xQi (fun r => r = mTask k n)) 0 0 (fun _ => False) := by
  refine x_body (by decide) rfl (Nat.le_of_ble_eq_true rfl) ?_
  intro p e s m below meth c F hr hlk hnm hsz hw ls hl
  subst hsz
  have F : CallFix p m c cX4_taskOf 4 s _ wsX4_taskOf RX4 := F
  have hl : lv_has ls 4 [(0, .long k), (2, .int n)] := hl
  have hw : xW G (xK cI cJ cZ cO) _ s.heap s [] s.heap [] := hw
  refine lv_lload_n F.1 F.2.1 dX4_taskOf_0 rfl (lv_at hl 0 rfl) ?_
  refine lv_ldc2 (v := 128) F.1 F.2.1 F.2.2.2.1 (F.2.2.2.2 _ (List.mem_of_getElem? (i := 1) rfl)) dX4_taskOf_1 ?_
  refine lv_lrem F.1 F.2.1 dX4_taskOf_4 (by decide) ?_
  refine lv_l2i (v := (k - k / 128 * 128).toInt32) F.1 F.2.1 dX4_taskOf_5 rfl ?_
  refine lv_istore_n (lv' := [(3, .int ((k - k / 128 * 128).toInt32)), (0, .long k), (2, .int n)]) F.1 F.2.1 dX4_taskOf_6 rfl hl (by decide) rfl (fun ls hl => ?_)
  refine lv_iload_n F.1 F.2.1 dX4_taskOf_7 rfl (lv_at hl 0 rfl) ?_
  refine lv_if_ge (tgt := 19) F.1 F.2.1 dX4_taskOf_8 (by decide) (fun c8 => ?_) (fun c8 => ?_)
  · refine lv_iload_n F.1 F.2.1 dX4_taskOf_19 rfl (lv_at hl 0 rfl) ?_
    refine lv_iload_n F.1 F.2.1 dX4_taskOf_20 rfl (lv_at hl 2 rfl) ?_
    refine lv_imul F.1 F.2.1 dX4_taskOf_21 ?_
    refine lv_sipush (v := 128) F.1 F.2.1 dX4_taskOf_22 (by decide) ?_
    refine lv_idiv F.1 F.2.1 dX4_taskOf_25 (by decide) ?_
    exact x_riret F hr hlk (by unfold mTask; rw [if_neg (Int32.not_lt.mpr c8)]) dX4_taskOf_26
  · refine lv_iload_n F.1 F.2.1 dX4_taskOf_11 rfl (lv_at hl 0 rfl) ?_
    refine lv_sipush (v := 128) F.1 F.2.1 dX4_taskOf_12 (by decide) ?_
    refine lv_iadd F.1 F.2.1 dX4_taskOf_15 ?_
    refine lv_goto (tgt := 20) F.1 F.2.1 dX4_taskOf_16 (by decide) ?_
    refine lv_iload_n F.1 F.2.1 dX4_taskOf_20 rfl (lv_at hl 2 rfl) ?_
    refine lv_imul F.1 F.2.1 dX4_taskOf_21 ?_
    refine lv_sipush (v := 128) F.1 F.2.1 dX4_taskOf_22 (by decide) ?_
    refine lv_idiv F.1 F.2.1 dX4_taskOf_25 (by decide) ?_
    exact x_riret F hr hlk (by unfold mTask; rw [if_pos (Int32.not_le.mp c8)]) dX4_taskOf_26

set_option maxHeartbeats 8000000 in
set_option maxRecDepth 100000 in
/-- task(k, tasks) -/
theorem c_X4_task (l : Launch) (G : va_G) (cI cJ cZ cO : ClassId) (sz : Nat) (B : MA) (v : MR) (k : Int64) (n : Int32) : Met l yX4_task wsX4_task ({ frames := 1, cells := 0, slots := 0, locals := 25 }) (xPc G (xK cI cJ cZ cO) sz [.ref (bH B), .long k, .int n] (wMo cI cJ cZ B v)) (va_Qi (fun r u2 => (¬ gTasks n ∧ u2 = mSetC v 1) ∨ (gTasks n ∧ u2 = mSetC v 0 ∧ r = mTask k n)) (xB G (xK cI cJ cZ cO) (wMo cI cJ cZ B v) sz (fun u9 : MR => wMo cI cJ cZ B u9)) (va_A (wMo cI cJ cZ B v) sz)) 0 0 (va_A (wMo cI cJ cZ B v) sz) := by
  refine x_body (by decide) rfl (Nat.le_of_ble_eq_true rfl) ?_
  intro p e s m below meth c F hr hlk hnm hsz hw ls hl
  subst hsz
  have F : CallFix p m c cX4_task 4 s _ wsX4_task RX4 := F
  have hl : lv_has ls 4 [(0, .ref (bH B)), (1, .long k), (3, .int n)] := hl
  have hw : xW G (xK cI cJ cZ cO) _ s.heap s [(bH B, .inr (4, [.int (mCode v), .ref (bW B), .ref (bIt B), .ref (bCk B), .ref (bNu B), .ref (bKe B), .ref (bTi B), .ref (bGa B), .ref (bOf B), .ref (bNw B), .ref (bCn B), .int (nI (mKp v)), .int (nI (mDn v)), .ref (bDk B), .ref (bDu B), .ref (bDe B), .ref (bDt B), .ref (bDo B)])), (bW B, .inl (cI, 4, .inl (fun j9 => nI (mW v j9)))), (bIt B, .inl (cZ, 320, .inl (mIt v))), (bCk B, .inl (cI, 320, .inl (mCk v))), (bNu B, .inl (cI, 320, .inl (mNu v))), (bKe B, .inl (cJ, 320, .inr (.inl (mKe v)))), (bTi B, .inl (cJ, 320, .inr (.inl (mTi v)))), (bGa B, .inl (cJ, 320, .inr (.inl (mGa v)))), (bOf B, .inl (cI, 320, .inl (mOf v))), (bNw B, .inl (cJ, 8, .inr (.inl (mNw v)))), (bCn B, .inl (cI, 16, .inl (mCn v))), (bDk B, .inl (cI, 4000, .inl (mDk v))), (bDu B, .inl (cI, 4000, .inl (mDu v))), (bDe B, .inl (cJ, 4000, .inr (.inl (mDe v)))), (bDt B, .inl (cJ, 4000, .inr (.inl (mDt v)))), (bDo B, .inl (cI, 4000, .inl (mDo v)))] s.heap [] := hw
  refine lv_aload_n F.1 F.2.1 dX4_task_0 rfl (lv_at hl 0 rfl) ?_
  refine lv_iload_n F.1 F.2.1 dX4_task_1 rfl (lv_at hl 2 rfl) ?_
  refine lv_i2l (v := n.toInt64) F.1 F.2.1 dX4_task_2 (rfl) ?_
  refine lv_lconst (v := 1) F.1 F.2.1 dX4_task_3 (by decide) ?_
  refine lv_ldc2 (v := 128) F.1 F.2.1 F.2.2.2.1 (F.2.2.2.2 _ (List.mem_of_getElem? (i := 1) rfl)) dX4_task_4 ?_
  refine x_ri (va_runS (As := [.long n.toInt64, .long 1, .long 128]) (rest := [.ref (bH B)]) F (c_X4_isIn l G cI cJ cZ cO (Array.size _) n.toInt64 1 128) (va_cwS 3 F.2.2.2.2 gX4_task_X4_isIn rfl rfl rfl (by decide +kernel) ⟨Nat.le_of_ble_eq_true rfl, Nat.le_of_ble_eq_true rfl⟩) (x_preSW hw [] rfl (by decide)) rfl rfl hl.1 rfl (lv_room (Nat.le_of_ble_eq_true rfl)) dX4_task_7 ⟨Nat.le_of_ble_eq_true rfl, Nat.le_of_ble_eq_true rfl⟩) (fun r7 hr7 => ?_)
  refine lv_if_eq (tgt := 17) F.1 F.2.1 dX4_task_10 (by decide) (fun c10 => ?_) (fun c10 => ?_)
  · refine lv_iconst (v := 1) F.1 F.2.1 dX4_task_17 (by decide) ?_
    refine x_wi (wr := []) (va_runV (As := [.int 1]) (rest := []) F (c_X4_isGood l G cI cJ cZ cO (Array.size _) B v 1) (cwV 1 F.2.2.2.2 gX4_task_X4_isGood rfl rfl rfl (by decide +kernel) ⟨Nat.le_of_ble_eq_true rfl, Nat.le_of_ble_eq_true rfl⟩) (x_preVW hw [0, 1, 2, 3, 4, 5, 6, 7, 8, 9, 10, 11, 12, 13, 14, 15] rfl (by decide) 0 rfl rfl) rfl rfl hl.1 rfl (lv_room (Nat.le_of_ble_eq_true rfl)) dX4_task_18 ⟨Nat.le_of_ble_eq_true rfl, Nat.le_of_ble_eq_true rfl⟩) hw [0, 1, 2, 3, 4, 5, 6, 7, 8, 9, 10, 11, 12, 13, 14, 15] [] rfl rfl (by decide) (by decide) (fun r9 u8 H locs hu9 hw => ?_)
    have hw : xW G (xK cI cJ cZ cO) _ s.heap s [(bH B, .inr (4, [.int (mCode u8), .ref (bW B), .ref (bIt B), .ref (bCk B), .ref (bNu B), .ref (bKe B), .ref (bTi B), .ref (bGa B), .ref (bOf B), .ref (bNw B), .ref (bCn B), .int (nI (mKp u8)), .int (nI (mDn u8)), .ref (bDk B), .ref (bDu B), .ref (bDe B), .ref (bDt B), .ref (bDo B)])), (bW B, .inl (cI, 4, .inl (fun j9 => nI (mW u8 j9)))), (bIt B, .inl (cZ, 320, .inl (mIt u8))), (bCk B, .inl (cI, 320, .inl (mCk u8))), (bNu B, .inl (cI, 320, .inl (mNu u8))), (bKe B, .inl (cJ, 320, .inr (.inl (mKe u8)))), (bTi B, .inl (cJ, 320, .inr (.inl (mTi u8)))), (bGa B, .inl (cJ, 320, .inr (.inl (mGa u8)))), (bOf B, .inl (cI, 320, .inl (mOf u8))), (bNw B, .inl (cJ, 8, .inr (.inl (mNw u8)))), (bCn B, .inl (cI, 16, .inl (mCn u8))), (bDk B, .inl (cI, 4000, .inl (mDk u8))), (bDu B, .inl (cI, 4000, .inl (mDu u8))), (bDe B, .inl (cJ, 4000, .inr (.inl (mDe u8)))), (bDt B, .inl (cJ, 4000, .inr (.inl (mDt u8)))), (bDo B, .inl (cI, 4000, .inl (mDo u8)))] H _ := hw
    obtain ⟨hu9, hr9⟩ := hu9
    subst hu9
    have hr9 := hr9.trans (if_neg (by decide))
    subst hr9
    refine lv_if_eq (tgt := 32) F.1 F.2.1 dX4_task_21 (by decide) (fun c21 => ?_) (fun c21 => ?_)
    rotate_left
    · exact (c21 (by decide)).elim
    refine lv_iconst (v := 0) F.1 F.2.1 dX4_task_32 (by decide) ?_
    exact x_iret (f := fun u9 : MR => wMo cI cJ cZ B u9) (mCode (mSetC v 1), (mW (mSetC v 1)), (mIt (mSetC v 1)), (mCk (mSetC v 1)), (mNu (mSetC v 1)), (mKe (mSetC v 1)), (mTi (mSetC v 1)), (mGa (mSetC v 1)), (mOf (mSetC v 1)), (mNw (mSetC v 1)), (mCn (mSetC v 1)), mKp (mSetC v 1), mDn (mSetC v 1), (mDk (mSetC v 1)), (mDu (mSetC v 1)), (mDe (mSetC v 1)), (mDt (mSetC v 1)), (mDo (mSetC v 1))) F hr hlk hw (Or.inl ⟨if_z hr7 c10, rfl⟩) dX4_task_33
  · refine lv_iconst (v := 0) F.1 F.2.1 dX4_task_13 (by decide) ?_
    refine lv_goto (tgt := 18) F.1 F.2.1 dX4_task_14 (by decide) ?_
    refine x_wi (wr := []) (va_runV (As := [.int 0]) (rest := []) F (c_X4_isGood l G cI cJ cZ cO (Array.size _) B v 0) (cwV 1 F.2.2.2.2 gX4_task_X4_isGood rfl rfl rfl (by decide +kernel) ⟨Nat.le_of_ble_eq_true rfl, Nat.le_of_ble_eq_true rfl⟩) (x_preVW hw [0, 1, 2, 3, 4, 5, 6, 7, 8, 9, 10, 11, 12, 13, 14, 15] rfl (by decide) 0 rfl rfl) rfl rfl hl.1 rfl (lv_room (Nat.le_of_ble_eq_true rfl)) dX4_task_18 ⟨Nat.le_of_ble_eq_true rfl, Nat.le_of_ble_eq_true rfl⟩) hw [0, 1, 2, 3, 4, 5, 6, 7, 8, 9, 10, 11, 12, 13, 14, 15] [] rfl rfl (by decide) (by decide) (fun r9 u8 H locs hu9 hw => ?_)
    have hw : xW G (xK cI cJ cZ cO) _ s.heap s [(bH B, .inr (4, [.int (mCode u8), .ref (bW B), .ref (bIt B), .ref (bCk B), .ref (bNu B), .ref (bKe B), .ref (bTi B), .ref (bGa B), .ref (bOf B), .ref (bNw B), .ref (bCn B), .int (nI (mKp u8)), .int (nI (mDn u8)), .ref (bDk B), .ref (bDu B), .ref (bDe B), .ref (bDt B), .ref (bDo B)])), (bW B, .inl (cI, 4, .inl (fun j9 => nI (mW u8 j9)))), (bIt B, .inl (cZ, 320, .inl (mIt u8))), (bCk B, .inl (cI, 320, .inl (mCk u8))), (bNu B, .inl (cI, 320, .inl (mNu u8))), (bKe B, .inl (cJ, 320, .inr (.inl (mKe u8)))), (bTi B, .inl (cJ, 320, .inr (.inl (mTi u8)))), (bGa B, .inl (cJ, 320, .inr (.inl (mGa u8)))), (bOf B, .inl (cI, 320, .inl (mOf u8))), (bNw B, .inl (cJ, 8, .inr (.inl (mNw u8)))), (bCn B, .inl (cI, 16, .inl (mCn u8))), (bDk B, .inl (cI, 4000, .inl (mDk u8))), (bDu B, .inl (cI, 4000, .inl (mDu u8))), (bDe B, .inl (cJ, 4000, .inr (.inl (mDe u8)))), (bDt B, .inl (cJ, 4000, .inr (.inl (mDt u8)))), (bDo B, .inl (cI, 4000, .inl (mDo u8)))] H _ := hw
    obtain ⟨hu9, hr9⟩ := hu9
    subst hu9
    have hr9 := hr9.trans (if_pos rfl)
    subst hr9
    refine lv_if_eq (tgt := 32) F.1 F.2.1 dX4_task_21 (by decide) (fun c21 => ?_) (fun c21 => ?_)
    · exact absurd c21 (by decide)
    refine lv_lload_n F.1 F.2.1 dX4_task_24 rfl (lv_at hl 1 rfl) ?_
    refine lv_iload_n F.1 F.2.1 dX4_task_25 rfl (lv_at hl 2 rfl) ?_
    refine x_ri (va_runS (As := [.long k, .int n]) (rest := []) F (c_X4_taskOf l G cI cJ cZ cO (Array.size H) k n) (va_cwS 2 F.2.2.2.2 gX4_task_X4_taskOf rfl rfl rfl (by decide +kernel) ⟨Nat.le_of_ble_eq_true rfl, Nat.le_of_ble_eq_true rfl⟩) (x_preSW hw [] rfl (by decide)) rfl rfl hl.1 rfl (lv_room (Nat.le_of_ble_eq_true rfl)) dX4_task_26 ⟨Nat.le_of_ble_eq_true rfl, Nat.le_of_ble_eq_true rfl⟩) (fun r26 hr26 => ?_)
    refine lv_goto (tgt := 33) F.1 F.2.1 dX4_task_29 (by decide) ?_
    exact x_iret (f := fun u9 : MR => wMo cI cJ cZ B u9) (mCode (mSetC v 0), (mW (mSetC v 0)), (mIt (mSetC v 0)), (mCk (mSetC v 0)), (mNu (mSetC v 0)), (mKe (mSetC v 0)), (mTi (mSetC v 0)), (mGa (mSetC v 0)), (mOf (mSetC v 0)), (mNw (mSetC v 0)), (mCn (mSetC v 0)), mKp (mSetC v 0), mDn (mSetC v 0), (mDk (mSetC v 0)), (mDu (mSetC v 0)), (mDe (mSetC v 0)), (mDt (mSetC v 0)), (mDo (mSetC v 0))) F hr hlk hw (Or.inr ⟨if_nz hr7 c10, rfl, hr26⟩) dX4_task_33

set_option maxHeartbeats 8000000 in
set_option maxRecDepth 100000 in
/-- load(task, tasks) -/
theorem c_X4_load (l : Launch) (G : va_G) (cI cJ cZ cO : ClassId) (sz : Nat) (B : MA) (v : MR) (x n : Int32) (hw0 : mW v 0 ≤ 80) : Met l yX4_load wsX4_load ({ frames := 1, cells := 0, slots := 0, locals := 25 }) (xPc G (xK cI cJ cZ cO) sz [.ref (bH B), .int x, .int n] (wMo cI cJ cZ B v)) (va_Qi (fun r u2 => (¬ gLoad x n ∧ u2 = mSetC v 1) ∨ (gLoad x n ∧ u2 = mSetC v 0 ∧ r = nI (cnt (fun j9 => decide (mTask (mKe v j9) n = x)) (mW v 0)))) (xB G (xK cI cJ cZ cO) (wMo cI cJ cZ B v) sz (fun u9 : MR => wMo cI cJ cZ B u9)) (va_A (wMo cI cJ cZ B v) sz)) 0 0 (va_A (wMo cI cJ cZ B v) sz) := by
  refine x_body (by decide) rfl (Nat.le_of_ble_eq_true rfl) ?_
  intro p e s m below meth c F hr hlk hnm hsz hw ls hl
  subst hsz
  have F : CallFix p m c cX4_load 5 s _ wsX4_load RX4 := F
  have hl : lv_has ls 5 [(0, .ref (bH B)), (1, .int x), (2, .int n)] := hl
  have hw : xW G (xK cI cJ cZ cO) _ s.heap s [(bH B, .inr (4, [.int (mCode v), .ref (bW B), .ref (bIt B), .ref (bCk B), .ref (bNu B), .ref (bKe B), .ref (bTi B), .ref (bGa B), .ref (bOf B), .ref (bNw B), .ref (bCn B), .int (nI (mKp v)), .int (nI (mDn v)), .ref (bDk B), .ref (bDu B), .ref (bDe B), .ref (bDt B), .ref (bDo B)])), (bW B, .inl (cI, 4, .inl (fun j9 => nI (mW v j9)))), (bIt B, .inl (cZ, 320, .inl (mIt v))), (bCk B, .inl (cI, 320, .inl (mCk v))), (bNu B, .inl (cI, 320, .inl (mNu v))), (bKe B, .inl (cJ, 320, .inr (.inl (mKe v)))), (bTi B, .inl (cJ, 320, .inr (.inl (mTi v)))), (bGa B, .inl (cJ, 320, .inr (.inl (mGa v)))), (bOf B, .inl (cI, 320, .inl (mOf v))), (bNw B, .inl (cJ, 8, .inr (.inl (mNw v)))), (bCn B, .inl (cI, 16, .inl (mCn v))), (bDk B, .inl (cI, 4000, .inl (mDk v))), (bDu B, .inl (cI, 4000, .inl (mDu v))), (bDe B, .inl (cJ, 4000, .inr (.inl (mDe v)))), (bDt B, .inl (cJ, 4000, .inr (.inl (mDt v)))), (bDo B, .inl (cI, 4000, .inl (mDo v)))] s.heap [] := hw
  have iX4 : ∀ w ∈ wsX40, w ∈ wsX4_load := by decide +kernel
  refine lv_aload_n F.1 F.2.1 dX4_load_0 rfl (lv_at hl 0 rfl) ?_
  refine lv_iload_n F.1 F.2.1 dX4_load_1 rfl (lv_at hl 2 rfl) ?_
  refine lv_i2l (v := n.toInt64) F.1 F.2.1 dX4_load_2 (rfl) ?_
  refine lv_lconst (v := 1) F.1 F.2.1 dX4_load_3 (by decide) ?_
  refine lv_ldc2 (v := 128) F.1 F.2.1 F.2.2.2.1 (F.2.2.2.2 _ (List.mem_of_getElem? (i := 1) rfl)) dX4_load_4 ?_
  refine x_ri (va_runS (As := [.long n.toInt64, .long 1, .long 128]) (rest := [.ref (bH B)]) F (c_X4_isIn l G cI cJ cZ cO (Array.size _) n.toInt64 1 128) (va_cwS 3 F.2.2.2.2 gX4_load_X4_isIn rfl rfl rfl (by decide +kernel) ⟨Nat.le_of_ble_eq_true rfl, Nat.le_of_ble_eq_true rfl⟩) (x_preSW hw [] rfl (by decide)) rfl rfl hl.1 rfl (lv_room (Nat.le_of_ble_eq_true rfl)) dX4_load_7 ⟨Nat.le_of_ble_eq_true rfl, Nat.le_of_ble_eq_true rfl⟩) (fun r7 hr7 => ?_)
  refine lv_if_eq (tgt := 30) F.1 F.2.1 dX4_load_10 (by decide) (fun c10 => ?_) (fun c10 => ?_)
  · refine lv_iconst (v := 1) F.1 F.2.1 dX4_load_30 (by decide) ?_
    refine x_wi (wr := []) (va_runV (As := [.int 1]) (rest := []) F (c_X4_isGood l G cI cJ cZ cO (Array.size _) B v 1) (cwV 1 F.2.2.2.2 gX4_load_X4_isGood rfl rfl rfl (by decide +kernel) ⟨Nat.le_of_ble_eq_true rfl, Nat.le_of_ble_eq_true rfl⟩) (x_preVW hw [0, 1, 2, 3, 4, 5, 6, 7, 8, 9, 10, 11, 12, 13, 14, 15] rfl (by decide) 0 rfl rfl) rfl rfl hl.1 rfl (lv_room (Nat.le_of_ble_eq_true rfl)) dX4_load_31 ⟨Nat.le_of_ble_eq_true rfl, Nat.le_of_ble_eq_true rfl⟩) hw [0, 1, 2, 3, 4, 5, 6, 7, 8, 9, 10, 11, 12, 13, 14, 15] [] rfl rfl (by decide) (by decide) (fun r9 u8 H locs hu9 hw => ?_)
    have hw : xW G (xK cI cJ cZ cO) _ s.heap s [(bH B, .inr (4, [.int (mCode u8), .ref (bW B), .ref (bIt B), .ref (bCk B), .ref (bNu B), .ref (bKe B), .ref (bTi B), .ref (bGa B), .ref (bOf B), .ref (bNw B), .ref (bCn B), .int (nI (mKp u8)), .int (nI (mDn u8)), .ref (bDk B), .ref (bDu B), .ref (bDe B), .ref (bDt B), .ref (bDo B)])), (bW B, .inl (cI, 4, .inl (fun j9 => nI (mW u8 j9)))), (bIt B, .inl (cZ, 320, .inl (mIt u8))), (bCk B, .inl (cI, 320, .inl (mCk u8))), (bNu B, .inl (cI, 320, .inl (mNu u8))), (bKe B, .inl (cJ, 320, .inr (.inl (mKe u8)))), (bTi B, .inl (cJ, 320, .inr (.inl (mTi u8)))), (bGa B, .inl (cJ, 320, .inr (.inl (mGa u8)))), (bOf B, .inl (cI, 320, .inl (mOf u8))), (bNw B, .inl (cJ, 8, .inr (.inl (mNw u8)))), (bCn B, .inl (cI, 16, .inl (mCn u8))), (bDk B, .inl (cI, 4000, .inl (mDk u8))), (bDu B, .inl (cI, 4000, .inl (mDu u8))), (bDe B, .inl (cJ, 4000, .inr (.inl (mDe u8)))), (bDt B, .inl (cJ, 4000, .inr (.inl (mDt u8)))), (bDo B, .inl (cI, 4000, .inl (mDo u8)))] H _ := hw
    obtain ⟨hu9, hr9⟩ := hu9
    subst hu9
    have hr9 := hr9.trans (if_neg (by decide))
    subst hr9
    refine lv_if_ne (tgt := 39) F.1 F.2.1 dX4_load_34 (by decide) (fun c34 => ?_) (fun c34 => ?_)
    · exact (c34 (by decide)).elim
    refine lv_iconst (v := 0) F.1 F.2.1 dX4_load_37 (by decide) ?_
    exact x_iret (f := fun u9 : MR => wMo cI cJ cZ B u9) (mCode (mSetC v 1), (mW (mSetC v 1)), (mIt (mSetC v 1)), (mCk (mSetC v 1)), (mNu (mSetC v 1)), (mKe (mSetC v 1)), (mTi (mSetC v 1)), (mGa (mSetC v 1)), (mOf (mSetC v 1)), (mNw (mSetC v 1)), (mCn (mSetC v 1)), mKp (mSetC v 1), mDn (mSetC v 1), (mDk (mSetC v 1)), (mDu (mSetC v 1)), (mDe (mSetC v 1)), (mDt (mSetC v 1)), (mDo (mSetC v 1))) F hr hlk hw (Or.inl ⟨fun h => if_z hr7 c10 h.1, rfl⟩) dX4_load_38
  · refine lv_iload_n F.1 F.2.1 dX4_load_13 rfl (lv_at hl 1 rfl) ?_
    refine lv_i2l (v := x.toInt64) F.1 F.2.1 dX4_load_14 (rfl) ?_
    refine lv_lconst (v := 0) F.1 F.2.1 dX4_load_15 (by decide) ?_
    refine lv_iload_n F.1 F.2.1 dX4_load_16 rfl (lv_at hl 2 rfl) ?_
    refine lv_iconst (v := 1) F.1 F.2.1 dX4_load_17 (by decide) ?_
    refine lv_isub F.1 F.2.1 dX4_load_18 ?_
    refine lv_i2l (v := (n - 1).toInt64) F.1 F.2.1 dX4_load_19 (rfl) ?_
    refine x_ri (va_runS (As := [.long x.toInt64, .long 0, .long ((n - 1).toInt64)]) (rest := [.ref (bH B)]) F (c_X4_isIn l G cI cJ cZ cO (Array.size _) x.toInt64 0 ((n - 1).toInt64)) (va_cwS 3 F.2.2.2.2 gX4_load_X4_isIn rfl rfl rfl (by decide +kernel) ⟨Nat.le_of_ble_eq_true rfl, Nat.le_of_ble_eq_true rfl⟩) (x_preSW hw [] rfl (by decide)) rfl rfl hl.1 rfl (lv_room (Nat.le_of_ble_eq_true rfl)) dX4_load_20 ⟨Nat.le_of_ble_eq_true rfl, Nat.le_of_ble_eq_true rfl⟩) (fun r20 hr20 => ?_)
    refine lv_if_eq (tgt := 30) F.1 F.2.1 dX4_load_23 (by decide) (fun c23 => ?_) (fun c23 => ?_)
    · refine lv_iconst (v := 1) F.1 F.2.1 dX4_load_30 (by decide) ?_
      refine x_wi (wr := []) (va_runV (As := [.int 1]) (rest := []) F (c_X4_isGood l G cI cJ cZ cO (Array.size _) B v 1) (cwV 1 F.2.2.2.2 gX4_load_X4_isGood rfl rfl rfl (by decide +kernel) ⟨Nat.le_of_ble_eq_true rfl, Nat.le_of_ble_eq_true rfl⟩) (x_preVW hw [0, 1, 2, 3, 4, 5, 6, 7, 8, 9, 10, 11, 12, 13, 14, 15] rfl (by decide) 0 rfl rfl) rfl rfl hl.1 rfl (lv_room (Nat.le_of_ble_eq_true rfl)) dX4_load_31 ⟨Nat.le_of_ble_eq_true rfl, Nat.le_of_ble_eq_true rfl⟩) hw [0, 1, 2, 3, 4, 5, 6, 7, 8, 9, 10, 11, 12, 13, 14, 15] [] rfl rfl (by decide) (by decide) (fun r9 u8 H locs hu9 hw => ?_)
      have hw : xW G (xK cI cJ cZ cO) _ s.heap s [(bH B, .inr (4, [.int (mCode u8), .ref (bW B), .ref (bIt B), .ref (bCk B), .ref (bNu B), .ref (bKe B), .ref (bTi B), .ref (bGa B), .ref (bOf B), .ref (bNw B), .ref (bCn B), .int (nI (mKp u8)), .int (nI (mDn u8)), .ref (bDk B), .ref (bDu B), .ref (bDe B), .ref (bDt B), .ref (bDo B)])), (bW B, .inl (cI, 4, .inl (fun j9 => nI (mW u8 j9)))), (bIt B, .inl (cZ, 320, .inl (mIt u8))), (bCk B, .inl (cI, 320, .inl (mCk u8))), (bNu B, .inl (cI, 320, .inl (mNu u8))), (bKe B, .inl (cJ, 320, .inr (.inl (mKe u8)))), (bTi B, .inl (cJ, 320, .inr (.inl (mTi u8)))), (bGa B, .inl (cJ, 320, .inr (.inl (mGa u8)))), (bOf B, .inl (cI, 320, .inl (mOf u8))), (bNw B, .inl (cJ, 8, .inr (.inl (mNw u8)))), (bCn B, .inl (cI, 16, .inl (mCn u8))), (bDk B, .inl (cI, 4000, .inl (mDk u8))), (bDu B, .inl (cI, 4000, .inl (mDu u8))), (bDe B, .inl (cJ, 4000, .inr (.inl (mDe u8)))), (bDt B, .inl (cJ, 4000, .inr (.inl (mDt u8)))), (bDo B, .inl (cI, 4000, .inl (mDo u8)))] H _ := hw
      obtain ⟨hu9, hr9⟩ := hu9
      subst hu9
      have hr9 := hr9.trans (if_neg (by decide))
      subst hr9
      refine lv_if_ne (tgt := 39) F.1 F.2.1 dX4_load_34 (by decide) (fun c34 => ?_) (fun c34 => ?_)
      · exact (c34 (by decide)).elim
      refine lv_iconst (v := 0) F.1 F.2.1 dX4_load_37 (by decide) ?_
      exact x_iret (f := fun u9 : MR => wMo cI cJ cZ B u9) (mCode (mSetC v 1), (mW (mSetC v 1)), (mIt (mSetC v 1)), (mCk (mSetC v 1)), (mNu (mSetC v 1)), (mKe (mSetC v 1)), (mTi (mSetC v 1)), (mGa (mSetC v 1)), (mOf (mSetC v 1)), (mNw (mSetC v 1)), (mCn (mSetC v 1)), mKp (mSetC v 1), mDn (mSetC v 1), (mDk (mSetC v 1)), (mDu (mSetC v 1)), (mDe (mSetC v 1)), (mDt (mSetC v 1)), (mDo (mSetC v 1))) F hr hlk hw (Or.inl ⟨fun h => if_z hr20 c23 h.2, rfl⟩) dX4_load_38
    · refine lv_iconst (v := 0) F.1 F.2.1 dX4_load_26 (by decide) ?_
      refine lv_goto (tgt := 31) F.1 F.2.1 dX4_load_27 (by decide) ?_
      refine x_wi (wr := []) (va_runV (As := [.int 0]) (rest := []) F (c_X4_isGood l G cI cJ cZ cO (Array.size _) B v 0) (cwV 1 F.2.2.2.2 gX4_load_X4_isGood rfl rfl rfl (by decide +kernel) ⟨Nat.le_of_ble_eq_true rfl, Nat.le_of_ble_eq_true rfl⟩) (x_preVW hw [0, 1, 2, 3, 4, 5, 6, 7, 8, 9, 10, 11, 12, 13, 14, 15] rfl (by decide) 0 rfl rfl) rfl rfl hl.1 rfl (lv_room (Nat.le_of_ble_eq_true rfl)) dX4_load_31 ⟨Nat.le_of_ble_eq_true rfl, Nat.le_of_ble_eq_true rfl⟩) hw [0, 1, 2, 3, 4, 5, 6, 7, 8, 9, 10, 11, 12, 13, 14, 15] [] rfl rfl (by decide) (by decide) (fun r9 u8 H locs hu9 hw => ?_)
      have hw : xW G (xK cI cJ cZ cO) _ s.heap s [(bH B, .inr (4, [.int (mCode u8), .ref (bW B), .ref (bIt B), .ref (bCk B), .ref (bNu B), .ref (bKe B), .ref (bTi B), .ref (bGa B), .ref (bOf B), .ref (bNw B), .ref (bCn B), .int (nI (mKp u8)), .int (nI (mDn u8)), .ref (bDk B), .ref (bDu B), .ref (bDe B), .ref (bDt B), .ref (bDo B)])), (bW B, .inl (cI, 4, .inl (fun j9 => nI (mW u8 j9)))), (bIt B, .inl (cZ, 320, .inl (mIt u8))), (bCk B, .inl (cI, 320, .inl (mCk u8))), (bNu B, .inl (cI, 320, .inl (mNu u8))), (bKe B, .inl (cJ, 320, .inr (.inl (mKe u8)))), (bTi B, .inl (cJ, 320, .inr (.inl (mTi u8)))), (bGa B, .inl (cJ, 320, .inr (.inl (mGa u8)))), (bOf B, .inl (cI, 320, .inl (mOf u8))), (bNw B, .inl (cJ, 8, .inr (.inl (mNw u8)))), (bCn B, .inl (cI, 16, .inl (mCn u8))), (bDk B, .inl (cI, 4000, .inl (mDk u8))), (bDu B, .inl (cI, 4000, .inl (mDu u8))), (bDe B, .inl (cJ, 4000, .inr (.inl (mDe u8)))), (bDt B, .inl (cJ, 4000, .inr (.inl (mDt u8)))), (bDo B, .inl (cI, 4000, .inl (mDo u8)))] H _ := hw
      obtain ⟨hu9, hr9⟩ := hu9
      subst hu9
      have hr9 := hr9.trans (if_pos rfl)
      subst hr9
      refine lv_if_ne (tgt := 39) F.1 F.2.1 dX4_load_34 (by decide) (fun c34 => ?_) (fun c34 => ?_)
      rotate_left
      · exact absurd c34 (by decide)
      refine lv_iconst (v := 0) F.1 F.2.1 dX4_load_39 (by decide) ?_
      refine lv_istore_n (lv' := [(3, .int 0), (0, .ref (bH B)), (1, .int x), (2, .int n)]) F.1 F.2.1 dX4_load_40 rfl hl (by decide) rfl (fun ls hl => ?_)
      refine lv_iconst (v := 0) F.1 F.2.1 dX4_load_41 (by decide) ?_
      refine lv_istore (lv' := [(4, .int 0), (3, .int 0), (0, .ref (bH B)), (1, .int x), (2, .int n)]) F.1 F.2.1 dX4_load_42 hl (by decide) rfl (fun ls hl => ?_)
      refine x_rec (α := Nat × Nat) (fun a9 => mW v 0 - a9.1) (fun a9 H locs ls => lv_has ls 5 [(0, .ref (bH B)), (1, .int x), (2, .int n), (3, .int (nI a9.2)), (4, .int (nI a9.1))] ∧ xW G (xK cI cJ cZ cO) _ s.heap s [(bH B, .inr (4, [.int (mCode (mSetC v 0)), .ref (bW B), .ref (bIt B), .ref (bCk B), .ref (bNu B), .ref (bKe B), .ref (bTi B), .ref (bGa B), .ref (bOf B), .ref (bNw B), .ref (bCn B), .int (nI (mKp (mSetC v 0))), .int (nI (mDn (mSetC v 0))), .ref (bDk B), .ref (bDu B), .ref (bDe B), .ref (bDt B), .ref (bDo B)])), (bW B, .inl (cI, 4, .inl (fun j9 => nI (mW (mSetC v 0) j9)))), (bIt B, .inl (cZ, 320, .inl (mIt (mSetC v 0)))), (bCk B, .inl (cI, 320, .inl (mCk (mSetC v 0)))), (bNu B, .inl (cI, 320, .inl (mNu (mSetC v 0)))), (bKe B, .inl (cJ, 320, .inr (.inl (mKe (mSetC v 0))))), (bTi B, .inl (cJ, 320, .inr (.inl (mTi (mSetC v 0))))), (bGa B, .inl (cJ, 320, .inr (.inl (mGa (mSetC v 0))))), (bOf B, .inl (cI, 320, .inl (mOf (mSetC v 0)))), (bNw B, .inl (cJ, 8, .inr (.inl (mNw (mSetC v 0))))), (bCn B, .inl (cI, 16, .inl (mCn (mSetC v 0)))), (bDk B, .inl (cI, 4000, .inl (mDk (mSetC v 0)))), (bDu B, .inl (cI, 4000, .inl (mDu (mSetC v 0)))), (bDe B, .inl (cJ, 4000, .inr (.inl (mDe (mSetC v 0))))), (bDt B, .inl (cJ, 4000, .inr (.inl (mDt (mSetC v 0))))), (bDo B, .inl (cI, 4000, .inl (mDo (mSetC v 0))))] H locs ∧ a9.1 ≤ mW v 0 ∧ a9.2 = cnt (fun j9 => decide (mTask (mKe v j9) n = x)) a9.1) ?_ ((0, 0)) ⟨lv_sub hl [2, 3, 4, 1, 0] rfl, hw, Nat.zero_le _, rfl⟩
      rintro ⟨i, z⟩ H locs ls ⟨hl, hw, hi, hn⟩ ih
      try dsimp only at hi hn
      have hl : lv_has ls 5 [(0, .ref (bH B)), (1, .int x), (2, .int n), (3, .int (nI z)), (4, .int (nI i))] := hl
      have hw : xW G (xK cI cJ cZ cO) _ s.heap s [(bH B, .inr (4, [.int (mCode (mSetC v 0)), .ref (bW B), .ref (bIt B), .ref (bCk B), .ref (bNu B), .ref (bKe B), .ref (bTi B), .ref (bGa B), .ref (bOf B), .ref (bNw B), .ref (bCn B), .int (nI (mKp (mSetC v 0))), .int (nI (mDn (mSetC v 0))), .ref (bDk B), .ref (bDu B), .ref (bDe B), .ref (bDt B), .ref (bDo B)])), (bW B, .inl (cI, 4, .inl (fun j9 => nI (mW (mSetC v 0) j9)))), (bIt B, .inl (cZ, 320, .inl (mIt (mSetC v 0)))), (bCk B, .inl (cI, 320, .inl (mCk (mSetC v 0)))), (bNu B, .inl (cI, 320, .inl (mNu (mSetC v 0)))), (bKe B, .inl (cJ, 320, .inr (.inl (mKe (mSetC v 0))))), (bTi B, .inl (cJ, 320, .inr (.inl (mTi (mSetC v 0))))), (bGa B, .inl (cJ, 320, .inr (.inl (mGa (mSetC v 0))))), (bOf B, .inl (cI, 320, .inl (mOf (mSetC v 0)))), (bNw B, .inl (cJ, 8, .inr (.inl (mNw (mSetC v 0))))), (bCn B, .inl (cI, 16, .inl (mCn (mSetC v 0)))), (bDk B, .inl (cI, 4000, .inl (mDk (mSetC v 0)))), (bDu B, .inl (cI, 4000, .inl (mDu (mSetC v 0)))), (bDe B, .inl (cJ, 4000, .inr (.inl (mDe (mSetC v 0))))), (bDt B, .inl (cJ, 4000, .inr (.inl (mDt (mSetC v 0))))), (bDo B, .inl (cI, 4000, .inl (mDo (mSetC v 0))))] H _ := hw
      refine lv_iload F.1 F.2.1 dX4_load_44 (lv_at hl 4 rfl) ?_
      refine lv_aload_n F.1 F.2.1 dX4_load_46 rfl (lv_at hl 0 rfl) ?_
      refine x_get F hw iX4 0 rfl rfl 1 (by decide) rfl (List.mem_of_getElem? (i := 2) rfl) rfl dX4_load_47 ?_
      refine lv_iconst (v := 0) F.1 F.2.1 dX4_load_50 (by decide) ?_
      refine x_ialdN F hw 1 0 rfl rfl 0 rfl (by omega) (by decide) dX4_load_51 ?_
      refine lv_icmp_ge (tgt := 84) F.1 F.2.1 dX4_load_52 (by decide) (fun c52 => ?_) (fun c52 => ?_)
      · refine lv_iload_n F.1 F.2.1 dX4_load_84 rfl (lv_at hl 3 rfl) ?_
        exact x_iret (f := fun u9 : MR => wMo cI cJ cZ B u9) (mCode (mSetC v 0), (mW (mSetC v 0)), (mIt (mSetC v 0)), (mCk (mSetC v 0)), (mNu (mSetC v 0)), (mKe (mSetC v 0)), (mTi (mSetC v 0)), (mGa (mSetC v 0)), (mOf (mSetC v 0)), (mNw (mSetC v 0)), (mCn (mSetC v 0)), mKp (mSetC v 0), mDn (mSetC v 0), (mDk (mSetC v 0)), (mDu (mSetC v 0)), (mDe (mSetC v 0)), (mDt (mSetC v 0)), (mDo (mSetC v 0))) F hr hlk hw (Or.inr ⟨⟨if_nz hr7 c10, if_nz hr20 c23⟩, rfl, by have h9 := x_le (show mW v 0 < 2 ^ 31 by omega) (by omega) c52; rw [hn, show i = mW v 0 by omega]⟩) dX4_load_85
      · have hlt : i < mW v 0 := x_nle (show mW v 0 < 2 ^ 31 by omega) (by omega) c52
        refine lv_iload_n F.1 F.2.1 dX4_load_55 rfl (lv_at hl 3 rfl) ?_
        refine lv_aload_n F.1 F.2.1 dX4_load_56 rfl (lv_at hl 0 rfl) ?_
        refine x_get F hw iX4 0 rfl rfl 5 (by decide) rfl (List.mem_of_getElem? (i := 3) rfl) rfl dX4_load_57 ?_
        refine lv_iload F.1 F.2.1 dX4_load_60 (lv_at hl 4 rfl) ?_
        refine x_laldN F hw 5 1 rfl rfl i rfl (by omega) (by decide) dX4_load_62 ?_
        refine lv_iload_n F.1 F.2.1 dX4_load_63 rfl (lv_at hl 2 rfl) ?_
        refine x_ri (va_runS (As := [.long (mKe (mSetC v 0) i), .int n]) (rest := [.int (nI z)]) F (c_X4_taskOf l G cI cJ cZ cO (Array.size H) (mKe (mSetC v 0) i) n) (va_cwS 2 F.2.2.2.2 gX4_load_X4_taskOf rfl rfl rfl (by decide +kernel) ⟨Nat.le_of_ble_eq_true rfl, Nat.le_of_ble_eq_true rfl⟩) (x_preSW hw [] rfl (by decide)) rfl rfl hl.1 rfl (lv_room (Nat.le_of_ble_eq_true rfl)) dX4_load_64 ⟨Nat.le_of_ble_eq_true rfl, Nat.le_of_ble_eq_true rfl⟩) (fun r64 hr64 => ?_)
        refine lv_iload_n F.1 F.2.1 dX4_load_67 rfl (lv_at hl 1 rfl) ?_
        refine lv_icmp_ne (tgt := 75) F.1 F.2.1 dX4_load_68 (by decide) (fun c68 => ?_) (fun c68 => ?_)
        · refine lv_iconst (v := 0) F.1 F.2.1 dX4_load_75 (by decide) ?_
          refine lv_iadd F.1 F.2.1 dX4_load_76 ?_
          refine x_topi (v := nI (z + 0)) ((nI_add z 0).symm) ?_
          refine lv_istore_n (lv' := [(3, .int (nI (z + 0))), (0, .ref (bH B)), (1, .int x), (2, .int n), (4, .int (nI i))]) F.1 F.2.1 dX4_load_77 rfl hl (by decide) rfl (fun ls hl => ?_)
          refine lv_iinc (v := nI (i + 1)) (lv' := [(4, .int (nI (i + 1))), (3, .int (nI (z + 0))), (0, .ref (bH B)), (1, .int x), (2, .int n)]) F.1 F.2.1 dX4_load_78 hl (k := 4) rfl (by rw [show Int32.ofInt 1 = 1 from rfl]; exact nI_1 _) (by decide) rfl (fun ls hl => ?_)
          refine lv_goto (tgt := 44) F.1 F.2.1 dX4_load_81 (by decide) ?_
          exact ih ((i + 1, z + 0)) _ _ _ (by simp only []; omega) ⟨lv_sub hl [2, 3, 4, 1, 0] rfl, hw, by omega, by simp only []; rw [cnt_0 (P := fun j9 => decide (mTask (mKe v j9) n = x)) (decide_eq_false (fun q => c68 (hr64.trans q))), hn]; rfl⟩
        · refine lv_iconst (v := 1) F.1 F.2.1 dX4_load_71 (by decide) ?_
          refine lv_goto (tgt := 76) F.1 F.2.1 dX4_load_72 (by decide) ?_
          refine lv_iadd F.1 F.2.1 dX4_load_76 ?_
          refine x_topi (v := nI (z + 1)) ((nI_add z 1).symm) ?_
          refine lv_istore_n (lv' := [(3, .int (nI (z + 1))), (0, .ref (bH B)), (1, .int x), (2, .int n), (4, .int (nI i))]) F.1 F.2.1 dX4_load_77 rfl hl (by decide) rfl (fun ls hl => ?_)
          refine lv_iinc (v := nI (i + 1)) (lv' := [(4, .int (nI (i + 1))), (3, .int (nI (z + 1))), (0, .ref (bH B)), (1, .int x), (2, .int n)]) F.1 F.2.1 dX4_load_78 hl (k := 4) rfl (by rw [show Int32.ofInt 1 = 1 from rfl]; exact nI_1 _) (by decide) rfl (fun ls hl => ?_)
          refine lv_goto (tgt := 44) F.1 F.2.1 dX4_load_81 (by decide) ?_
          exact ih ((i + 1, z + 1)) _ _ _ (by simp only []; omega) ⟨lv_sub hl [2, 3, 4, 1, 0] rfl, hw, by omega, by simp only []; rw [cnt_1 (P := fun j9 => decide (mTask (mKe v j9) n = x)) (decide_eq_true (hr64.symm.trans c68)), hn]⟩
