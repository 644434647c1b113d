set_option maxHeartbeats 8000000 in
set_option maxRecDepth 100000 in
/-- isAhead(i, j) -/
theorem c_X4_isAhead (l : Launch) (G : va_G) (cI cJ cZ cO : ClassId) (sz : Nat) (B : MA) (v : MR) (i j : Nat) (hi : i < 320) (hj : j < 320) : Met l yX4_isAhead wsX4_isAhead ({ frames := 0, cells := 0, slots := 0, locals := 0 }) (xPc G (xK cI cJ cZ cO) sz [.ref (bH B), .int (nI i), .int (nI j)] (wMo cI cJ cZ B v)) (xQi (fun r => r = if mLt (mCn v 3) (mE v i) (mE v j) = true then 1 else 0)) 0 0 (fun _ => False) := by
  refine x_body (by decide) rfl (Nat.le_of_ble_eq_true rfl) ?_
  intro p e s m below meth c F hr hlk hnm hsz hw ls hl
  subst hsz
  have F : CallFix p m c cX4_isAhead 3 s _ wsX4_isAhead RX4 := F
  have hl : lv_has ls 3 [(0, .ref (bH B)), (1, .int (nI i)), (2, .int (nI j))] := hl
  have hw : xW G (xK cI cJ cZ cO) _ s.heap s [(bH B, .inr (4, [.int (mCode v), .ref (bW B), .ref (bIt B), .ref (bCk B), .ref (bNu B), .ref (bKe B), .ref (bTi B), .ref (bGa B), .ref (bOf B), .ref (bNw B), .ref (bCn B), .int (nI (mKp v)), .int (nI (mDn v)), .ref (bDk B), .ref (bDu B), .ref (bDe B), .ref (bDt B), .ref (bDo B)])), (bW B, .inl (cI, 4, .inl (fun j9 => nI (mW v j9)))), (bIt B, .inl (cZ, 320, .inl (mIt v))), (bCk B, .inl (cI, 320, .inl (mCk v))), (bNu B, .inl (cI, 320, .inl (mNu v))), (bKe B, .inl (cJ, 320, .inr (.inl (mKe v)))), (bTi B, .inl (cJ, 320, .inr (.inl (mTi v)))), (bGa B, .inl (cJ, 320, .inr (.inl (mGa v)))), (bOf B, .inl (cI, 320, .inl (mOf v))), (bNw B, .inl (cJ, 8, .inr (.inl (mNw v)))), (bCn B, .inl (cI, 16, .inl (mCn v))), (bDk B, .inl (cI, 4000, .inl (mDk v))), (bDu B, .inl (cI, 4000, .inl (mDu v))), (bDe B, .inl (cJ, 4000, .inr (.inl (mDe v)))), (bDt B, .inl (cJ, 4000, .inr (.inl (mDt v)))), (bDo B, .inl (cI, 4000, .inl (mDo v)))] s.heap [] := hw
  have iX4 : ∀ w ∈ wsX40, w ∈ wsX4_isAhead := by decide +kernel
  refine lv_aload_n F.1 F.2.1 dX4_isAhead_0 rfl (lv_at hl 0 rfl) ?_
  refine x_get F hw iX4 0 rfl rfl 6 (by decide) rfl (List.mem_of_getElem? (i := 1) rfl) rfl dX4_isAhead_1 ?_
  refine lv_iload_n F.1 F.2.1 dX4_isAhead_4 rfl (lv_at hl 1 rfl) ?_
  refine x_laldN F hw 6 1 rfl rfl i rfl (by omega) (by decide) dX4_isAhead_5 ?_
  refine lv_aload_n F.1 F.2.1 dX4_isAhead_6 rfl (lv_at hl 0 rfl) ?_
  refine x_get F hw iX4 0 rfl rfl 6 (by decide) rfl (List.mem_of_getElem? (i := 1) rfl) rfl dX4_isAhead_7 ?_
  refine lv_iload_n F.1 F.2.1 dX4_isAhead_10 rfl (lv_at hl 2 rfl) ?_
  refine x_laldN F hw 6 1 rfl rfl j rfl (by omega) (by decide) dX4_isAhead_11 ?_
  refine x_l_eq (tgt := 38) F dX4_isAhead_12 dX4_isAhead_13 (by decide) (fun c12 => ?_) (fun c12 => ?_)
  · refine lv_aload_n F.1 F.2.1 dX4_isAhead_38 rfl (lv_at hl 0 rfl) ?_
    refine x_get F hw iX4 0 rfl rfl 2 (by decide) rfl (List.mem_of_getElem? (i := 2) rfl) rfl dX4_isAhead_39 ?_
    refine lv_iload_n F.1 F.2.1 dX4_isAhead_42 rfl (lv_at hl 1 rfl) ?_
    refine x_zaldN F hw 2 2 rfl rfl i rfl (by omega) (by decide) dX4_isAhead_43 ?_
    refine lv_aload_n F.1 F.2.1 dX4_isAhead_44 rfl (lv_at hl 0 rfl) ?_
    refine x_get F hw iX4 0 rfl rfl 2 (by decide) rfl (List.mem_of_getElem? (i := 2) rfl) rfl dX4_isAhead_45 ?_
    refine lv_iload_n F.1 F.2.1 dX4_isAhead_48 rfl (lv_at hl 2 rfl) ?_
    refine x_zaldN F hw 2 2 rfl rfl j rfl (by omega) (by decide) dX4_isAhead_49 ?_
    refine lv_icmp_eq (tgt := 83) F.1 F.2.1 dX4_isAhead_50 (by decide) (fun c50 => ?_) (fun c50 => ?_)
    · refine lv_aload_n F.1 F.2.1 dX4_isAhead_83 rfl (lv_at hl 0 rfl) ?_
      refine x_get F hw iX4 0 rfl rfl 5 (by decide) rfl (List.mem_of_getElem? (i := 4) rfl) rfl dX4_isAhead_84 ?_
      refine lv_iload_n F.1 F.2.1 dX4_isAhead_87 rfl (lv_at hl 1 rfl) ?_
      refine x_laldN F hw 5 1 rfl rfl i rfl (by omega) (by decide) dX4_isAhead_88 ?_
      refine lv_aload_n F.1 F.2.1 dX4_isAhead_89 rfl (lv_at hl 0 rfl) ?_
      refine x_get F hw iX4 0 rfl rfl 5 (by decide) rfl (List.mem_of_getElem? (i := 4) rfl) rfl dX4_isAhead_90 ?_
      refine lv_iload_n F.1 F.2.1 dX4_isAhead_93 rfl (lv_at hl 2 rfl) ?_
      refine x_laldN F hw 5 1 rfl rfl j rfl (by omega) (by decide) dX4_isAhead_94 ?_
      refine x_l_eq (tgt := 123) F dX4_isAhead_95 dX4_isAhead_96 (by decide) (fun c95 => ?_) (fun c95 => ?_)
      · refine lv_aload_n F.1 F.2.1 dX4_isAhead_123 rfl (lv_at hl 0 rfl) ?_
        refine x_get F hw iX4 0 rfl rfl 4 (by decide) rfl (List.mem_of_getElem? (i := 5) rfl) rfl dX4_isAhead_124 ?_
        refine lv_iload_n F.1 F.2.1 dX4_isAhead_127 rfl (lv_at hl 1 rfl) ?_
        refine x_ialdN F hw 4 0 rfl rfl i rfl (by omega) (by decide) dX4_isAhead_128 ?_
        refine lv_aload_n F.1 F.2.1 dX4_isAhead_129 rfl (lv_at hl 0 rfl) ?_
        refine x_get F hw iX4 0 rfl rfl 4 (by decide) rfl (List.mem_of_getElem? (i := 5) rfl) rfl dX4_isAhead_130 ?_
        refine lv_iload_n F.1 F.2.1 dX4_isAhead_133 rfl (lv_at hl 2 rfl) ?_
        refine x_ialdN F hw 4 0 rfl rfl j rfl (by omega) (by decide) dX4_isAhead_134 ?_
        refine lv_icmp_ge (tgt := 142) F.1 F.2.1 dX4_isAhead_135 (by decide) (fun c135 => ?_) (fun c135 => ?_)
        · refine lv_iconst (v := 0) F.1 F.2.1 dX4_isAhead_142 (by decide) ?_
          exact x_rzret F hr hlk (rfl) (eLt_0 ((mLt_n c12 c50 c95).trans (decide_eq_false (Int32.not_lt.mpr c135)))) dX4_isAhead_143
        · refine lv_iconst (v := 1) F.1 F.2.1 dX4_isAhead_138 (by decide) ?_
          refine lv_goto (tgt := 143) F.1 F.2.1 dX4_isAhead_139 (by decide) ?_
          exact x_rzret F hr hlk (rfl) (eLt_1 ((mLt_n c12 c50 c95).trans (decide_eq_true (Int32.not_le.mp c135)))) dX4_isAhead_143
      · refine lv_aload_n F.1 F.2.1 dX4_isAhead_99 rfl (lv_at hl 0 rfl) ?_
        refine x_get F hw iX4 0 rfl rfl 5 (by decide) rfl (List.mem_of_getElem? (i := 4) rfl) rfl dX4_isAhead_100 ?_
        refine lv_iload_n F.1 F.2.1 dX4_isAhead_103 rfl (lv_at hl 1 rfl) ?_
        refine x_laldN F hw 5 1 rfl rfl i rfl (by omega) (by decide) dX4_isAhead_104 ?_
        refine lv_aload_n F.1 F.2.1 dX4_isAhead_105 rfl (lv_at hl 0 rfl) ?_
        refine x_get F hw iX4 0 rfl rfl 5 (by decide) rfl (List.mem_of_getElem? (i := 4) rfl) rfl dX4_isAhead_106 ?_
        refine lv_iload_n F.1 F.2.1 dX4_isAhead_109 rfl (lv_at hl 2 rfl) ?_
        refine x_laldN F hw 5 1 rfl rfl j rfl (by omega) (by decide) dX4_isAhead_110 ?_
        refine x_l_ge (tgt := 119) F dX4_isAhead_111 dX4_isAhead_112 (by decide) (fun c111 => ?_) (fun c111 => ?_)
        · refine lv_iconst (v := 0) F.1 F.2.1 dX4_isAhead_119 (by decide) ?_
          refine lv_goto (tgt := 143) F.1 F.2.1 dX4_isAhead_120 (by decide) ?_
          exact x_rzret F hr hlk (rfl) (eLt_0 ((mLt_k c12 c50 c95).trans (decide_eq_false (Int64.not_lt.mpr c111)))) dX4_isAhead_143
        · refine lv_iconst (v := 1) F.1 F.2.1 dX4_isAhead_115 (by decide) ?_
          refine lv_goto (tgt := 143) F.1 F.2.1 dX4_isAhead_116 (by decide) ?_
          exact x_rzret F hr hlk (rfl) (eLt_1 ((mLt_k c12 c50 c95).trans (decide_eq_true (Int64.not_le.mp c111)))) dX4_isAhead_143
    · refine lv_aload_n F.1 F.2.1 dX4_isAhead_53 rfl (lv_at hl 0 rfl) ?_
      refine x_get F hw iX4 0 rfl rfl 2 (by decide) rfl (List.mem_of_getElem? (i := 2) rfl) rfl dX4_isAhead_54 ?_
      refine lv_iload_n F.1 F.2.1 dX4_isAhead_57 rfl (lv_at hl 1 rfl) ?_
      refine x_zaldN F hw 2 2 rfl rfl i rfl (by omega) (by decide) dX4_isAhead_58 ?_
      refine lv_aload_n F.1 F.2.1 dX4_isAhead_59 rfl (lv_at hl 0 rfl) ?_
      refine x_get F hw iX4 0 rfl rfl 10 (by decide) rfl (List.mem_of_getElem? (i := 3) rfl) rfl dX4_isAhead_60 ?_
      refine lv_iconst (v := 3) F.1 F.2.1 dX4_isAhead_63 (by decide) ?_
      refine x_ialdN F hw 10 0 rfl rfl 3 rfl (by omega) (by decide) dX4_isAhead_64 ?_
      refine lv_iconst (v := 1) F.1 F.2.1 dX4_isAhead_65 (by decide) ?_
      refine lv_icmp_ne (tgt := 73) F.1 F.2.1 dX4_isAhead_66 (by decide) (fun c66 => ?_) (fun c66 => ?_)
      · refine lv_iconst (v := 0) F.1 F.2.1 dX4_isAhead_73 (by decide) ?_
        refine lv_icmp_eq (tgt := 81) F.1 F.2.1 dX4_isAhead_74 (by decide) (fun c74 => ?_) (fun c74 => ?_)
        · refine lv_iconst (v := 0) F.1 F.2.1 dX4_isAhead_81 (by decide) ?_
          exact x_rzret F hr hlk (rfl) (eLt_0 ((mLt_i c12 c50).trans (decide_eq_false (fun q => q (by rw [if_neg c66]; exact c74))))) dX4_isAhead_82
        · refine lv_iconst (v := 1) F.1 F.2.1 dX4_isAhead_77 (by decide) ?_
          refine lv_goto (tgt := 82) F.1 F.2.1 dX4_isAhead_78 (by decide) ?_
          exact x_rzret F hr hlk (rfl) (eLt_1 ((mLt_i c12 c50).trans (decide_eq_true (by rw [if_neg c66]; exact c74)))) dX4_isAhead_82
      · refine lv_iconst (v := 1) F.1 F.2.1 dX4_isAhead_69 (by decide) ?_
        refine lv_goto (tgt := 74) F.1 F.2.1 dX4_isAhead_70 (by decide) ?_
        refine lv_icmp_eq (tgt := 81) F.1 F.2.1 dX4_isAhead_74 (by decide) (fun c74 => ?_) (fun c74 => ?_)
        · refine lv_iconst (v := 0) F.1 F.2.1 dX4_isAhead_81 (by decide) ?_
          exact x_rzret F hr hlk (rfl) (eLt_0 ((mLt_i c12 c50).trans (decide_eq_false (fun q => q (by rw [if_pos c66]; exact c74))))) dX4_isAhead_82
        · refine lv_iconst (v := 1) F.1 F.2.1 dX4_isAhead_77 (by decide) ?_
          refine lv_goto (tgt := 82) F.1 F.2.1 dX4_isAhead_78 (by decide) ?_
          exact x_rzret F hr hlk (rfl) (eLt_1 ((mLt_i c12 c50).trans (decide_eq_true (by rw [if_pos c66]; exact c74)))) dX4_isAhead_82
  · refine lv_aload_n F.1 F.2.1 dX4_isAhead_16 rfl (lv_at hl 0 rfl) ?_
    refine x_get F hw iX4 0 rfl rfl 6 (by decide) rfl (List.mem_of_getElem? (i := 1) rfl) rfl dX4_isAhead_17 ?_
    refine lv_iload_n F.1 F.2.1 dX4_isAhead_20 rfl (lv_at hl 1 rfl) ?_
    refine x_laldN F hw 6 1 rfl rfl i rfl (by omega) (by decide) dX4_isAhead_21 ?_
    refine lv_aload_n F.1 F.2.1 dX4_isAhead_22 rfl (lv_at hl 0 rfl) ?_
    refine x_get F hw iX4 0 rfl rfl 6 (by decide) rfl (List.mem_of_getElem? (i := 1) rfl) rfl dX4_isAhead_23 ?_
    refine lv_iload_n F.1 F.2.1 dX4_isAhead_26 rfl (lv_at hl 2 rfl) ?_
    refine x_laldN F hw 6 1 rfl rfl j rfl (by omega) (by decide) dX4_isAhead_27 ?_
    refine x_l_ge (tgt := 36) F dX4_isAhead_28 dX4_isAhead_29 (by decide) (fun c28 => ?_) (fun c28 => ?_)
    · refine lv_iconst (v := 0) F.1 F.2.1 dX4_isAhead_36 (by decide) ?_
      exact x_rzret F hr hlk (rfl) (eLt_0 ((mLt_t c12).trans (decide_eq_false (Int64.not_lt.mpr c28)))) dX4_isAhead_37
    · refine lv_iconst (v := 1) F.1 F.2.1 dX4_isAhead_32 (by decide) ?_
      refine lv_goto (tgt := 37) F.1 F.2.1 dX4_isAhead_33 (by decide) ?_
      exact x_rzret F hr hlk (rfl) (eLt_1 ((mLt_t c12).trans (decide_eq_true (Int64.not_le.mp c28)))) dX4_isAhead_37

set_option maxHeartbeats 8000000 in
set_option maxRecDepth 100000 in
/-- leastOf(c, timersAlone, by) -/
theorem c_X4_leastOf (l : Launch) (G : va_G) (cI cJ cZ cO : ClassId) (sz : Nat) (B : MA) (v : MR) (x ta : Int32) (t : Int64) (hw0 : mW v 0 ≤ 80) : Met l yX4_leastOf wsX4_leastOf ({ frames := 1, cells := 0, slots := 0, locals := 22 }) (xPc G (xK cI cJ cZ cO) sz [.ref (bH B), .int x, .int ta, .long t] (wMo cI cJ cZ B v)) (xQi (fun r => r = bI (mLeast v x ta t (mW v 0)))) 0 0 (fun _ => False) := by
  refine x_body (by decide) rfl (Nat.le_of_ble_eq_true rfl) ?_
  intro p e s m below meth c F hr hlk hnm hsz hw ls hl
  subst hsz
  have F : CallFix p m c cX4_leastOf 8 s _ wsX4_leastOf RX4 := F
  have hl : lv_has ls 8 [(0, .ref (bH B)), (1, .int x), (2, .int ta), (3, .long t)] := hl
  have hw : xW G (xK cI cJ cZ cO) _ s.heap s [(bH B, .inr (4, [.int (mCode v), .ref (bW B), .ref (bIt B), .ref (bCk B), .ref (bNu B), .ref (bKe B), .ref (bTi B), .ref (bGa B), .ref (bOf B), .ref (bNw B), .ref (bCn B), .int (nI (mKp v)), .int (nI (mDn v)), .ref (bDk B), .ref (bDu B), .ref (bDe B), .ref (bDt B), .ref (bDo B)])), (bW B, .inl (cI, 4, .inl (fun j9 => nI (mW v j9)))), (bIt B, .inl (cZ, 320, .inl (mIt v))), (bCk B, .inl (cI, 320, .inl (mCk v))), (bNu B, .inl (cI, 320, .inl (mNu v))), (bKe B, .inl (cJ, 320, .inr (.inl (mKe v)))), (bTi B, .inl (cJ, 320, .inr (.inl (mTi v)))), (bGa B, .inl (cJ, 320, .inr (.inl (mGa v)))), (bOf B, .inl (cI, 320, .inl (mOf v))), (bNw B, .inl (cJ, 8, .inr (.inl (mNw v)))), (bCn B, .inl (cI, 16, .inl (mCn v))), (bDk B, .inl (cI, 4000, .inl (mDk v))), (bDu B, .inl (cI, 4000, .inl (mDu v))), (bDe B, .inl (cJ, 4000, .inr (.inl (mDe v)))), (bDt B, .inl (cJ, 4000, .inr (.inl (mDt v)))), (bDo B, .inl (cI, 4000, .inl (mDo v)))] s.heap [] := hw
  have iX4 : ∀ w ∈ wsX40, w ∈ wsX4_leastOf := by decide +kernel
  refine lv_iconst (v := (-1)) F.1 F.2.1 dX4_leastOf_0 (by decide) ?_
  refine lv_istore (lv' := [(5, .int ((-1))), (0, .ref (bH B)), (1, .int x), (2, .int ta), (3, .long t)]) F.1 F.2.1 dX4_leastOf_1 hl (by decide) rfl (fun ls hl => ?_)
  refine lv_iconst (v := 0) F.1 F.2.1 dX4_leastOf_3 (by decide) ?_
  refine lv_istore (lv' := [(6, .int 0), (5, .int ((-1))), (0, .ref (bH B)), (1, .int x), (2, .int ta), (3, .long t)]) F.1 F.2.1 dX4_leastOf_4 hl (by decide) rfl (fun ls hl => ?_)
  refine x_rec0 (α := Nat × Option Nat) (fun a9 => mW v 0 - a9.1) (fun a9 ls => lv_has ls 8 [(0, .ref (bH B)), (1, .int x), (2, .int ta), (3, .long t), (5, .int (bI a9.2)), (6, .int (nI a9.1))] ∧ a9.1 ≤ mW v 0 ∧ a9.2 = mLeast v x ta t a9.1) ?_ ((0, none)) ⟨lv_sub hl [2, 3, 4, 5, 1, 0] rfl, Nat.zero_le _, rfl⟩
  rintro ⟨i, o⟩ ls ⟨hl, hi, ho⟩ ih
  try dsimp only at hi ho
  have hl : lv_has ls 8 [(0, .ref (bH B)), (1, .int x), (2, .int ta), (3, .long t), (5, .int (bI o)), (6, .int (nI i))] := hl
  refine lv_iload F.1 F.2.1 dX4_leastOf_6 (lv_at hl 5 rfl) ?_
  refine lv_aload_n F.1 F.2.1 dX4_leastOf_8 rfl (lv_at hl 0 rfl) ?_
  refine x_get F hw iX4 0 rfl rfl 1 (by decide) rfl (List.mem_of_getElem? (i := 1) rfl) rfl dX4_leastOf_9 ?_
  refine lv_iconst (v := 0) F.1 F.2.1 dX4_leastOf_12 (by decide) ?_
  refine x_ialdN F hw 1 0 rfl rfl 0 rfl (by omega) (by decide) dX4_leastOf_13 ?_
  refine lv_icmp_ge (tgt := 97) F.1 F.2.1 dX4_leastOf_14 (by decide) (fun c14 => ?_) (fun c14 => ?_)
  · refine lv_iload F.1 F.2.1 dX4_leastOf_97 (lv_at hl 4 rfl) ?_
    exact x_riret F hr hlk (by have h9 := x_le (by omega) (by omega) c14; rw [ho, show i = mW v 0 by omega]) dX4_leastOf_99
  · have hlt : i < mW v 0 := x_nle (by omega) (by omega) c14
    refine lv_aload_n F.1 F.2.1 dX4_leastOf_17 rfl (lv_at hl 0 rfl) ?_
    refine x_get F hw iX4 0 rfl rfl 3 (by decide) rfl (List.mem_of_getElem? (i := 2) rfl) rfl dX4_leastOf_18 ?_
    refine lv_iload F.1 F.2.1 dX4_leastOf_21 (lv_at hl 5 rfl) ?_
    refine x_ialdN F hw 3 0 rfl rfl i rfl (by omega) (by decide) dX4_leastOf_23 ?_
    refine lv_iload_n F.1 F.2.1 dX4_leastOf_24 rfl (lv_at hl 1 rfl) ?_
    refine lv_icmp_ne (tgt := 58) F.1 F.2.1 dX4_leastOf_25 (by decide) (fun c25 => ?_) (fun c25 => ?_)
    · refine lv_iconst (v := 0) F.1 F.2.1 dX4_leastOf_58 (by decide) ?_
      refine lv_istore (lv' := [(7, .int 0), (0, .ref (bH B)), (1, .int x), (2, .int ta), (3, .long t), (5, .int (bI o)), (6, .int (nI i))]) F.1 F.2.1 dX4_leastOf_59 hl (by decide) rfl (fun ls hl => ?_)
      refine lv_iload F.1 F.2.1 dX4_leastOf_61 (lv_at hl 0 rfl) ?_
      refine lv_if_eq (tgt := 87) F.1 F.2.1 dX4_leastOf_63 (by decide) (fun c63 => ?_) (fun c63 => ?_)
      rotate_left
      · exact (c63 (by decide)).elim
      refine lv_iload F.1 F.2.1 dX4_leastOf_87 (lv_at hl 5 rfl) ?_
      refine lv_istore (lv' := [(5, .int (bI o)), (7, .int 0), (0, .ref (bH B)), (1, .int x), (2, .int ta), (3, .long t), (6, .int (nI i))]) F.1 F.2.1 dX4_leastOf_89 hl (by decide) rfl (fun ls hl => ?_)
      refine lv_iinc (v := nI (i + 1)) (lv' := [(6, .int (nI (i + 1))), (5, .int (bI o)), (7, .int 0), (0, .ref (bH B)), (1, .int x), (2, .int ta), (3, .long t)]) F.1 F.2.1 dX4_leastOf_91 hl (k := 6) rfl (by rw [show Int32.ofInt 1 = 1 from rfl]; exact nI_1 _) (by decide) rfl (fun ls hl => ?_)
      refine lv_goto (tgt := 6) F.1 F.2.1 dX4_leastOf_94 (by decide) ?_
      exact ih ((i + 1, o)) _ (by simp only []; omega) ⟨lv_sub hl [3, 4, 5, 6, 1, 0] rfl, by omega, by simp only []; exact ho.trans (mLeast_no (mMay_a c25)).symm⟩
    · refine lv_aload_n F.1 F.2.1 dX4_leastOf_28 rfl (lv_at hl 0 rfl) ?_
      refine x_get F hw iX4 0 rfl rfl 6 (by decide) rfl (List.mem_of_getElem? (i := 3) rfl) rfl dX4_leastOf_29 ?_
      refine lv_iload F.1 F.2.1 dX4_leastOf_32 (lv_at hl 5 rfl) ?_
      refine x_laldN F hw 6 1 rfl rfl i rfl (by omega) (by decide) dX4_leastOf_34 ?_
      refine lv_lload_n F.1 F.2.1 dX4_leastOf_35 rfl (lv_at hl 3 rfl) ?_
      refine x_l_gt (tgt := 58) F dX4_leastOf_36 dX4_leastOf_37 (by decide) (fun c36 => ?_) (fun c36 => ?_)
      · refine lv_iconst (v := 0) F.1 F.2.1 dX4_leastOf_58 (by decide) ?_
        refine lv_istore (lv' := [(7, .int 0), (0, .ref (bH B)), (1, .int x), (2, .int ta), (3, .long t), (5, .int (bI o)), (6, .int (nI i))]) F.1 F.2.1 dX4_leastOf_59 hl (by decide) rfl (fun ls hl => ?_)
        refine lv_iload F.1 F.2.1 dX4_leastOf_61 (lv_at hl 0 rfl) ?_
        refine lv_if_eq (tgt := 87) F.1 F.2.1 dX4_leastOf_63 (by decide) (fun c63 => ?_) (fun c63 => ?_)
        rotate_left
        · exact (c63 (by decide)).elim
        refine lv_iload F.1 F.2.1 dX4_leastOf_87 (lv_at hl 5 rfl) ?_
        refine lv_istore (lv' := [(5, .int (bI o)), (7, .int 0), (0, .ref (bH B)), (1, .int x), (2, .int ta), (3, .long t), (6, .int (nI i))]) F.1 F.2.1 dX4_leastOf_89 hl (by decide) rfl (fun ls hl => ?_)
        refine lv_iinc (v := nI (i + 1)) (lv' := [(6, .int (nI (i + 1))), (5, .int (bI o)), (7, .int 0), (0, .ref (bH B)), (1, .int x), (2, .int ta), (3, .long t)]) F.1 F.2.1 dX4_leastOf_91 hl (k := 6) rfl (by rw [show Int32.ofInt 1 = 1 from rfl]; exact nI_1 _) (by decide) rfl (fun ls hl => ?_)
        refine lv_goto (tgt := 6) F.1 F.2.1 dX4_leastOf_94 (by decide) ?_
        exact ih ((i + 1, o)) _ (by simp only []; omega) ⟨lv_sub hl [3, 4, 5, 6, 1, 0] rfl, by omega, by simp only []; exact ho.trans (mLeast_no (mMay_b c36)).symm⟩
      · refine lv_aload_n F.1 F.2.1 dX4_leastOf_40 rfl (lv_at hl 0 rfl) ?_
        refine x_get F hw iX4 0 rfl rfl 2 (by decide) rfl (List.mem_of_getElem? (i := 4) rfl) rfl dX4_leastOf_41 ?_
        refine lv_iload F.1 F.2.1 dX4_leastOf_44 (lv_at hl 5 rfl) ?_
        refine x_zaldN F hw 2 2 rfl rfl i rfl (by omega) (by decide) dX4_leastOf_46 ?_
        refine lv_if_ne (tgt := 54) F.1 F.2.1 dX4_leastOf_47 (by decide) (fun c47 => ?_) (fun c47 => ?_)
        · refine lv_iconst (v := 1) F.1 F.2.1 dX4_leastOf_54 (by decide) ?_
          refine lv_goto (tgt := 59) F.1 F.2.1 dX4_leastOf_55 (by decide) ?_
          refine lv_istore (lv' := [(7, .int 1), (0, .ref (bH B)), (1, .int x), (2, .int ta), (3, .long t), (5, .int (bI o)), (6, .int (nI i))]) F.1 F.2.1 dX4_leastOf_59 hl (by decide) rfl (fun ls hl => ?_)
          refine lv_iload F.1 F.2.1 dX4_leastOf_61 (lv_at hl 0 rfl) ?_
          refine lv_if_eq (tgt := 87) F.1 F.2.1 dX4_leastOf_63 (by decide) (fun c63 => ?_) (fun c63 => ?_)
          · exact absurd c63 (by decide)
          refine lv_iload F.1 F.2.1 dX4_leastOf_66 (lv_at hl 5 rfl) ?_
          refine lv_if_lt (tgt := 82) F.1 F.2.1 dX4_leastOf_68 (by decide) (fun c68 => ?_) (fun c68 => ?_)
          · refine lv_iload F.1 F.2.1 dX4_leastOf_82 (lv_at hl 6 rfl) ?_
            refine lv_goto (tgt := 89) F.1 F.2.1 dX4_leastOf_84 (by decide) ?_
            refine lv_istore (lv' := [(5, .int (nI i)), (7, .int 1), (0, .ref (bH B)), (1, .int x), (2, .int ta), (3, .long t), (6, .int (nI i))]) F.1 F.2.1 dX4_leastOf_89 hl (by decide) rfl (fun ls hl => ?_)
            refine lv_iinc (v := nI (i + 1)) (lv' := [(6, .int (nI (i + 1))), (5, .int (nI i)), (7, .int 1), (0, .ref (bH B)), (1, .int x), (2, .int ta), (3, .long t)]) F.1 F.2.1 dX4_leastOf_91 hl (k := 6) rfl (by rw [show Int32.ofInt 1 = 1 from rfl]; exact nI_1 _) (by decide) rfl (fun ls hl => ?_)
            refine lv_goto (tgt := 6) F.1 F.2.1 dX4_leastOf_94 (by decide) ?_
            exact ih ((i + 1, some i)) _ (by simp only []; omega) ⟨lv_sub hl [3, 4, 5, 6, 1, 0] rfl, by omega, by simp only []; exact (mLeast_n1 (mMay_1 (x := mE v i) c25 c36 (Or.inl c47)) (by rw [← ho]; exact bI_none c68 (fun k hk => by have h9 := mLeast_lt (ho.symm.trans hk); omega))).symm⟩
          · obtain ⟨k9, rfl⟩ := bI_some c68
            have ho := ho.symm
            have hk9 := mLeast_lt ho
            have hl : lv_has ls 8 [(7, .int 1), (0, .ref (bH B)), (1, .int x), (2, .int ta), (3, .long t), (5, .int (nI k9)), (6, .int (nI i))] := hl
            refine lv_aload_n F.1 F.2.1 dX4_leastOf_71 rfl (lv_at hl 1 rfl) ?_
            refine lv_iload F.1 F.2.1 dX4_leastOf_72 (lv_at hl 6 rfl) ?_
            refine lv_iload F.1 F.2.1 dX4_leastOf_74 (lv_at hl 5 rfl) ?_
            refine x_ri (va_runV (As := [.int (nI i), .int (nI k9)]) (rest := []) F (c_X4_isAhead l G cI cJ cZ cO (Array.size _) B v i k9 (by omega) (by omega)) (cwV 2 F.2.2.2.2 gX4_leastOf_X4_isAhead rfl rfl rfl (by decide +kernel) ⟨Nat.le_of_ble_eq_true rfl, Nat.le_of_ble_eq_true rfl⟩) (x_preVW hw [0, 1, 2, 3, 4, 5, 6, 7, 8, 9, 10, 11, 12, 13, 14, 15] rfl (by decide) 0 rfl rfl) rfl rfl hl.1 rfl (lv_room (Nat.le_of_ble_eq_true rfl)) dX4_leastOf_76 ⟨Nat.le_of_ble_eq_true rfl, Nat.le_of_ble_eq_true rfl⟩) (fun r76 hr76 => ?_)
            refine lv_if_eq (tgt := 87) F.1 F.2.1 dX4_leastOf_79 (by decide) (fun c79 => ?_) (fun c79 => ?_)
            · refine lv_iload F.1 F.2.1 dX4_leastOf_87 (lv_at hl 5 rfl) ?_
              refine lv_istore (lv' := [(5, .int (nI k9)), (7, .int 1), (0, .ref (bH B)), (1, .int x), (2, .int ta), (3, .long t), (6, .int (nI i))]) F.1 F.2.1 dX4_leastOf_89 hl (by decide) rfl (fun ls hl => ?_)
              refine lv_iinc (v := nI (i + 1)) (lv' := [(6, .int (nI (i + 1))), (5, .int (nI k9)), (7, .int 1), (0, .ref (bH B)), (1, .int x), (2, .int ta), (3, .long t)]) F.1 F.2.1 dX4_leastOf_91 hl (k := 6) rfl (by rw [show Int32.ofInt 1 = 1 from rfl]; exact nI_1 _) (by decide) rfl (fun ls hl => ?_)
              refine lv_goto (tgt := 6) F.1 F.2.1 dX4_leastOf_94 (by decide) ?_
              exact ih ((i + 1, some k9)) _ (by simp only []; omega) ⟨lv_sub hl [3, 4, 5, 6, 1, 0] rfl, by omega, by simp only []; exact (mLeast_s0 ho (by have h9 := if_z hr76 c79; cases h8 : mLt (mCn v 3) (mE v i) (mE v k9) with | true => exact absurd h8 h9 | false => rfl)).symm⟩
            · refine lv_iload F.1 F.2.1 dX4_leastOf_82 (lv_at hl 6 rfl) ?_
              refine lv_goto (tgt := 89) F.1 F.2.1 dX4_leastOf_84 (by decide) ?_
              refine lv_istore (lv' := [(5, .int (nI i)), (7, .int 1), (0, .ref (bH B)), (1, .int x), (2, .int ta), (3, .long t), (6, .int (nI i))]) F.1 F.2.1 dX4_leastOf_89 hl (by decide) rfl (fun ls hl => ?_)
              refine lv_iinc (v := nI (i + 1)) (lv' := [(6, .int (nI (i + 1))), (5, .int (nI i)), (7, .int 1), (0, .ref (bH B)), (1, .int x), (2, .int ta), (3, .long t)]) F.1 F.2.1 dX4_leastOf_91 hl (k := 6) rfl (by rw [show Int32.ofInt 1 = 1 from rfl]; exact nI_1 _) (by decide) rfl (fun ls hl => ?_)
              refine lv_goto (tgt := 6) F.1 F.2.1 dX4_leastOf_94 (by decide) ?_
              exact ih ((i + 1, some i)) _ (by simp only []; omega) ⟨lv_sub hl [3, 4, 5, 6, 1, 0] rfl, by omega, by simp only []; exact (mLeast_s1 (mMay_1 (x := mE v i) c25 c36 (Or.inl c47)) ho (if_nz hr76 c79)).symm⟩
        · refine lv_iload_n F.1 F.2.1 dX4_leastOf_50 rfl (lv_at hl 2 rfl) ?_
          refine lv_if_ne (tgt := 58) F.1 F.2.1 dX4_leastOf_51 (by decide) (fun c51 => ?_) (fun c51 => ?_)
          · refine lv_iconst (v := 0) F.1 F.2.1 dX4_leastOf_58 (by decide) ?_
            refine lv_istore (lv' := [(7, .int 0), (0, .ref (bH B)), (1, .int x), (2, .int ta), (3, .long t), (5, .int (bI o)), (6, .int (nI i))]) F.1 F.2.1 dX4_leastOf_59 hl (by decide) rfl (fun ls hl => ?_)
            refine lv_iload F.1 F.2.1 dX4_leastOf_61 (lv_at hl 0 rfl) ?_
            refine lv_if_eq (tgt := 87) F.1 F.2.1 dX4_leastOf_63 (by decide) (fun c63 => ?_) (fun c63 => ?_)
            rotate_left
            · exact (c63 (by decide)).elim
            refine lv_iload F.1 F.2.1 dX4_leastOf_87 (lv_at hl 5 rfl) ?_
            refine lv_istore (lv' := [(5, .int (bI o)), (7, .int 0), (0, .ref (bH B)), (1, .int x), (2, .int ta), (3, .long t), (6, .int (nI i))]) F.1 F.2.1 dX4_leastOf_89 hl (by decide) rfl (fun ls hl => ?_)
            refine lv_iinc (v := nI (i + 1)) (lv' := [(6, .int (nI (i + 1))), (5, .int (bI o)), (7, .int 0), (0, .ref (bH B)), (1, .int x), (2, .int ta), (3, .long t)]) F.1 F.2.1 dX4_leastOf_91 hl (k := 6) rfl (by rw [show Int32.ofInt 1 = 1 from rfl]; exact nI_1 _) (by decide) rfl (fun ls hl => ?_)
            refine lv_goto (tgt := 6) F.1 F.2.1 dX4_leastOf_94 (by decide) ?_
            exact ih ((i + 1, o)) _ (by simp only []; omega) ⟨lv_sub hl [3, 4, 5, 6, 1, 0] rfl, by omega, by simp only []; exact ho.trans (mLeast_no (mMay_c c47 c51)).symm⟩
          · refine lv_iconst (v := 1) F.1 F.2.1 dX4_leastOf_54 (by decide) ?_
            refine lv_goto (tgt := 59) F.1 F.2.1 dX4_leastOf_55 (by decide) ?_
            refine lv_istore (lv' := [(7, .int 1), (0, .ref (bH B)), (1, .int x), (2, .int ta), (3, .long t), (5, .int (bI o)), (6, .int (nI i))]) F.1 F.2.1 dX4_leastOf_59 hl (by decide) rfl (fun ls hl => ?_)
            refine lv_iload F.1 F.2.1 dX4_leastOf_61 (lv_at hl 0 rfl) ?_
            refine lv_if_eq (tgt := 87) F.1 F.2.1 dX4_leastOf_63 (by decide) (fun c63 => ?_) (fun c63 => ?_)
            · exact absurd c63 (by decide)
            refine lv_iload F.1 F.2.1 dX4_leastOf_66 (lv_at hl 5 rfl) ?_
            refine lv_if_lt (tgt := 82) F.1 F.2.1 dX4_leastOf_68 (by decide) (fun c68 => ?_) (fun c68 => ?_)
            · refine lv_iload F.1 F.2.1 dX4_leastOf_82 (lv_at hl 6 rfl) ?_
              refine lv_goto (tgt := 89) F.1 F.2.1 dX4_leastOf_84 (by decide) ?_
              refine lv_istore (lv' := [(5, .int (nI i)), (7, .int 1), (0, .ref (bH B)), (1, .int x), (2, .int ta), (3, .long t), (6, .int (nI i))]) F.1 F.2.1 dX4_leastOf_89 hl (by decide) rfl (fun ls hl => ?_)
              refine lv_iinc (v := nI (i + 1)) (lv' := [(6, .int (nI (i + 1))), (5, .int (nI i)), (7, .int 1), (0, .ref (bH B)), (1, .int x), (2, .int ta), (3, .long t)]) F.1 F.2.1 dX4_leastOf_91 hl (k := 6) rfl (by rw [show Int32.ofInt 1 = 1 from rfl]; exact nI_1 _) (by decide) rfl (fun ls hl => ?_)
              refine lv_goto (tgt := 6) F.1 F.2.1 dX4_leastOf_94 (by decide) ?_
              exact ih ((i + 1, some i)) _ (by simp only []; omega) ⟨lv_sub hl [3, 4, 5, 6, 1, 0] rfl, by omega, by simp only []; exact (mLeast_n1 (mMay_1 (x := mE v i) c25 c36 (Or.inr c51)) (by rw [← ho]; exact bI_none c68 (fun k hk => by have h9 := mLeast_lt (ho.symm.trans hk); omega))).symm⟩
            · obtain ⟨k9, rfl⟩ := bI_some c68
              have ho := ho.symm
              have hk9 := mLeast_lt ho
              have hl : lv_has ls 8 [(7, .int 1), (0, .ref (bH B)), (1, .int x), (2, .int ta), (3, .long t), (5, .int (nI k9)), (6, .int (nI i))] := hl
              refine lv_aload_n F.1 F.2.1 dX4_leastOf_71 rfl (lv_at hl 1 rfl) ?_
              refine lv_iload F.1 F.2.1 dX4_leastOf_72 (lv_at hl 6 rfl) ?_
              refine lv_iload F.1 F.2.1 dX4_leastOf_74 (lv_at hl 5 rfl) ?_
              refine x_ri (va_runV (As := [.int (nI i), .int (nI k9)]) (rest := []) F (c_X4_isAhead l G cI cJ cZ cO (Array.size _) B v i k9 (by omega) (by omega)) (cwV 2 F.2.2.2.2 gX4_leastOf_X4_isAhead rfl rfl rfl (by decide +kernel) ⟨Nat.le_of_ble_eq_true rfl, Nat.le_of_ble_eq_true rfl⟩) (x_preVW hw [0, 1, 2, 3, 4, 5, 6, 7, 8, 9, 10, 11, 12, 13, 14, 15] rfl (by decide) 0 rfl rfl) rfl rfl hl.1 rfl (lv_room (Nat.le_of_ble_eq_true rfl)) dX4_leastOf_76 ⟨Nat.le_of_ble_eq_true rfl, Nat.le_of_ble_eq_true rfl⟩) (fun r76 hr76 => ?_)
              refine lv_if_eq (tgt := 87) F.1 F.2.1 dX4_leastOf_79 (by decide) (fun c79 => ?_) (fun c79 => ?_)
              · refine lv_iload F.1 F.2.1 dX4_leastOf_87 (lv_at hl 5 rfl) ?_
                refine lv_istore (lv' := [(5, .int (nI k9)), (7, .int 1), (0, .ref (bH B)), (1, .int x), (2, .int ta), (3, .long t), (6, .int (nI i))]) F.1 F.2.1 dX4_leastOf_89 hl (by decide) rfl (fun ls hl => ?_)
                refine lv_iinc (v := nI (i + 1)) (lv' := [(6, .int (nI (i + 1))), (5, .int (nI k9)), (7, .int 1), (0, .ref (bH B)), (1, .int x), (2, .int ta), (3, .long t)]) F.1 F.2.1 dX4_leastOf_91 hl (k := 6) rfl (by rw [show Int32.ofInt 1 = 1 from rfl]; exact nI_1 _) (by decide) rfl (fun ls hl => ?_)
                refine lv_goto (tgt := 6) F.1 F.2.1 dX4_leastOf_94 (by decide) ?_
                exact ih ((i + 1, some k9)) _ (by simp only []; omega) ⟨lv_sub hl [3, 4, 5, 6, 1, 0] rfl, by omega, by simp only []; exact (mLeast_s0 ho (by have h9 := if_z hr76 c79; cases h8 : mLt (mCn v 3) (mE v i) (mE v k9) with | true => exact absurd h8 h9 | false => rfl)).symm⟩
              · refine lv_iload F.1 F.2.1 dX4_leastOf_82 (lv_at hl 6 rfl) ?_
                refine lv_goto (tgt := 89) F.1 F.2.1 dX4_leastOf_84 (by decide) ?_
                refine lv_istore (lv' := [(5, .int (nI i)), (7, .int 1), (0, .ref (bH B)), (1, .int x), (2, .int ta), (3, .long t), (6, .int (nI i))]) F.1 F.2.1 dX4_leastOf_89 hl (by decide) rfl (fun ls hl => ?_)
                refine lv_iinc (v := nI (i + 1)) (lv' := [(6, .int (nI (i + 1))), (5, .int (nI i)), (7, .int 1), (0, .ref (bH B)), (1, .int x), (2, .int ta), (3, .long t)]) F.1 F.2.1 dX4_leastOf_91 hl (k := 6) rfl (by rw [show Int32.ofInt 1 = 1 from rfl]; exact nI_1 _) (by decide) rfl (fun ls hl => ?_)
                refine lv_goto (tgt := 6) F.1 F.2.1 dX4_leastOf_94 (by decide) ?_
                exact ih ((i + 1, some i)) _ (by simp only []; omega) ⟨lv_sub hl [3, 4, 5, 6, 1, 0] rfl, by omega, by simp only []; exact (mLeast_s1 (mMay_1 (x := mE v i) c25 c36 (Or.inr c51)) ho (if_nz hr76 c79)).symm⟩

set_option maxHeartbeats 8000000 in
set_option maxRecDepth 100000 in
/-- first(rows) -/
theorem c_X4_first (l : Launch) (G : va_G) (cI cJ cZ cO : ClassId) (sz : Nat) (B : MA) (v : MR) (x : Int32) : Met l yX4_first wsX4_first ({ frames := 0, cells := 0, slots := 0, locals := 0 }) (xPc G (xK cI cJ cZ cO) sz [.ref (bH B), .int x] (wMo cI cJ cZ B v)) (va_Qi (fun r u2 => u2 = mSetCn (mSetC v 0) 3 (if x = 0 then 0 else 1) ∧ r = if mCn v 3 = 1 then 1 else 0) (xB G (xK cI cJ cZ cO) (wMo cI cJ cZ B v) sz (fun u9 : MR => wMo cI cJ cZ B u9)) (va_A (wMo cI cJ cZ B v) sz)) 0 0 (va_A (wMo cI cJ cZ B v) sz) := by
  refine x_body (by decide) rfl (Nat.le_of_ble_eq_true rfl) ?_
  intro p e s m below meth c F hr hlk hnm hsz hw ls hl
  subst hsz
  have F : CallFix p m c cX4_first 3 s _ wsX4_first RX4 := F
  have hl : lv_has ls 3 [(0, .ref (bH B)), (1, .int x)] := hl
  have hw : xW G (xK cI cJ cZ cO) _ s.heap s [(bH B, .inr (4, [.int (mCode v), .ref (bW B), .ref (bIt B), .ref (bCk B), .ref (bNu B), .ref (bKe B), .ref (bTi B), .ref (bGa B), .ref (bOf B), .ref (bNw B), .ref (bCn B), .int (nI (mKp v)), .int (nI (mDn v)), .ref (bDk B), .ref (bDu B), .ref (bDe B), .ref (bDt B), .ref (bDo B)])), (bW B, .inl (cI, 4, .inl (fun j9 => nI (mW v j9)))), (bIt B, .inl (cZ, 320, .inl (mIt v))), (bCk B, .inl (cI, 320, .inl (mCk v))), (bNu B, .inl (cI, 320, .inl (mNu v))), (bKe B, .inl (cJ, 320, .inr (.inl (mKe v)))), (bTi B, .inl (cJ, 320, .inr (.inl (mTi v)))), (bGa B, .inl (cJ, 320, .inr (.inl (mGa v)))), (bOf B, .inl (cI, 320, .inl (mOf v))), (bNw B, .inl (cJ, 8, .inr (.inl (mNw v)))), (bCn B, .inl (cI, 16, .inl (mCn v))), (bDk B, .inl (cI, 4000, .inl (mDk v))), (bDu B, .inl (cI, 4000, .inl (mDu v))), (bDe B, .inl (cJ, 4000, .inr (.inl (mDe v)))), (bDt B, .inl (cJ, 4000, .inr (.inl (mDt v)))), (bDo B, .inl (cI, 4000, .inl (mDo v)))] s.heap [] := hw
  have iX4 : ∀ w ∈ wsX40, w ∈ wsX4_first := by decide +kernel
  refine lv_aload_n F.1 F.2.1 dX4_first_0 rfl (lv_at hl 0 rfl) ?_
  refine lv_iconst (v := 0) F.1 F.2.1 dX4_first_1 (by decide) ?_
  refine x_put F hw iX4 tyX4 tyX4_ok nmX4 0 rfl rfl 0 (by decide) rfl (List.mem_of_getElem? (i := 1) rfl) (rfl) (rfl) (Nat.le_of_ble_eq_true rfl) dX4_first_2 (fun H locs hw => ?_)
  have hw : xW G (xK cI cJ cZ cO) _ s.heap s [(bH B, .inr (4, [.int 0, .ref (bW B), .ref (bIt B), .ref (bCk B), .ref (bNu B), .ref (bKe B), .ref (bTi B), .ref (bGa B), .ref (bOf B), .ref (bNw B), .ref (bCn B), .int (nI (mKp v)), .int (nI (mDn v)), .ref (bDk B), .ref (bDu B), .ref (bDe B), .ref (bDt B), .ref (bDo B)])), (bW B, .inl (cI, 4, .inl (fun j9 => nI (mW v j9)))), (bIt B, .inl (cZ, 320, .inl (mIt v))), (bCk B, .inl (cI, 320, .inl (mCk v))), (bNu B, .inl (cI, 320, .inl (mNu v))), (bKe B, .inl (cJ, 320, .inr (.inl (mKe v)))), (bTi B, .inl (cJ, 320, .inr (.inl (mTi v)))), (bGa B, .inl (cJ, 320, .inr (.inl (mGa v)))), (bOf B, .inl (cI, 320, .inl (mOf v))), (bNw B, .inl (cJ, 8, .inr (.inl (mNw v)))), (bCn B, .inl (cI, 16, .inl (mCn v))), (bDk B, .inl (cI, 4000, .inl (mDk v))), (bDu B, .inl (cI, 4000, .inl (mDu v))), (bDe B, .inl (cJ, 4000, .inr (.inl (mDe v)))), (bDt B, .inl (cJ, 4000, .inr (.inl (mDt v)))), (bDo B, .inl (cI, 4000, .inl (mDo v)))] H _ := hw
  refine lv_aload_n F.1 F.2.1 dX4_first_5 rfl (lv_at hl 0 rfl) ?_
  refine x_get F hw iX4 0 rfl rfl 10 (by decide) rfl (List.mem_of_getElem? (i := 2) rfl) rfl dX4_first_6 ?_
  refine lv_iconst (v := 3) F.1 F.2.1 dX4_first_9 (by decide) ?_
  refine x_ialdN F hw 10 0 rfl rfl 3 rfl (by omega) (by decide) dX4_first_10 ?_
  refine lv_iconst (v := 1) F.1 F.2.1 dX4_first_11 (by decide) ?_
  refine lv_icmp_ne (tgt := 19) F.1 F.2.1 dX4_first_12 (by decide) (fun c12 => ?_) (fun c12 => ?_)
  · refine lv_iconst (v := 0) F.1 F.2.1 dX4_first_19 (by decide) ?_
    refine lv_istore_n (lv' := [(2, .int 0), (0, .ref (bH B)), (1, .int x)]) F.1 F.2.1 dX4_first_20 rfl hl (by decide) rfl (fun ls hl => ?_)
    refine lv_aload_n F.1 F.2.1 dX4_first_21 rfl (lv_at hl 1 rfl) ?_
    refine x_get F hw iX4 0 rfl rfl 10 (by decide) rfl (List.mem_of_getElem? (i := 2) rfl) rfl dX4_first_22 ?_
    refine lv_iconst (v := 3) F.1 F.2.1 dX4_first_25 (by decide) ?_
    refine lv_iload_n F.1 F.2.1 dX4_first_26 rfl (lv_at hl 2 rfl) ?_
    refine lv_if_eq (tgt := 34) F.1 F.2.1 dX4_first_27 (by decide) (fun c27 => ?_) (fun c27 => ?_)
    · refine lv_iconst (v := 0) F.1 F.2.1 dX4_first_34 (by decide) ?_
      refine x_iastN F hw 10 0 rfl rfl 3 rfl (by omega) (by decide) dX4_first_35 (fun H locs hw => ?_)
      have hw : xW G (xK cI cJ cZ cO) _ s.heap s [(bH B, .inr (4, [.int 0, .ref (bW B), .ref (bIt B), .ref (bCk B), .ref (bNu B), .ref (bKe B), .ref (bTi B), .ref (bGa B), .ref (bOf B), .ref (bNw B), .ref (bCn B), .int (nI (mKp v)), .int (nI (mDn v)), .ref (bDk B), .ref (bDu B), .ref (bDe B), .ref (bDt B), .ref (bDo B)])), (bW B, .inl (cI, 4, .inl (fun j9 => nI (mW v j9)))), (bIt B, .inl (cZ, 320, .inl (mIt v))), (bCk B, .inl (cI, 320, .inl (mCk v))), (bNu B, .inl (cI, 320, .inl (mNu v))), (bKe B, .inl (cJ, 320, .inr (.inl (mKe v)))), (bTi B, .inl (cJ, 320, .inr (.inl (mTi v)))), (bGa B, .inl (cJ, 320, .inr (.inl (mGa v)))), (bOf B, .inl (cI, 320, .inl (mOf v))), (bNw B, .inl (cJ, 8, .inr (.inl (mNw v)))), (bCn B, .inl (cI, 16, .inl (upd (mCn v) 3 0))), (bDk B, .inl (cI, 4000, .inl (mDk v))), (bDu B, .inl (cI, 4000, .inl (mDu v))), (bDe B, .inl (cJ, 4000, .inr (.inl (mDe v)))), (bDt B, .inl (cJ, 4000, .inr (.inl (mDt v)))), (bDo B, .inl (cI, 4000, .inl (mDo v)))] H _ := hw
      refine lv_iload_n F.1 F.2.1 dX4_first_36 rfl (lv_at hl 0 rfl) ?_
      exact x_zret (f := fun u9 : MR => wMo cI cJ cZ B u9) (0, (mW v), (mIt v), (mCk v), (mNu v), (mKe v), (mTi v), (mGa v), (mOf v), (mNw v), (upd (mCn v) 3 0), mKp v, mDn v, (mDk v), (mDu v), (mDe v), (mDt v), (mDo v)) F hr hlk (rfl) hw (⟨by rw [if_pos c27]; rfl, (if_neg c12).symm⟩) dX4_first_37
    · refine lv_iconst (v := 1) F.1 F.2.1 dX4_first_30 (by decide) ?_
      refine lv_goto (tgt := 35) F.1 F.2.1 dX4_first_31 (by decide) ?_
      refine x_iastN F hw 10 0 rfl rfl 3 rfl (by omega) (by decide) dX4_first_35 (fun H locs hw => ?_)
      have hw : xW G (xK cI cJ cZ cO) _ s.heap s [(bH B, .inr (4, [.int 0, .ref (bW B), .ref (bIt B), .ref (bCk B), .ref (bNu B), .ref (bKe B), .ref (bTi B), .ref (bGa B), .ref (bOf B), .ref (bNw B), .ref (bCn B), .int (nI (mKp v)), .int (nI (mDn v)), .ref (bDk B), .ref (bDu B), .ref (bDe B), .ref (bDt B), .ref (bDo B)])), (bW B, .inl (cI, 4, .inl (fun j9 => nI (mW v j9)))), (bIt B, .inl (cZ, 320, .inl (mIt v))), (bCk B, .inl (cI, 320, .inl (mCk v))), (bNu B, .inl (cI, 320, .inl (mNu v))), (bKe B, .inl (cJ, 320, .inr (.inl (mKe v)))), (bTi B, .inl (cJ, 320, .inr (.inl (mTi v)))), (bGa B, .inl (cJ, 320, .inr (.inl (mGa v)))), (bOf B, .inl (cI, 320, .inl (mOf v))), (bNw B, .inl (cJ, 8, .inr (.inl (mNw v)))), (bCn B, .inl (cI, 16, .inl (upd (mCn v) 3 1))), (bDk B, .inl (cI, 4000, .inl (mDk v))), (bDu B, .inl (cI, 4000, .inl (mDu v))), (bDe B, .inl (cJ, 4000, .inr (.inl (mDe v)))), (bDt B, .inl (cJ, 4000, .inr (.inl (mDt v)))), (bDo B, .inl (cI, 4000, .inl (mDo v)))] H _ := hw
      refine lv_iload_n F.1 F.2.1 dX4_first_36 rfl (lv_at hl 0 rfl) ?_
      exact x_zret (f := fun u9 : MR => wMo cI cJ cZ B u9) (0, (mW v), (mIt v), (mCk v), (mNu v), (mKe v), (mTi v), (mGa v), (mOf v), (mNw v), (upd (mCn v) 3 1), mKp v, mDn v, (mDk v), (mDu v), (mDe v), (mDt v), (mDo v)) F hr hlk (rfl) hw (⟨by rw [if_neg c27]; rfl, (if_neg c12).symm⟩) dX4_first_37
  · refine lv_iconst (v := 1) F.1 F.2.1 dX4_first_15 (by decide) ?_
    refine lv_goto (tgt := 20) F.1 F.2.1 dX4_first_16 (by decide) ?_
    refine lv_istore_n (lv' := [(2, .int 1), (0, .ref (bH B)), (1, .int x)]) F.1 F.2.1 dX4_first_20 rfl hl (by decide) rfl (fun ls hl => ?_)
    refine lv_aload_n F.1 F.2.1 dX4_first_21 rfl (lv_at hl 1 rfl) ?_
    refine x_get F hw iX4 0 rfl rfl 10 (by decide) rfl (List.mem_of_getElem? (i := 2) rfl) rfl dX4_first_22 ?_
    refine lv_iconst (v := 3) F.1 F.2.1 dX4_first_25 (by decide) ?_
    refine lv_iload_n F.1 F.2.1 dX4_first_26 rfl (lv_at hl 2 rfl) ?_
    refine lv_if_eq (tgt := 34) F.1 F.2.1 dX4_first_27 (by decide) (fun c27 => ?_) (fun c27 => ?_)
    · refine lv_iconst (v := 0) F.1 F.2.1 dX4_first_34 (by decide) ?_
      refine x_iastN F hw 10 0 rfl rfl 3 rfl (by omega) (by decide) dX4_first_35 (fun H locs hw => ?_)
      have hw : xW G (xK cI cJ cZ cO) _ s.heap s [(bH B, .inr (4, [.int 0, .ref (bW B), .ref (bIt B), .ref (bCk B), .ref (bNu B), .ref (bKe B), .ref (bTi B), .ref (bGa B), .ref (bOf B), .ref (bNw B), .ref (bCn B), .int (nI (mKp v)), .int (nI (mDn v)), .ref (bDk B), .ref (bDu B), .ref (bDe B), .ref (bDt B), .ref (bDo B)])), (bW B, .inl (cI, 4, .inl (fun j9 => nI (mW v j9)))), (bIt B, .inl (cZ, 320, .inl (mIt v))), (bCk B, .inl (cI, 320, .inl (mCk v))), (bNu B, .inl (cI, 320, .inl (mNu v))), (bKe B, .inl (cJ, 320, .inr (.inl (mKe v)))), (bTi B, .inl (cJ, 320, .inr (.inl (mTi v)))), (bGa B, .inl (cJ, 320, .inr (.inl (mGa v)))), (bOf B, .inl (cI, 320, .inl (mOf v))), (bNw B, .inl (cJ, 8, .inr (.inl (mNw v)))), (bCn B, .inl (cI, 16, .inl (upd (mCn v) 3 0))), (bDk B, .inl (cI, 4000, .inl (mDk v))), (bDu B, .inl (cI, 4000, .inl (mDu v))), (bDe B, .inl (cJ, 4000, .inr (.inl (mDe v)))), (bDt B, .inl (cJ, 4000, .inr (.inl (mDt v)))), (bDo B, .inl (cI, 4000, .inl (mDo v)))] H _ := hw
      refine lv_iload_n F.1 F.2.1 dX4_first_36 rfl (lv_at hl 0 rfl) ?_
      exact x_zret (f := fun u9 : MR => wMo cI cJ cZ B u9) (0, (mW v), (mIt v), (mCk v), (mNu v), (mKe v), (mTi v), (mGa v), (mOf v), (mNw v), (upd (mCn v) 3 0), mKp v, mDn v, (mDk v), (mDu v), (mDe v), (mDt v), (mDo v)) F hr hlk (rfl) hw (⟨by rw [if_pos c27]; rfl, (if_pos c12).symm⟩) dX4_first_37
    · refine lv_iconst (v := 1) F.1 F.2.1 dX4_first_30 (by decide) ?_
      refine lv_goto (tgt := 35) F.1 F.2.1 dX4_first_31 (by decide) ?_
      refine x_iastN F hw 10 0 rfl rfl 3 rfl (by omega) (by decide) dX4_first_35 (fun H locs hw => ?_)
      have hw : xW G (xK cI cJ cZ cO) _ s.heap s [(bH B, .inr (4, [.int 0, .ref (bW B), .ref (bIt B), .ref (bCk B), .ref (bNu B), .ref (bKe B), .ref (bTi B), .ref (bGa B), .ref (bOf B), .ref (bNw B), .ref (bCn B), .int (nI (mKp v)), .int (nI (mDn v)), .ref (bDk B), .ref (bDu B), .ref (bDe B), .ref (bDt B), .ref (bDo B)])), (bW B, .inl (cI, 4, .inl (fun j9 => nI (mW v j9)))), (bIt B, .inl (cZ, 320, .inl (mIt v))), (bCk B, .inl (cI, 320, .inl (mCk v))), (bNu B, .inl (cI, 320, .inl (mNu v))), (bKe B, .inl (cJ, 320, .inr (.inl (mKe v)))), (bTi B, .inl (cJ, 320, .inr (.inl (mTi v)))), (bGa B, .inl (cJ, 320, .inr (.inl (mGa v)))), (bOf B, .inl (cI, 320, .inl (mOf v))), (bNw B, .inl (cJ, 8, .inr (.inl (mNw v)))), (bCn B, .inl (cI, 16, .inl (upd (mCn v) 3 1))), (bDk B, .inl (cI, 4000, .inl (mDk v))), (bDu B, .inl (cI, 4000, .inl (mDu v))), (bDe B, .inl (cJ, 4000, .inr (.inl (mDe v)))), (bDt B, .inl (cJ, 4000, .inr (.inl (mDt v)))), (bDo B, .inl (cI, 4000, .inl (mDo v)))] H _ := hw
      refine lv_iload_n F.1 F.2.1 dX4_first_36 rfl (lv_at hl 0 rfl) ?_
      exact x_zret (f := fun u9 : MR => wMo cI cJ cZ B u9) (0, (mW v), (mIt v), (mCk v), (mNu v), (mKe v), (mTi v), (mGa v), (mOf v), (mNw v), (upd (mCn v) 3 1), mKp v, mDn v, (mDk v), (mDu v), (mDe v), (mDt v), (mDo v)) F hr hlk (rfl) hw (⟨by rw [if_neg c27]; rfl, (if_pos c12).symm⟩) dX4_first_37

set_option maxHeartbeats 8000000 in
set_option maxRecDepth 100000 in
/-- row(k, t) -/
theorem c_X4_row (l : Launch) (G : va_G) (cI cJ cZ cO : ClassId) (sz : Nat) (B : MA) (v : MR) (y t : Int64) (hw0 : mW v 0 ≤ 80) (hlt40 : mMany v 0 ≤ 40) (hm : mMany v 0 < 40 → mW v 0 < 80) : Met l yX4_row wsX4_row ({ frames := 1, cells := 0, slots := 0, locals := 31 }) (xPc G (xK cI cJ cZ cO) sz [.ref (bH B), .long y, .long t] (wMo cI cJ cZ B v)) (va_Qi (fun r u2 => (¬ gTim t ∧ u2 = mSetC v 1) ∨ (gTim t ∧ t ≤ mNw v 0 ∧ u2 = mSetCn (mSetC v 0) 2 (mCn v 2 + 1) ∧ r = -1) ∨ (gTim t ∧ ¬ t ≤ mNw v 0 ∧ mMany v 0 = 40 ∧ u2 = mSetC (mSetC v 0) 2) ∨ (gTim t ∧ ¬ t ≤ mNw v 0 ∧ mMany v 0 ≠ 40 ∧ u2 = mRow v (mCn v 1, 0, y, t, 0, 0) ∧ r = mCn v 1 + 1 - 1)) (xB G (xK cI cJ cZ cO) (wMo cI cJ cZ B v) sz (fun u9 : MR => wMo cI cJ cZ B u9)) (va_A (wMo cI cJ cZ B v) sz)) 0 0 (va_A (wMo cI cJ cZ B v) sz) := by
  refine x_body (by decide) rfl (Nat.le_of_ble_eq_true rfl) ?_
  intro p e s m below meth c F hr hlk hnm hsz hw ls hl
  subst hsz
  have F : CallFix p m c cX4_row 5 s _ wsX4_row RX4 := F
  have hl : lv_has ls 5 [(0, .ref (bH B)), (1, .long y), (3, .long t)] := hl
  have hw : xW G (xK cI cJ cZ cO) _ s.heap s [(bH B, .inr (4, [.int (mCode v), .ref (bW B), .ref (bIt B), .ref (bCk B), .ref (bNu B), .ref (bKe B), .ref (bTi B), .ref (bGa B), .ref (bOf B), .ref (bNw B), .ref (bCn B), .int (nI (mKp v)), .int (nI (mDn v)), .ref (bDk B), .ref (bDu B), .ref (bDe B), .ref (bDt B), .ref (bDo B)])), (bW B, .inl (cI, 4, .inl (fun j9 => nI (mW v j9)))), (bIt B, .inl (cZ, 320, .inl (mIt v))), (bCk B, .inl (cI, 320, .inl (mCk v))), (bNu B, .inl (cI, 320, .inl (mNu v))), (bKe B, .inl (cJ, 320, .inr (.inl (mKe v)))), (bTi B, .inl (cJ, 320, .inr (.inl (mTi v)))), (bGa B, .inl (cJ, 320, .inr (.inl (mGa v)))), (bOf B, .inl (cI, 320, .inl (mOf v))), (bNw B, .inl (cJ, 8, .inr (.inl (mNw v)))), (bCn B, .inl (cI, 16, .inl (mCn v))), (bDk B, .inl (cI, 4000, .inl (mDk v))), (bDu B, .inl (cI, 4000, .inl (mDu v))), (bDe B, .inl (cJ, 4000, .inr (.inl (mDe v)))), (bDt B, .inl (cJ, 4000, .inr (.inl (mDt v)))), (bDo B, .inl (cI, 4000, .inl (mDo v)))] s.heap [] := hw
  have iX4 : ∀ w ∈ wsX40, w ∈ wsX4_row := by decide +kernel
  refine lv_aload_n F.1 F.2.1 dX4_row_0 rfl (lv_at hl 0 rfl) ?_
  refine lv_lload_n F.1 F.2.1 dX4_row_1 rfl (lv_at hl 2 rfl) ?_
  refine lv_lconst (v := 0) F.1 F.2.1 dX4_row_2 (by decide) ?_
  refine lv_ldc2 (v := 1000000000000) F.1 F.2.1 F.2.2.2.1 (F.2.2.2.2 _ (List.mem_of_getElem? (i := 1) rfl)) dX4_row_3 ?_
  refine x_ri (va_runS (As := [.long t, .long 0, .long 1000000000000]) (rest := [.ref (bH B)]) F (c_X4_isIn l G cI cJ cZ cO (Array.size _) t 0 1000000000000) (va_cwS 3 F.2.2.2.2 gX4_row_X4_isIn rfl rfl rfl (by decide +kernel) ⟨Nat.le_of_ble_eq_true rfl, Nat.le_of_ble_eq_true rfl⟩) (x_preSW hw [] rfl (by decide)) rfl rfl hl.1 rfl (lv_room (Nat.le_of_ble_eq_true rfl)) dX4_row_6 ⟨Nat.le_of_ble_eq_true rfl, Nat.le_of_ble_eq_true rfl⟩) (fun r6 hr6 => ?_)
  refine lv_if_eq (tgt := 16) F.1 F.2.1 dX4_row_9 (by decide) (fun c9 => ?_) (fun c9 => ?_)
  · refine lv_iconst (v := 1) F.1 F.2.1 dX4_row_16 (by decide) ?_
    refine x_wi (wr := []) (va_runV (As := [.int 1]) (rest := []) F (c_X4_isGood l G cI cJ cZ cO (Array.size _) B v 1) (cwV 1 F.2.2.2.2 gX4_row_X4_isGood rfl rfl rfl (by decide +kernel) ⟨Nat.le_of_ble_eq_true rfl, Nat.le_of_ble_eq_true rfl⟩) (x_preVW hw [0, 1, 2, 3, 4, 5, 6, 7, 8, 9, 10, 11, 12, 13, 14, 15] rfl (by decide) 0 rfl rfl) rfl rfl hl.1 rfl (lv_room (Nat.le_of_ble_eq_true rfl)) dX4_row_17 ⟨Nat.le_of_ble_eq_true rfl, Nat.le_of_ble_eq_true rfl⟩) hw [0, 1, 2, 3, 4, 5, 6, 7, 8, 9, 10, 11, 12, 13, 14, 15] [] rfl rfl (by decide) (by decide) (fun r9 u8 H locs hu9 hw => ?_)
    have hw : xW G (xK cI cJ cZ cO) _ s.heap s [(bH B, .inr (4, [.int (mCode u8), .ref (bW B), .ref (bIt B), .ref (bCk B), .ref (bNu B), .ref (bKe B), .ref (bTi B), .ref (bGa B), .ref (bOf B), .ref (bNw B), .ref (bCn B), .int (nI (mKp u8)), .int (nI (mDn u8)), .ref (bDk B), .ref (bDu B), .ref (bDe B), .ref (bDt B), .ref (bDo B)])), (bW B, .inl (cI, 4, .inl (fun j9 => nI (mW u8 j9)))), (bIt B, .inl (cZ, 320, .inl (mIt u8))), (bCk B, .inl (cI, 320, .inl (mCk u8))), (bNu B, .inl (cI, 320, .inl (mNu u8))), (bKe B, .inl (cJ, 320, .inr (.inl (mKe u8)))), (bTi B, .inl (cJ, 320, .inr (.inl (mTi u8)))), (bGa B, .inl (cJ, 320, .inr (.inl (mGa u8)))), (bOf B, .inl (cI, 320, .inl (mOf u8))), (bNw B, .inl (cJ, 8, .inr (.inl (mNw u8)))), (bCn B, .inl (cI, 16, .inl (mCn u8))), (bDk B, .inl (cI, 4000, .inl (mDk u8))), (bDu B, .inl (cI, 4000, .inl (mDu u8))), (bDe B, .inl (cJ, 4000, .inr (.inl (mDe u8)))), (bDt B, .inl (cJ, 4000, .inr (.inl (mDt u8)))), (bDo B, .inl (cI, 4000, .inl (mDo u8)))] H _ := hw
    obtain ⟨hu9, hr9⟩ := hu9
    subst hu9
    have hr9 := hr9.trans (if_neg (by decide))
    subst hr9
    refine lv_if_ne (tgt := 25) F.1 F.2.1 dX4_row_20 (by decide) (fun c20 => ?_) (fun c20 => ?_)
    · exact (c20 (by decide)).elim
    refine lv_iconst (v := 0) F.1 F.2.1 dX4_row_23 (by decide) ?_
    exact x_iret (f := fun u9 : MR => wMo cI cJ cZ B u9) (mCode (mSetC v 1), (mW (mSetC v 1)), (mIt (mSetC v 1)), (mCk (mSetC v 1)), (mNu (mSetC v 1)), (mKe (mSetC v 1)), (mTi (mSetC v 1)), (mGa (mSetC v 1)), (mOf (mSetC v 1)), (mNw (mSetC v 1)), (mCn (mSetC v 1)), mKp (mSetC v 1), mDn (mSetC v 1), (mDk (mSetC v 1)), (mDu (mSetC v 1)), (mDe (mSetC v 1)), (mDt (mSetC v 1)), (mDo (mSetC v 1))) F hr hlk hw (Or.inl ⟨if_z hr6 c9, rfl⟩) dX4_row_24
  · refine lv_iconst (v := 0) F.1 F.2.1 dX4_row_12 (by decide) ?_
    refine lv_goto (tgt := 17) F.1 F.2.1 dX4_row_13 (by decide) ?_
    refine x_wi (wr := []) (va_runV (As := [.int 0]) (rest := []) F (c_X4_isGood l G cI cJ cZ cO (Array.size _) B v 0) (cwV 1 F.2.2.2.2 gX4_row_X4_isGood rfl rfl rfl (by decide +kernel) ⟨Nat.le_of_ble_eq_true rfl, Nat.le_of_ble_eq_true rfl⟩) (x_preVW hw [0, 1, 2, 3, 4, 5, 6, 7, 8, 9, 10, 11, 12, 13, 14, 15] rfl (by decide) 0 rfl rfl) rfl rfl hl.1 rfl (lv_room (Nat.le_of_ble_eq_true rfl)) dX4_row_17 ⟨Nat.le_of_ble_eq_true rfl, Nat.le_of_ble_eq_true rfl⟩) hw [0, 1, 2, 3, 4, 5, 6, 7, 8, 9, 10, 11, 12, 13, 14, 15] [] rfl rfl (by decide) (by decide) (fun r9 u8 H locs hu9 hw => ?_)
    have hw : xW G (xK cI cJ cZ cO) _ s.heap s [(bH B, .inr (4, [.int (mCode u8), .ref (bW B), .ref (bIt B), .ref (bCk B), .ref (bNu B), .ref (bKe B), .ref (bTi B), .ref (bGa B), .ref (bOf B), .ref (bNw B), .ref (bCn B), .int (nI (mKp u8)), .int (nI (mDn u8)), .ref (bDk B), .ref (bDu B), .ref (bDe B), .ref (bDt B), .ref (bDo B)])), (bW B, .inl (cI, 4, .inl (fun j9 => nI (mW u8 j9)))), (bIt B, .inl (cZ, 320, .inl (mIt u8))), (bCk B, .inl (cI, 320, .inl (mCk u8))), (bNu B, .inl (cI, 320, .inl (mNu u8))), (bKe B, .inl (cJ, 320, .inr (.inl (mKe u8)))), (bTi B, .inl (cJ, 320, .inr (.inl (mTi u8)))), (bGa B, .inl (cJ, 320, .inr (.inl (mGa u8)))), (bOf B, .inl (cI, 320, .inl (mOf u8))), (bNw B, .inl (cJ, 8, .inr (.inl (mNw u8)))), (bCn B, .inl (cI, 16, .inl (mCn u8))), (bDk B, .inl (cI, 4000, .inl (mDk u8))), (bDu B, .inl (cI, 4000, .inl (mDu u8))), (bDe B, .inl (cJ, 4000, .inr (.inl (mDe u8)))), (bDt B, .inl (cJ, 4000, .inr (.inl (mDt u8)))), (bDo B, .inl (cI, 4000, .inl (mDo u8)))] H _ := hw
    obtain ⟨hu9, hr9⟩ := hu9
    subst hu9
    have hr9 := hr9.trans (if_pos rfl)
    subst hr9
    refine lv_if_ne (tgt := 25) F.1 F.2.1 dX4_row_20 (by decide) (fun c20 => ?_) (fun c20 => ?_)
    rotate_left
    · exact absurd c20 (by decide)
    refine lv_lload_n F.1 F.2.1 dX4_row_25 rfl (lv_at hl 2 rfl) ?_
    refine lv_aload_n F.1 F.2.1 dX4_row_26 rfl (lv_at hl 0 rfl) ?_
    refine x_get F hw iX4 0 rfl rfl 9 (by decide) rfl (List.mem_of_getElem? (i := 2) rfl) rfl dX4_row_27 ?_
    refine lv_iconst (v := 0) F.1 F.2.1 dX4_row_30 (by decide) ?_
    refine x_laldN F hw 9 1 rfl rfl 0 rfl (by omega) (by decide) dX4_row_31 ?_
    refine x_l_gt (tgt := 48) F dX4_row_32 dX4_row_33 (by decide) (fun c32 => ?_) (fun c32 => ?_)
    · refine lv_aload_n F.1 F.2.1 dX4_row_48 rfl (lv_at hl 0 rfl) ?_
      refine lv_aload_n F.1 F.2.1 dX4_row_49 rfl (lv_at hl 0 rfl) ?_
      refine lv_iconst (v := 0) F.1 F.2.1 dX4_row_50 (by decide) ?_
      refine x_ri (va_runV (As := [.int 0]) (rest := [.ref (bH B)]) F (c_X4_many l G cI cJ cZ cO (Array.size H) B (mSetC v 0) 0 hw0) (cwV 1 F.2.2.2.2 gX4_row_X4_many rfl rfl rfl (by decide +kernel) ⟨Nat.le_of_ble_eq_true rfl, Nat.le_of_ble_eq_true rfl⟩) (x_preVW hw [0, 1, 2, 3, 4, 5, 6, 7, 8, 9, 10, 11, 12, 13, 14, 15] rfl (by decide) 0 rfl rfl) rfl rfl hl.1 rfl (lv_room (Nat.le_of_ble_eq_true rfl)) dX4_row_51 ⟨Nat.le_of_ble_eq_true rfl, Nat.le_of_ble_eq_true rfl⟩) (fun r51 hr51 => ?_)
      subst hr51
      refine lv_bipush (v := 40) F.1 F.2.1 dX4_row_54 (by decide) ?_
      refine lv_icmp_ne (tgt := 63) F.1 F.2.1 dX4_row_56 (by decide) (fun c56 => ?_) (fun c56 => ?_)
      · refine lv_iconst (v := 0) F.1 F.2.1 dX4_row_63 (by decide) ?_
        refine x_wi (wr := []) (va_runV (As := [.int 0]) (rest := []) F (c_X4_isGood l G cI cJ cZ cO (Array.size H) B (mSetC v 0) 0) (cwV 1 F.2.2.2.2 gX4_row_X4_isGood rfl rfl rfl (by decide +kernel) ⟨Nat.le_of_ble_eq_true rfl, Nat.le_of_ble_eq_true rfl⟩) (x_preVW hw [0, 1, 2, 3, 4, 5, 6, 7, 8, 9, 10, 11, 12, 13, 14, 15] rfl (by decide) 0 rfl rfl) rfl rfl hl.1 rfl (lv_room (Nat.le_of_ble_eq_true rfl)) dX4_row_64 ⟨Nat.le_of_ble_eq_true rfl, Nat.le_of_ble_eq_true rfl⟩) hw [0, 1, 2, 3, 4, 5, 6, 7, 8, 9, 10, 11, 12, 13, 14, 15] [] rfl rfl (by decide) (by decide) (fun r9 u8 H locs hu9 hw => ?_)
        have hw : xW G (xK cI cJ cZ cO) _ s.heap s [(bH B, .inr (4, [.int (mCode u8), .ref (bW B), .ref (bIt B), .ref (bCk B), .ref (bNu B), .ref (bKe B), .ref (bTi B), .ref (bGa B), .ref (bOf B), .ref (bNw B), .ref (bCn B), .int (nI (mKp u8)), .int (nI (mDn u8)), .ref (bDk B), .ref (bDu B), .ref (bDe B), .ref (bDt B), .ref (bDo B)])), (bW B, .inl (cI, 4, .inl (fun j9 => nI (mW u8 j9)))), (bIt B, .inl (cZ, 320, .inl (mIt u8))), (bCk B, .inl (cI, 320, .inl (mCk u8))), (bNu B, .inl (cI, 320, .inl (mNu u8))), (bKe B, .inl (cJ, 320, .inr (.inl (mKe u8)))), (bTi B, .inl (cJ, 320, .inr (.inl (mTi u8)))), (bGa B, .inl (cJ, 320, .inr (.inl (mGa u8)))), (bOf B, .inl (cI, 320, .inl (mOf u8))), (bNw B, .inl (cJ, 8, .inr (.inl (mNw u8)))), (bCn B, .inl (cI, 16, .inl (mCn u8))), (bDk B, .inl (cI, 4000, .inl (mDk u8))), (bDu B, .inl (cI, 4000, .inl (mDu u8))), (bDe B, .inl (cJ, 4000, .inr (.inl (mDe u8)))), (bDt B, .inl (cJ, 4000, .inr (.inl (mDt u8)))), (bDo B, .inl (cI, 4000, .inl (mDo u8)))] H _ := hw
        obtain ⟨hu9, hr9⟩ := hu9
        subst hu9
        have hr9 := hr9.trans (if_pos rfl)
        subst hr9
        refine lv_if_ne (tgt := 72) F.1 F.2.1 dX4_row_67 (by decide) (fun c67 => ?_) (fun c67 => ?_)
        rotate_left
        · exact absurd c67 (by decide)
        have hne : mMany v 0 ≠ 40 := fun h => c56 (congrArg nI h)
        refine lv_aload_n F.1 F.2.1 dX4_row_72 rfl (lv_at hl 0 rfl) ?_
        refine lv_iconst (v := 0) F.1 F.2.1 dX4_row_73 (by decide) ?_
        refine lv_iconst (v := 0) F.1 F.2.1 dX4_row_74 (by decide) ?_
        refine lv_aload_n F.1 F.2.1 dX4_row_75 rfl (lv_at hl 0 rfl) ?_
        refine x_get F hw iX4 0 rfl rfl 10 (by decide) rfl (List.mem_of_getElem? (i := 3) rfl) rfl dX4_row_76 ?_
        refine lv_iconst (v := 1) F.1 F.2.1 dX4_row_79 (by decide) ?_
        refine x_ialdN F hw 10 0 rfl rfl 1 rfl (by omega) (by decide) dX4_row_80 ?_
        refine lv_lload_n F.1 F.2.1 dX4_row_81 rfl (lv_at hl 1 rfl) ?_
        refine lv_lload_n F.1 F.2.1 dX4_row_82 rfl (lv_at hl 2 rfl) ?_
        refine lv_lconst (v := 0) F.1 F.2.1 dX4_row_83 (by decide) ?_
        refine lv_iconst (v := 0) F.1 F.2.1 dX4_row_84 (by decide) ?_
        refine x_wv (wr := []) (va_runV (As := [.int 0, .int 0, .int (mCn (mSetC (mSetC v 0) 0) 1), .long y, .long t, .long 0, .int 0]) (rest := []) F (c_X4_add l G cI cJ cZ cO (Array.size H) B (mSetC (mSetC v 0) 0) 0 (mCn v 1, 0, y, t, 0, 0) (Or.inl rfl) (hm (by omega))) (cwV 7 F.2.2.2.2 gX4_row_X4_add rfl rfl rfl (by decide +kernel) ⟨Nat.le_of_ble_eq_true rfl, Nat.le_of_ble_eq_true rfl⟩) (x_preVW hw [0, 1, 2, 3, 4, 5, 6, 7, 8, 9, 10, 11, 12, 13, 14, 15] rfl (by decide) 0 rfl rfl) rfl rfl hl.1 rfl (lv_room (Nat.le_of_ble_eq_true rfl)) dX4_row_85 ⟨Nat.le_of_ble_eq_true rfl, Nat.le_of_ble_eq_true rfl⟩) hw [0, 1, 2, 3, 4, 5, 6, 7, 8, 9, 10, 11, 12, 13, 14, 15] [] rfl rfl (by decide) (by decide) (fun u7 H locs hu7 hw => ?_)
        have hw : xW G (xK cI cJ cZ cO) _ s.heap s [(bH B, .inr (4, [.int (mCode u7), .ref (bW B), .ref (bIt B), .ref (bCk B), .ref (bNu B), .ref (bKe B), .ref (bTi B), .ref (bGa B), .ref (bOf B), .ref (bNw B), .ref (bCn B), .int (nI (mKp u7)), .int (nI (mDn u7)), .ref (bDk B), .ref (bDu B), .ref (bDe B), .ref (bDt B), .ref (bDo B)])), (bW B, .inl (cI, 4, .inl (fun j9 => nI (mW u7 j9)))), (bIt B, .inl (cZ, 320, .inl (mIt u7))), (bCk B, .inl (cI, 320, .inl (mCk u7))), (bNu B, .inl (cI, 320, .inl (mNu u7))), (bKe B, .inl (cJ, 320, .inr (.inl (mKe u7)))), (bTi B, .inl (cJ, 320, .inr (.inl (mTi u7)))), (bGa B, .inl (cJ, 320, .inr (.inl (mGa u7)))), (bOf B, .inl (cI, 320, .inl (mOf u7))), (bNw B, .inl (cJ, 8, .inr (.inl (mNw u7)))), (bCn B, .inl (cI, 16, .inl (mCn u7))), (bDk B, .inl (cI, 4000, .inl (mDk u7))), (bDu B, .inl (cI, 4000, .inl (mDu u7))), (bDe B, .inl (cJ, 4000, .inr (.inl (mDe u7)))), (bDt B, .inl (cJ, 4000, .inr (.inl (mDt u7)))), (bDo B, .inl (cI, 4000, .inl (mDo u7)))] H _ := hw
        subst hu7
        refine lv_aload_n F.1 F.2.1 dX4_row_88 rfl (lv_at hl 0 rfl) ?_
        refine x_get F hw iX4 0 rfl rfl 10 (by decide) rfl (List.mem_of_getElem? (i := 3) rfl) rfl dX4_row_89 ?_
        refine lv_iconst (v := 1) F.1 F.2.1 dX4_row_92 (by decide) ?_
        refine lv_dup2_11 F.1 F.2.1 dX4_row_93 rfl rfl ?_
        refine x_ialdN F hw 10 0 rfl rfl 1 rfl (by omega) (by decide) dX4_row_94 ?_
        refine lv_iconst (v := 1) F.1 F.2.1 dX4_row_95 (by decide) ?_
        refine lv_iadd F.1 F.2.1 dX4_row_96 ?_
        refine x_iastN F hw 10 0 rfl rfl 1 rfl (by omega) (by decide) dX4_row_97 (fun H locs hw => ?_)
        have hw : xW G (xK cI cJ cZ cO) _ s.heap s [(bH B, .inr (4, [.int (mCode (mAdd (mSetC (mSetC v 0) 0) 0 (mCn v 1, 0, y, t, 0, 0))), .ref (bW B), .ref (bIt B), .ref (bCk B), .ref (bNu B), .ref (bKe B), .ref (bTi B), .ref (bGa B), .ref (bOf B), .ref (bNw B), .ref (bCn B), .int (nI (mKp (mAdd (mSetC (mSetC v 0) 0) 0 (mCn v 1, 0, y, t, 0, 0)))), .int (nI (mDn (mAdd (mSetC (mSetC v 0) 0) 0 (mCn v 1, 0, y, t, 0, 0)))), .ref (bDk B), .ref (bDu B), .ref (bDe B), .ref (bDt B), .ref (bDo B)])), (bW B, .inl (cI, 4, .inl (fun j9 => nI (mW (mAdd (mSetC (mSetC v 0) 0) 0 (mCn v 1, 0, y, t, 0, 0)) j9)))), (bIt B, .inl (cZ, 320, .inl (mIt (mAdd (mSetC (mSetC v 0) 0) 0 (mCn v 1, 0, y, t, 0, 0))))), (bCk B, .inl (cI, 320, .inl (mCk (mAdd (mSetC (mSetC v 0) 0) 0 (mCn v 1, 0, y, t, 0, 0))))), (bNu B, .inl (cI, 320, .inl (mNu (mAdd (mSetC (mSetC v 0) 0) 0 (mCn v 1, 0, y, t, 0, 0))))), (bKe B, .inl (cJ, 320, .inr (.inl (mKe (mAdd (mSetC (mSetC v 0) 0) 0 (mCn v 1, 0, y, t, 0, 0)))))), (bTi B, .inl (cJ, 320, .inr (.inl (mTi (mAdd (mSetC (mSetC v 0) 0) 0 (mCn v 1, 0, y, t, 0, 0)))))), (bGa B, .inl (cJ, 320, .inr (.inl (mGa (mAdd (mSetC (mSetC v 0) 0) 0 (mCn v 1, 0, y, t, 0, 0)))))), (bOf B, .inl (cI, 320, .inl (mOf (mAdd (mSetC (mSetC v 0) 0) 0 (mCn v 1, 0, y, t, 0, 0))))), (bNw B, .inl (cJ, 8, .inr (.inl (mNw (mAdd (mSetC (mSetC v 0) 0) 0 (mCn v 1, 0, y, t, 0, 0)))))), (bCn B, .inl (cI, 16, .inl (upd (mCn (mAdd (mSetC (mSetC v 0) 0) 0 (mCn v 1, 0, y, t, 0, 0))) 1 ((mCn (mAdd (mSetC (mSetC v 0) 0) 0 (mCn v 1, 0, y, t, 0, 0)) 1) + 1)))), (bDk B, .inl (cI, 4000, .inl (mDk (mAdd (mSetC (mSetC v 0) 0) 0 (mCn v 1, 0, y, t, 0, 0))))), (bDu B, .inl (cI, 4000, .inl (mDu (mAdd (mSetC (mSetC v 0) 0) 0 (mCn v 1, 0, y, t, 0, 0))))), (bDe B, .inl (cJ, 4000, .inr (.inl (mDe (mAdd (mSetC (mSetC v 0) 0) 0 (mCn v 1, 0, y, t, 0, 0)))))), (bDt B, .inl (cJ, 4000, .inr (.inl (mDt (mAdd (mSetC (mSetC v 0) 0) 0 (mCn v 1, 0, y, t, 0, 0)))))), (bDo B, .inl (cI, 4000, .inl (mDo (mAdd (mSetC (mSetC v 0) 0) 0 (mCn v 1, 0, y, t, 0, 0)))))] H _ := hw
        refine lv_aload_n F.1 F.2.1 dX4_row_98 rfl (lv_at hl 0 rfl) ?_
        refine x_get F hw iX4 0 rfl rfl 10 (by decide) rfl (List.mem_of_getElem? (i := 3) rfl) rfl dX4_row_99 ?_
        refine lv_iconst (v := 1) F.1 F.2.1 dX4_row_102 (by decide) ?_
        refine x_ialdN F hw 10 0 rfl rfl 1 rfl (by omega) (by decide) dX4_row_103 ?_
        refine lv_iconst (v := 1) F.1 F.2.1 dX4_row_104 (by decide) ?_
        refine lv_isub F.1 F.2.1 dX4_row_105 ?_
        exact x_iret (f := fun u9 : MR => wMo cI cJ cZ B u9) (mCode (mAdd (mSetC (mSetC v 0) 0) 0 (mCn v 1, 0, y, t, 0, 0)), (mW (mAdd (mSetC (mSetC v 0) 0) 0 (mCn v 1, 0, y, t, 0, 0))), (mIt (mAdd (mSetC (mSetC v 0) 0) 0 (mCn v 1, 0, y, t, 0, 0))), (mCk (mAdd (mSetC (mSetC v 0) 0) 0 (mCn v 1, 0, y, t, 0, 0))), (mNu (mAdd (mSetC (mSetC v 0) 0) 0 (mCn v 1, 0, y, t, 0, 0))), (mKe (mAdd (mSetC (mSetC v 0) 0) 0 (mCn v 1, 0, y, t, 0, 0))), (mTi (mAdd (mSetC (mSetC v 0) 0) 0 (mCn v 1, 0, y, t, 0, 0))), (mGa (mAdd (mSetC (mSetC v 0) 0) 0 (mCn v 1, 0, y, t, 0, 0))), (mOf (mAdd (mSetC (mSetC v 0) 0) 0 (mCn v 1, 0, y, t, 0, 0))), (mNw (mAdd (mSetC (mSetC v 0) 0) 0 (mCn v 1, 0, y, t, 0, 0))), (upd (mCn (mAdd (mSetC (mSetC v 0) 0) 0 (mCn v 1, 0, y, t, 0, 0))) 1 ((mCn (mAdd (mSetC (mSetC v 0) 0) 0 (mCn v 1, 0, y, t, 0, 0)) 1) + 1)), mKp (mAdd (mSetC (mSetC v 0) 0) 0 (mCn v 1, 0, y, t, 0, 0)), mDn (mAdd (mSetC (mSetC v 0) 0) 0 (mCn v 1, 0, y, t, 0, 0)), (mDk (mAdd (mSetC (mSetC v 0) 0) 0 (mCn v 1, 0, y, t, 0, 0))), (mDu (mAdd (mSetC (mSetC v 0) 0) 0 (mCn v 1, 0, y, t, 0, 0))), (mDe (mAdd (mSetC (mSetC v 0) 0) 0 (mCn v 1, 0, y, t, 0, 0))), (mDt (mAdd (mSetC (mSetC v 0) 0) 0 (mCn v 1, 0, y, t, 0, 0))), (mDo (mAdd (mSetC (mSetC v 0) 0) 0 (mCn v 1, 0, y, t, 0, 0)))) F hr hlk hw (Or.inr (Or.inr (Or.inr ⟨if_nz hr6 c9, Int64.not_le.mpr c32, hne, rfl, rfl⟩))) dX4_row_106
      · refine lv_iconst (v := 2) F.1 F.2.1 dX4_row_59 (by decide) ?_
        refine lv_goto (tgt := 64) F.1 F.2.1 dX4_row_60 (by decide) ?_
        refine x_wi (wr := []) (va_runV (As := [.int 2]) (rest := []) F (c_X4_isGood l G cI cJ cZ cO (Array.size H) B (mSetC v 0) 2) (cwV 1 F.2.2.2.2 gX4_row_X4_isGood rfl rfl rfl (by decide +kernel) ⟨Nat.le_of_ble_eq_true rfl, Nat.le_of_ble_eq_true rfl⟩) (x_preVW hw [0, 1, 2, 3, 4, 5, 6, 7, 8, 9, 10, 11, 12, 13, 14, 15] rfl (by decide) 0 rfl rfl) rfl rfl hl.1 rfl (lv_room (Nat.le_of_ble_eq_true rfl)) dX4_row_64 ⟨Nat.le_of_ble_eq_true rfl, Nat.le_of_ble_eq_true rfl⟩) hw [0, 1, 2, 3, 4, 5, 6, 7, 8, 9, 10, 11, 12, 13, 14, 15] [] rfl rfl (by decide) (by decide) (fun r9 u8 H locs hu9 hw => ?_)
        have hw : xW G (xK cI cJ cZ cO) _ s.heap s [(bH B, .inr (4, [.int (mCode u8), .ref (bW B), .ref (bIt B), .ref (bCk B), .ref (bNu B), .ref (bKe B), .ref (bTi B), .ref (bGa B), .ref (bOf B), .ref (bNw B), .ref (bCn B), .int (nI (mKp u8)), .int (nI (mDn u8)), .ref (bDk B), .ref (bDu B), .ref (bDe B), .ref (bDt B), .ref (bDo B)])), (bW B, .inl (cI, 4, .inl (fun j9 => nI (mW u8 j9)))), (bIt B, .inl (cZ, 320, .inl (mIt u8))), (bCk B, .inl (cI, 320, .inl (mCk u8))), (bNu B, .inl (cI, 320, .inl (mNu u8))), (bKe B, .inl (cJ, 320, .inr (.inl (mKe u8)))), (bTi B, .inl (cJ, 320, .inr (.inl (mTi u8)))), (bGa B, .inl (cJ, 320, .inr (.inl (mGa u8)))), (bOf B, .inl (cI, 320, .inl (mOf u8))), (bNw B, .inl (cJ, 8, .inr (.inl (mNw u8)))), (bCn B, .inl (cI, 16, .inl (mCn u8))), (bDk B, .inl (cI, 4000, .inl (mDk u8))), (bDu B, .inl (cI, 4000, .inl (mDu u8))), (bDe B, .inl (cJ, 4000, .inr (.inl (mDe u8)))), (bDt B, .inl (cJ, 4000, .inr (.inl (mDt u8)))), (bDo B, .inl (cI, 4000, .inl (mDo u8)))] H _ := hw
        obtain ⟨hu9, hr9⟩ := hu9
        subst hu9
        have hr9 := hr9.trans (if_neg (by decide))
        subst hr9
        refine lv_if_ne (tgt := 72) F.1 F.2.1 dX4_row_67 (by decide) (fun c67 => ?_) (fun c67 => ?_)
        · exact (c67 (by decide)).elim
        refine lv_iconst (v := 0) F.1 F.2.1 dX4_row_70 (by decide) ?_
        exact x_iret (f := fun u9 : MR => wMo cI cJ cZ B u9) (mCode (mSetC (mSetC v 0) 2), (mW (mSetC (mSetC v 0) 2)), (mIt (mSetC (mSetC v 0) 2)), (mCk (mSetC (mSetC v 0) 2)), (mNu (mSetC (mSetC v 0) 2)), (mKe (mSetC (mSetC v 0) 2)), (mTi (mSetC (mSetC v 0) 2)), (mGa (mSetC (mSetC v 0) 2)), (mOf (mSetC (mSetC v 0) 2)), (mNw (mSetC (mSetC v 0) 2)), (mCn (mSetC (mSetC v 0) 2)), mKp (mSetC (mSetC v 0) 2), mDn (mSetC (mSetC v 0) 2), (mDk (mSetC (mSetC v 0) 2)), (mDu (mSetC (mSetC v 0) 2)), (mDe (mSetC (mSetC v 0) 2)), (mDt (mSetC (mSetC v 0) 2)), (mDo (mSetC (mSetC v 0) 2))) F hr hlk hw (Or.inr (Or.inr (Or.inl ⟨if_nz hr6 c9, Int64.not_le.mpr c32, (nI_eq (by omega) (by decide)).mp c56, rfl⟩))) dX4_row_71
    · refine lv_aload_n F.1 F.2.1 dX4_row_36 rfl (lv_at hl 0 rfl) ?_
      refine x_get F hw iX4 0 rfl rfl 10 (by decide) rfl (List.mem_of_getElem? (i := 3) rfl) rfl dX4_row_37 ?_
      refine lv_iconst (v := 2) F.1 F.2.1 dX4_row_40 (by decide) ?_
      refine lv_dup2_11 F.1 F.2.1 dX4_row_41 rfl rfl ?_
      refine x_ialdN F hw 10 0 rfl rfl 2 rfl (by omega) (by decide) dX4_row_42 ?_
      refine lv_iconst (v := 1) F.1 F.2.1 dX4_row_43 (by decide) ?_
      refine lv_iadd F.1 F.2.1 dX4_row_44 ?_
      refine x_iastN F hw 10 0 rfl rfl 2 rfl (by omega) (by decide) dX4_row_45 (fun H locs hw => ?_)
      have hw : xW G (xK cI cJ cZ cO) _ s.heap s [(bH B, .inr (4, [.int (mCode (mSetC v 0)), .ref (bW B), .ref (bIt B), .ref (bCk B), .ref (bNu B), .ref (bKe B), .ref (bTi B), .ref (bGa B), .ref (bOf B), .ref (bNw B), .ref (bCn B), .int (nI (mKp (mSetC v 0))), .int (nI (mDn (mSetC v 0))), .ref (bDk B), .ref (bDu B), .ref (bDe B), .ref (bDt B), .ref (bDo B)])), (bW B, .inl (cI, 4, .inl (fun j9 => nI (mW (mSetC v 0) j9)))), (bIt B, .inl (cZ, 320, .inl (mIt (mSetC v 0)))), (bCk B, .inl (cI, 320, .inl (mCk (mSetC v 0)))), (bNu B, .inl (cI, 320, .inl (mNu (mSetC v 0)))), (bKe B, .inl (cJ, 320, .inr (.inl (mKe (mSetC v 0))))), (bTi B, .inl (cJ, 320, .inr (.inl (mTi (mSetC v 0))))), (bGa B, .inl (cJ, 320, .inr (.inl (mGa (mSetC v 0))))), (bOf B, .inl (cI, 320, .inl (mOf (mSetC v 0)))), (bNw B, .inl (cJ, 8, .inr (.inl (mNw (mSetC v 0))))), (bCn B, .inl (cI, 16, .inl (upd (mCn (mSetC v 0)) 2 ((mCn (mSetC v 0) 2) + 1)))), (bDk B, .inl (cI, 4000, .inl (mDk (mSetC v 0)))), (bDu B, .inl (cI, 4000, .inl (mDu (mSetC v 0)))), (bDe B, .inl (cJ, 4000, .inr (.inl (mDe (mSetC v 0))))), (bDt B, .inl (cJ, 4000, .inr (.inl (mDt (mSetC v 0))))), (bDo B, .inl (cI, 4000, .inl (mDo (mSetC v 0))))] H _ := hw
      refine lv_iconst (v := (-1)) F.1 F.2.1 dX4_row_46 (by decide) ?_
      exact x_iret (f := fun u9 : MR => wMo cI cJ cZ B u9) (mCode (mSetC v 0), (mW (mSetC v 0)), (mIt (mSetC v 0)), (mCk (mSetC v 0)), (mNu (mSetC v 0)), (mKe (mSetC v 0)), (mTi (mSetC v 0)), (mGa (mSetC v 0)), (mOf (mSetC v 0)), (mNw (mSetC v 0)), (upd (mCn (mSetC v 0)) 2 ((mCn (mSetC v 0) 2) + 1)), mKp (mSetC v 0), mDn (mSetC v 0), (mDk (mSetC v 0)), (mDu (mSetC v 0)), (mDe (mSetC v 0)), (mDt (mSetC v 0)), (mDo (mSetC v 0))) F hr hlk hw (Or.inr (Or.inl ⟨if_nz hr6 c9, Int64.not_lt.mp c32, rfl, rfl⟩)) dX4_row_47

set_option maxHeartbeats 8000000 in
set_option maxRecDepth 100000 in
/-- forget() -/
theorem c_X4_forget (l : Launch) (G : va_G) (cI cJ cZ cO : ClassId) (sz : Nat) (B : MA) (v : MR) (hk3 : mKp v ≤ 3) : Met l yX4_forget wsX4_forget ({ frames := 1, cells := 0, slots := 0, locals := 21 }) (xPc G (xK cI cJ cZ cO) sz [.ref (bH B)] (wMo cI cJ cZ B v)) (va_Qi (fun r u2 => (mKp v = 0 ∧ u2 = mSetC v 1) ∨ (0 < mKp v ∧ u2 = mSetK (mSetC v 0) (mKp v - 1) ∧ r = nI (mKp v - 1))) (xB G (xK cI cJ cZ cO) (wMo cI cJ cZ B v) sz (fun u9 : MR => wMo cI cJ cZ B u9)) (va_A (wMo cI cJ cZ B v) sz)) 0 0 (va_A (wMo cI cJ cZ B v) sz) := by
  refine x_body (by decide) rfl (Nat.le_of_ble_eq_true rfl) ?_
  intro p e s m below meth c F hr hlk hnm hsz hw ls hl
  subst hsz
  have F : CallFix p m c cX4_forget 1 s _ wsX4_forget RX4 := F
  have hl : lv_has ls 1 [(0, .ref (bH B))] := hl
  have hw : xW G (xK cI cJ cZ cO) _ s.heap s [(bH B, .inr (4, [.int (mCode v), .ref (bW B), .ref (bIt B), .ref (bCk B), .ref (bNu B), .ref (bKe B), .ref (bTi B), .ref (bGa B), .ref (bOf B), .ref (bNw B), .ref (bCn B), .int (nI (mKp v)), .int (nI (mDn v)), .ref (bDk B), .ref (bDu B), .ref (bDe B), .ref (bDt B), .ref (bDo B)])), (bW B, .inl (cI, 4, .inl (fun j9 => nI (mW v j9)))), (bIt B, .inl (cZ, 320, .inl (mIt v))), (bCk B, .inl (cI, 320, .inl (mCk v))), (bNu B, .inl (cI, 320, .inl (mNu v))), (bKe B, .inl (cJ, 320, .inr (.inl (mKe v)))), (bTi B, .inl (cJ, 320, .inr (.inl (mTi v)))), (bGa B, .inl (cJ, 320, .inr (.inl (mGa v)))), (bOf B, .inl (cI, 320, .inl (mOf v))), (bNw B, .inl (cJ, 8, .inr (.inl (mNw v)))), (bCn B, .inl (cI, 16, .inl (mCn v))), (bDk B, .inl (cI, 4000, .inl (mDk v))), (bDu B, .inl (cI, 4000, .inl (mDu v))), (bDe B, .inl (cJ, 4000, .inr (.inl (mDe v)))), (bDt B, .inl (cJ, 4000, .inr (.inl (mDt v)))), (bDo B, .inl (cI, 4000, .inl (mDo v)))] s.heap [] := hw
  have iX4 : ∀ w ∈ wsX40, w ∈ wsX4_forget := by decide +kernel
  refine lv_aload_n F.1 F.2.1 dX4_forget_0 rfl (lv_at hl 0 rfl) ?_
  refine lv_aload_n F.1 F.2.1 dX4_forget_1 rfl (lv_at hl 0 rfl) ?_
  refine x_get F hw iX4 0 rfl rfl 11 (by decide) rfl (List.mem_of_getElem? (i := 1) rfl) rfl dX4_forget_2 ?_
  refine lv_if_ne (tgt := 12) F.1 F.2.1 dX4_forget_5 (by decide) (fun c5 => ?_) (fun c5 => ?_)
  · refine lv_iconst (v := 0) F.1 F.2.1 dX4_forget_12 (by decide) ?_
    refine x_wi (wr := []) (va_runV (As := [.int 0]) (rest := []) F (c_X4_isGood l G cI cJ cZ cO (Array.size _) B v 0) (cwV 1 F.2.2.2.2 gX4_forget_X4_isGood rfl rfl rfl (by decide +kernel) ⟨Nat.le_of_ble_eq_true rfl, Nat.le_of_ble_eq_true rfl⟩) (x_preVW hw [0, 1, 2, 3, 4, 5, 6, 7, 8, 9, 10, 11, 12, 13, 14, 15] rfl (by decide) 0 rfl rfl) rfl rfl hl.1 rfl (lv_room (Nat.le_of_ble_eq_true rfl)) dX4_forget_13 ⟨Nat.le_of_ble_eq_true rfl, Nat.le_of_ble_eq_true rfl⟩) hw [0, 1, 2, 3, 4, 5, 6, 7, 8, 9, 10, 11, 12, 13, 14, 15] [] rfl rfl (by decide) (by decide) (fun r9 u8 H locs hu9 hw => ?_)
    have hw : xW G (xK cI cJ cZ cO) _ s.heap s [(bH B, .inr (4, [.int (mCode u8), .ref (bW B), .ref (bIt B), .ref (bCk B), .ref (bNu B), .ref (bKe B), .ref (bTi B), .ref (bGa B), .ref (bOf B), .ref (bNw B), .ref (bCn B), .int (nI (mKp u8)), .int (nI (mDn u8)), .ref (bDk B), .ref (bDu B), .ref (bDe B), .ref (bDt B), .ref (bDo B)])), (bW B, .inl (cI, 4, .inl (fun j9 => nI (mW u8 j9)))), (bIt B, .inl (cZ, 320, .inl (mIt u8))), (bCk B, .inl (cI, 320, .inl (mCk u8))), (bNu B, .inl (cI, 320, .inl (mNu u8))), (bKe B, .inl (cJ, 320, .inr (.inl (mKe u8)))), (bTi B, .inl (cJ, 320, .inr (.inl (mTi u8)))), (bGa B, .inl (cJ, 320, .inr (.inl (mGa u8)))), (bOf B, .inl (cI, 320, .inl (mOf u8))), (bNw B, .inl (cJ, 8, .inr (.inl (mNw u8)))), (bCn B, .inl (cI, 16, .inl (mCn u8))), (bDk B, .inl (cI, 4000, .inl (mDk u8))), (bDu B, .inl (cI, 4000, .inl (mDu u8))), (bDe B, .inl (cJ, 4000, .inr (.inl (mDe u8)))), (bDt B, .inl (cJ, 4000, .inr (.inl (mDt u8)))), (bDo B, .inl (cI, 4000, .inl (mDo u8)))] H _ := hw
    obtain ⟨hu9, hr9⟩ := hu9
    subst hu9
    have hr9 := hr9.trans (if_pos rfl)
    subst hr9
    refine lv_if_ne (tgt := 21) F.1 F.2.1 dX4_forget_16 (by decide) (fun c16 => ?_) (fun c16 => ?_)
    rotate_left
    · exact absurd c16 (by decide)
    have hk0 : 0 < mKp v := Nat.pos_of_ne_zero (fun h => c5 (by rw [h]; rfl))
    have hkz : mKp (mSetC v 0) = mKp v := rfl
    refine lv_aload_n F.1 F.2.1 dX4_forget_21 rfl (lv_at hl 0 rfl) ?_
    refine lv_dup F.1 F.2.1 dX4_forget_22 rfl ?_
    refine x_get F hw iX4 0 rfl rfl 11 (by decide) rfl (List.mem_of_getElem? (i := 1) rfl) rfl dX4_forget_23 ?_
    refine lv_iconst (v := 1) F.1 F.2.1 dX4_forget_26 (by decide) ?_
    refine lv_isub F.1 F.2.1 dX4_forget_27 ?_
    refine x_topi (v := nI ((mKp (mSetC v 0)) - 1)) ((pk_sub (a := mKp (mSetC v 0)) (b := 1) (by omega)).symm) ?_
    refine x_put F hw iX4 tyX4 tyX4_ok nmX4 0 rfl rfl 11 (by decide) rfl (List.mem_of_getElem? (i := 1) rfl) (rfl) (rfl) (Nat.le_of_ble_eq_true rfl) dX4_forget_28 (fun H locs hw => ?_)
    have hw : xW G (xK cI cJ cZ cO) _ s.heap s [(bH B, .inr (4, [.int (mCode (mSetC v 0)), .ref (bW B), .ref (bIt B), .ref (bCk B), .ref (bNu B), .ref (bKe B), .ref (bTi B), .ref (bGa B), .ref (bOf B), .ref (bNw B), .ref (bCn B), .int (nI ((mKp (mSetC v 0)) - 1)), .int (nI (mDn (mSetC v 0))), .ref (bDk B), .ref (bDu B), .ref (bDe B), .ref (bDt B), .ref (bDo B)])), (bW B, .inl (cI, 4, .inl (fun j9 => nI (mW (mSetC v 0) j9)))), (bIt B, .inl (cZ, 320, .inl (mIt (mSetC v 0)))), (bCk B, .inl (cI, 320, .inl (mCk (mSetC v 0)))), (bNu B, .inl (cI, 320, .inl (mNu (mSetC v 0)))), (bKe B, .inl (cJ, 320, .inr (.inl (mKe (mSetC v 0))))), (bTi B, .inl (cJ, 320, .inr (.inl (mTi (mSetC v 0))))), (bGa B, .inl (cJ, 320, .inr (.inl (mGa (mSetC v 0))))), (bOf B, .inl (cI, 320, .inl (mOf (mSetC v 0)))), (bNw B, .inl (cJ, 8, .inr (.inl (mNw (mSetC v 0))))), (bCn B, .inl (cI, 16, .inl (mCn (mSetC v 0)))), (bDk B, .inl (cI, 4000, .inl (mDk (mSetC v 0)))), (bDu B, .inl (cI, 4000, .inl (mDu (mSetC v 0)))), (bDe B, .inl (cJ, 4000, .inr (.inl (mDe (mSetC v 0))))), (bDt B, .inl (cJ, 4000, .inr (.inl (mDt (mSetC v 0))))), (bDo B, .inl (cI, 4000, .inl (mDo (mSetC v 0))))] H _ := hw
    refine lv_aload_n F.1 F.2.1 dX4_forget_31 rfl (lv_at hl 0 rfl) ?_
    refine x_get F hw iX4 0 rfl rfl 11 (by decide) rfl (List.mem_of_getElem? (i := 1) rfl) rfl dX4_forget_32 ?_
    exact x_iret (f := fun u9 : MR => wMo cI cJ cZ B u9) (mCode (mSetC v 0), (mW (mSetC v 0)), (mIt (mSetC v 0)), (mCk (mSetC v 0)), (mNu (mSetC v 0)), (mKe (mSetC v 0)), (mTi (mSetC v 0)), (mGa (mSetC v 0)), (mOf (mSetC v 0)), (mNw (mSetC v 0)), (mCn (mSetC v 0)), (mKp (mSetC v 0)) - 1, mDn (mSetC v 0), (mDk (mSetC v 0)), (mDu (mSetC v 0)), (mDe (mSetC v 0)), (mDt (mSetC v 0)), (mDo (mSetC v 0))) F hr hlk hw (Or.inr ⟨hk0, rfl, rfl⟩) dX4_forget_35
  · refine lv_iconst (v := 1) F.1 F.2.1 dX4_forget_8 (by decide) ?_
    refine lv_goto (tgt := 13) F.1 F.2.1 dX4_forget_9 (by decide) ?_
    refine x_wi (wr := []) (va_runV (As := [.int 1]) (rest := []) F (c_X4_isGood l G cI cJ cZ cO (Array.size _) B v 1) (cwV 1 F.2.2.2.2 gX4_forget_X4_isGood rfl rfl rfl (by decide +kernel) ⟨Nat.le_of_ble_eq_true rfl, Nat.le_of_ble_eq_true rfl⟩) (x_preVW hw [0, 1, 2, 3, 4, 5, 6, 7, 8, 9, 10, 11, 12, 13, 14, 15] rfl (by decide) 0 rfl rfl) rfl rfl hl.1 rfl (lv_room (Nat.le_of_ble_eq_true rfl)) dX4_forget_13 ⟨Nat.le_of_ble_eq_true rfl, Nat.le_of_ble_eq_true rfl⟩) hw [0, 1, 2, 3, 4, 5, 6, 7, 8, 9, 10, 11, 12, 13, 14, 15] [] rfl rfl (by decide) (by decide) (fun r9 u8 H locs hu9 hw => ?_)
    have hw : xW G (xK cI cJ cZ cO) _ s.heap s [(bH B, .inr (4, [.int (mCode u8), .ref (bW B), .ref (bIt B), .ref (bCk B), .ref (bNu B), .ref (bKe B), .ref (bTi B), .ref (bGa B), .ref (bOf B), .ref (bNw B), .ref (bCn B), .int (nI (mKp u8)), .int (nI (mDn u8)), .ref (bDk B), .ref (bDu B), .ref (bDe B), .ref (bDt B), .ref (bDo B)])), (bW B, .inl (cI, 4, .inl (fun j9 => nI (mW u8 j9)))), (bIt B, .inl (cZ, 320, .inl (mIt u8))), (bCk B, .inl (cI, 320, .inl (mCk u8))), (bNu B, .inl (cI, 320, .inl (mNu u8))), (bKe B, .inl (cJ, 320, .inr (.inl (mKe u8)))), (bTi B, .inl (cJ, 320, .inr (.inl (mTi u8)))), (bGa B, .inl (cJ, 320, .inr (.inl (mGa u8)))), (bOf B, .inl (cI, 320, .inl (mOf u8))), (bNw B, .inl (cJ, 8, .inr (.inl (mNw u8)))), (bCn B, .inl (cI, 16, .inl (mCn u8))), (bDk B, .inl (cI, 4000, .inl (mDk u8))), (bDu B, .inl (cI, 4000, .inl (mDu u8))), (bDe B, .inl (cJ, 4000, .inr (.inl (mDe u8)))), (bDt B, .inl (cJ, 4000, .inr (.inl (mDt u8)))), (bDo B, .inl (cI, 4000, .inl (mDo u8)))] H _ := hw
    obtain ⟨hu9, hr9⟩ := hu9
    subst hu9
    have hr9 := hr9.trans (if_neg (by decide))
    subst hr9
    refine lv_if_ne (tgt := 21) F.1 F.2.1 dX4_forget_16 (by decide) (fun c16 => ?_) (fun c16 => ?_)
    · exact (c16 (by decide)).elim
    refine lv_iconst (v := 0) F.1 F.2.1 dX4_forget_19 (by decide) ?_
    exact x_iret (f := fun u9 : MR => wMo cI cJ cZ B u9) (mCode (mSetC v 1), (mW (mSetC v 1)), (mIt (mSetC v 1)), (mCk (mSetC v 1)), (mNu (mSetC v 1)), (mKe (mSetC v 1)), (mTi (mSetC v 1)), (mGa (mSetC v 1)), (mOf (mSetC v 1)), (mNw (mSetC v 1)), (mCn (mSetC v 1)), mKp (mSetC v 1), mDn (mSetC v 1), (mDk (mSetC v 1)), (mDu (mSetC v 1)), (mDe (mSetC v 1)), (mDt (mSetC v 1)), (mDo (mSetC v 1))) F hr hlk hw (Or.inl ⟨(nI_eq (b := 0) (by omega) (by decide)).mp c5, rfl⟩) dX4_forget_20

set_option maxHeartbeats 8000000 in
set_option maxRecDepth 100000 in
/-- now(c) -/
theorem c_X4_now (l : Launch) (G : va_G) (cI cJ cZ cO : ClassId) (sz : Nat) (B : MA) (v : MR) (x : Int32) : Met l yX4_now wsX4_now ({ frames := 1, cells := 0, slots := 0, locals := 25 }) (xPc G (xK cI cJ cZ cO) sz [.ref (bH B), .int x] (wMo cI cJ cZ B v)) (va_Ql (fun r u2 => (¬ gClk x ∧ u2 = mSetC v 1) ∨ (gClk x ∧ u2 = mSetC v 0 ∧ r = mNw v x.toNatClampNeg)) (xB G (xK cI cJ cZ cO) (wMo cI cJ cZ B v) sz (fun u9 : MR => wMo cI cJ cZ B u9)) (va_A (wMo cI cJ cZ B v) sz)) 0 0 (va_A (wMo cI cJ cZ B v) sz) := by
  refine x_body (by decide) rfl (Nat.le_of_ble_eq_true rfl) ?_
  intro p e s m below meth c F hr hlk hnm hsz hw ls hl
  subst hsz
  have F : CallFix p m c cX4_now 2 s _ wsX4_now RX4 := F
  have hl : lv_has ls 2 [(0, .ref (bH B)), (1, .int x)] := hl
  have hw : xW G (xK cI cJ cZ cO) _ s.heap s [(bH B, .inr (4, [.int (mCode v), .ref (bW B), .ref (bIt B), .ref (bCk B), .ref (bNu B), .ref (bKe B), .ref (bTi B), .ref (bGa B), .ref (bOf B), .ref (bNw B), .ref (bCn B), .int (nI (mKp v)), .int (nI (mDn v)), .ref (bDk B), .ref (bDu B), .ref (bDe B), .ref (bDt B), .ref (bDo B)])), (bW B, .inl (cI, 4, .inl (fun j9 => nI (mW v j9)))), (bIt B, .inl (cZ, 320, .inl (mIt v))), (bCk B, .inl (cI, 320, .inl (mCk v))), (bNu B, .inl (cI, 320, .inl (mNu v))), (bKe B, .inl (cJ, 320, .inr (.inl (mKe v)))), (bTi B, .inl (cJ, 320, .inr (.inl (mTi v)))), (bGa B, .inl (cJ, 320, .inr (.inl (mGa v)))), (bOf B, .inl (cI, 320, .inl (mOf v))), (bNw B, .inl (cJ, 8, .inr (.inl (mNw v)))), (bCn B, .inl (cI, 16, .inl (mCn v))), (bDk B, .inl (cI, 4000, .inl (mDk v))), (bDu B, .inl (cI, 4000, .inl (mDu v))), (bDe B, .inl (cJ, 4000, .inr (.inl (mDe v)))), (bDt B, .inl (cJ, 4000, .inr (.inl (mDt v)))), (bDo B, .inl (cI, 4000, .inl (mDo v)))] s.heap [] := hw
  have iX4 : ∀ w ∈ wsX40, w ∈ wsX4_now := by decide +kernel
  refine lv_aload_n F.1 F.2.1 dX4_now_0 rfl (lv_at hl 0 rfl) ?_
  refine lv_iload_n F.1 F.2.1 dX4_now_1 rfl (lv_at hl 1 rfl) ?_
  refine lv_i2l (v := x.toInt64) F.1 F.2.1 dX4_now_2 (rfl) ?_
  refine lv_lconst (v := 0) F.1 F.2.1 dX4_now_3 (by decide) ?_
  refine lv_lconst (v := 1) F.1 F.2.1 dX4_now_4 (by decide) ?_
  refine x_ri (va_runS (As := [.long x.toInt64, .long 0, .long 1]) (rest := [.ref (bH B)]) F (c_X4_isIn l G cI cJ cZ cO (Array.size _) x.toInt64 0 1) (va_cwS 3 F.2.2.2.2 gX4_now_X4_isIn rfl rfl rfl (by decide +kernel) ⟨Nat.le_of_ble_eq_true rfl, Nat.le_of_ble_eq_true rfl⟩) (x_preSW hw [] rfl (by decide)) rfl rfl hl.1 rfl (lv_room (Nat.le_of_ble_eq_true rfl)) dX4_now_5 ⟨Nat.le_of_ble_eq_true rfl, Nat.le_of_ble_eq_true rfl⟩) (fun r5 hr5 => ?_)
  refine lv_if_eq (tgt := 15) F.1 F.2.1 dX4_now_8 (by decide) (fun c8 => ?_) (fun c8 => ?_)
  · refine lv_iconst (v := 1) F.1 F.2.1 dX4_now_15 (by decide) ?_
    refine x_wi (wr := []) (va_runV (As := [.int 1]) (rest := []) F (c_X4_isGood l G cI cJ cZ cO (Array.size _) B v 1) (cwV 1 F.2.2.2.2 gX4_now_X4_isGood rfl rfl rfl (by decide +kernel) ⟨Nat.le_of_ble_eq_true rfl, Nat.le_of_ble_eq_true rfl⟩) (x_preVW hw [0, 1, 2, 3, 4, 5, 6, 7, 8, 9, 10, 11, 12, 13, 14, 15] rfl (by decide) 0 rfl rfl) rfl rfl hl.1 rfl (lv_room (Nat.le_of_ble_eq_true rfl)) dX4_now_16 ⟨Nat.le_of_ble_eq_true rfl, Nat.le_of_ble_eq_true rfl⟩) hw [0, 1, 2, 3, 4, 5, 6, 7, 8, 9, 10, 11, 12, 13, 14, 15] [] rfl rfl (by decide) (by decide) (fun r9 u8 H locs hu9 hw => ?_)
    have hw : xW G (xK cI cJ cZ cO) _ s.heap s [(bH B, .inr (4, [.int (mCode u8), .ref (bW B), .ref (bIt B), .ref (bCk B), .ref (bNu B), .ref (bKe B), .ref (bTi B), .ref (bGa B), .ref (bOf B), .ref (bNw B), .ref (bCn B), .int (nI (mKp u8)), .int (nI (mDn u8)), .ref (bDk B), .ref (bDu B), .ref (bDe B), .ref (bDt B), .ref (bDo B)])), (bW B, .inl (cI, 4, .inl (fun j9 => nI (mW u8 j9)))), (bIt B, .inl (cZ, 320, .inl (mIt u8))), (bCk B, .inl (cI, 320, .inl (mCk u8))), (bNu B, .inl (cI, 320, .inl (mNu u8))), (bKe B, .inl (cJ, 320, .inr (.inl (mKe u8)))), (bTi B, .inl (cJ, 320, .inr (.inl (mTi u8)))), (bGa B, .inl (cJ, 320, .inr (.inl (mGa u8)))), (bOf B, .inl (cI, 320, .inl (mOf u8))), (bNw B, .inl (cJ, 8, .inr (.inl (mNw u8)))), (bCn B, .inl (cI, 16, .inl (mCn u8))), (bDk B, .inl (cI, 4000, .inl (mDk u8))), (bDu B, .inl (cI, 4000, .inl (mDu u8))), (bDe B, .inl (cJ, 4000, .inr (.inl (mDe u8)))), (bDt B, .inl (cJ, 4000, .inr (.inl (mDt u8)))), (bDo B, .inl (cI, 4000, .inl (mDo u8)))] H _ := hw
    obtain ⟨hu9, hr9⟩ := hu9
    subst hu9
    have hr9 := hr9.trans (if_neg (by decide))
    subst hr9
    refine lv_if_eq (tgt := 31) F.1 F.2.1 dX4_now_19 (by decide) (fun c19 => ?_) (fun c19 => ?_)
    rotate_left
    · exact (c19 (by decide)).elim
    refine lv_lconst (v := 0) F.1 F.2.1 dX4_now_31 (by decide) ?_
    exact x_lret (f := fun u9 : MR => wMo cI cJ cZ B u9) (mCode (mSetC v 1), (mW (mSetC v 1)), (mIt (mSetC v 1)), (mCk (mSetC v 1)), (mNu (mSetC v 1)), (mKe (mSetC v 1)), (mTi (mSetC v 1)), (mGa (mSetC v 1)), (mOf (mSetC v 1)), (mNw (mSetC v 1)), (mCn (mSetC v 1)), mKp (mSetC v 1), mDn (mSetC v 1), (mDk (mSetC v 1)), (mDu (mSetC v 1)), (mDe (mSetC v 1)), (mDt (mSetC v 1)), (mDo (mSetC v 1))) F hr hlk hw (Or.inl ⟨if_z hr5 c8, rfl⟩) dX4_now_32
  · refine lv_iconst (v := 0) F.1 F.2.1 dX4_now_11 (by decide) ?_
    refine lv_goto (tgt := 16) F.1 F.2.1 dX4_now_12 (by decide) ?_
    refine x_wi (wr := []) (va_runV (As := [.int 0]) (rest := []) F (c_X4_isGood l G cI cJ cZ cO (Array.size _) B v 0) (cwV 1 F.2.2.2.2 gX4_now_X4_isGood rfl rfl rfl (by decide +kernel) ⟨Nat.le_of_ble_eq_true rfl, Nat.le_of_ble_eq_true rfl⟩) (x_preVW hw [0, 1, 2, 3, 4, 5, 6, 7, 8, 9, 10, 11, 12, 13, 14, 15] rfl (by decide) 0 rfl rfl) rfl rfl hl.1 rfl (lv_room (Nat.le_of_ble_eq_true rfl)) dX4_now_16 ⟨Nat.le_of_ble_eq_true rfl, Nat.le_of_ble_eq_true rfl⟩) hw [0, 1, 2, 3, 4, 5, 6, 7, 8, 9, 10, 11, 12, 13, 14, 15] [] rfl rfl (by decide) (by decide) (fun r9 u8 H locs hu9 hw => ?_)
    have hw : xW G (xK cI cJ cZ cO) _ s.heap s [(bH B, .inr (4, [.int (mCode u8), .ref (bW B), .ref (bIt B), .ref (bCk B), .ref (bNu B), .ref (bKe B), .ref (bTi B), .ref (bGa B), .ref (bOf B), .ref (bNw B), .ref (bCn B), .int (nI (mKp u8)), .int (nI (mDn u8)), .ref (bDk B), .ref (bDu B), .ref (bDe B), .ref (bDt B), .ref (bDo B)])), (bW B, .inl (cI, 4, .inl (fun j9 => nI (mW u8 j9)))), (bIt B, .inl (cZ, 320, .inl (mIt u8))), (bCk B, .inl (cI, 320, .inl (mCk u8))), (bNu B, .inl (cI, 320, .inl (mNu u8))), (bKe B, .inl (cJ, 320, .inr (.inl (mKe u8)))), (bTi B, .inl (cJ, 320, .inr (.inl (mTi u8)))), (bGa B, .inl (cJ, 320, .inr (.inl (mGa u8)))), (bOf B, .inl (cI, 320, .inl (mOf u8))), (bNw B, .inl (cJ, 8, .inr (.inl (mNw u8)))), (bCn B, .inl (cI, 16, .inl (mCn u8))), (bDk B, .inl (cI, 4000, .inl (mDk u8))), (bDu B, .inl (cI, 4000, .inl (mDu u8))), (bDe B, .inl (cJ, 4000, .inr (.inl (mDe u8)))), (bDt B, .inl (cJ, 4000, .inr (.inl (mDt u8)))), (bDo B, .inl (cI, 4000, .inl (mDo u8)))] H _ := hw
    obtain ⟨hu9, hr9⟩ := hu9
    subst hu9
    have hr9 := hr9.trans (if_pos rfl)
    subst hr9
    refine lv_if_eq (tgt := 31) F.1 F.2.1 dX4_now_19 (by decide) (fun c19 => ?_) (fun c19 => ?_)
    · exact absurd c19 (by decide)
    refine lv_aload_n F.1 F.2.1 dX4_now_22 rfl (lv_at hl 0 rfl) ?_
    refine x_get F hw iX4 0 rfl rfl 9 (by decide) rfl (List.mem_of_getElem? (i := 1) rfl) rfl dX4_now_23 ?_
    refine lv_iload_n F.1 F.2.1 dX4_now_26 rfl (lv_at hl 1 rfl) ?_
    refine x_lald F hw 9 1 rfl rfl (clk_in (if_nz hr5 c8)) dX4_now_27 ?_
    refine lv_goto (tgt := 32) F.1 F.2.1 dX4_now_28 (by decide) ?_
    exact x_lret (f := fun u9 : MR => wMo cI cJ cZ B u9) (mCode (mSetC v 0), (mW (mSetC v 0)), (mIt (mSetC v 0)), (mCk (mSetC v 0)), (mNu (mSetC v 0)), (mKe (mSetC v 0)), (mTi (mSetC v 0)), (mGa (mSetC v 0)), (mOf (mSetC v 0)), (mNw (mSetC v 0)), (mCn (mSetC v 0)), mKp (mSetC v 0), mDn (mSetC v 0), (mDk (mSetC v 0)), (mDu (mSetC v 0)), (mDe (mSetC v 0)), (mDt (mSetC v 0)), (mDo (mSetC v 0))) F hr hlk hw (Or.inr ⟨if_nz hr5 c8, rfl, rfl⟩) dX4_now_32

set_option maxHeartbeats 8000000 in
set_option maxRecDepth 100000 in
/-- next(c) -/
theorem c_X4_next (l : Launch) (G : va_G) (cI cJ cZ cO : ClassId) (sz : Nat) (B : MA) (v : MR) (x : Int32) (hw0 : mW v 0 ≤ 80) : Met l yX4_next wsX4_next ({ frames := 2, cells := 0, slots := 0, locals := 49 }) (xPc G (xK cI cJ cZ cO) sz [.ref (bH B), .int x] (wMo cI cJ cZ B v)) (va_Qi (fun r u2 => (¬ gClk x ∧ u2 = mSetC v 1) ∨ (gClk x ∧ u2 = mSetC v 0 ∧ r = match mLeast v x 1 4000000000000 (mW v 0) with | none => -1 | some k => mNu v k)) (xB G (xK cI cJ cZ cO) (wMo cI cJ cZ B v) sz (fun u9 : MR => wMo cI cJ cZ B u9)) (va_A (wMo cI cJ cZ B v) sz)) 0 0 (va_A (wMo cI cJ cZ B v) sz) := by
  refine x_body (by decide) rfl (Nat.le_of_ble_eq_true rfl) ?_
  intro p e s m below meth c F hr hlk hnm hsz hw ls hl
  subst hsz
  have F : CallFix p m c cX4_next 3 s _ wsX4_next RX4 := F
  have hl : lv_has ls 3 [(0, .ref (bH B)), (1, .int x)] := hl
  have hw : xW G (xK cI cJ cZ cO) _ s.heap s [(bH B, .inr (4, [.int (mCode v), .ref (bW B), .ref (bIt B), .ref (bCk B), .ref (bNu B), .ref (bKe B), .ref (bTi B), .ref (bGa B), .ref (bOf B), .ref (bNw B), .ref (bCn B), .int (nI (mKp v)), .int (nI (mDn v)), .ref (bDk B), .ref (bDu B), .ref (bDe B), .ref (bDt B), .ref (bDo B)])), (bW B, .inl (cI, 4, .inl (fun j9 => nI (mW v j9)))), (bIt B, .inl (cZ, 320, .inl (mIt v))), (bCk B, .inl (cI, 320, .inl (mCk v))), (bNu B, .inl (cI, 320, .inl (mNu v))), (bKe B, .inl (cJ, 320, .inr (.inl (mKe v)))), (bTi B, .inl (cJ, 320, .inr (.inl (mTi v)))), (bGa B, .inl (cJ, 320, .inr (.inl (mGa v)))), (bOf B, .inl (cI, 320, .inl (mOf v))), (bNw B, .inl (cJ, 8, .inr (.inl (mNw v)))), (bCn B, .inl (cI, 16, .inl (mCn v))), (bDk B, .inl (cI, 4000, .inl (mDk v))), (bDu B, .inl (cI, 4000, .inl (mDu v))), (bDe B, .inl (cJ, 4000, .inr (.inl (mDe v)))), (bDt B, .inl (cJ, 4000, .inr (.inl (mDt v)))), (bDo B, .inl (cI, 4000, .inl (mDo v)))] s.heap [] := hw
  have iX4 : ∀ w ∈ wsX40, w ∈ wsX4_next := by decide +kernel
  refine lv_aload_n F.1 F.2.1 dX4_next_0 rfl (lv_at hl 0 rfl) ?_
  refine lv_iload_n F.1 F.2.1 dX4_next_1 rfl (lv_at hl 1 rfl) ?_
  refine lv_i2l (v := x.toInt64) F.1 F.2.1 dX4_next_2 (rfl) ?_
  refine lv_lconst (v := 0) F.1 F.2.1 dX4_next_3 (by decide) ?_
  refine lv_lconst (v := 1) F.1 F.2.1 dX4_next_4 (by decide) ?_
  refine x_ri (va_runS (As := [.long x.toInt64, .long 0, .long 1]) (rest := [.ref (bH B)]) F (c_X4_isIn l G cI cJ cZ cO (Array.size _) x.toInt64 0 1) (va_cwS 3 F.2.2.2.2 gX4_next_X4_isIn rfl rfl rfl (by decide +kernel) ⟨Nat.le_of_ble_eq_true rfl, Nat.le_of_ble_eq_true rfl⟩) (x_preSW hw [] rfl (by decide)) rfl rfl hl.1 rfl (lv_room (Nat.le_of_ble_eq_true rfl)) dX4_next_5 ⟨Nat.le_of_ble_eq_true rfl, Nat.le_of_ble_eq_true rfl⟩) (fun r5 hr5 => ?_)
  refine lv_if_eq (tgt := 15) F.1 F.2.1 dX4_next_8 (by decide) (fun c8 => ?_) (fun c8 => ?_)
  · refine lv_iconst (v := 1) F.1 F.2.1 dX4_next_15 (by decide) ?_
    refine x_wi (wr := []) (va_runV (As := [.int 1]) (rest := []) F (c_X4_isGood l G cI cJ cZ cO (Array.size _) B v 1) (cwV 1 F.2.2.2.2 gX4_next_X4_isGood rfl rfl rfl (by decide +kernel) ⟨Nat.le_of_ble_eq_true rfl, Nat.le_of_ble_eq_true rfl⟩) (x_preVW hw [0, 1, 2, 3, 4, 5, 6, 7, 8, 9, 10, 11, 12, 13, 14, 15] rfl (by decide) 0 rfl rfl) rfl rfl hl.1 rfl (lv_room (Nat.le_of_ble_eq_true rfl)) dX4_next_16 ⟨Nat.le_of_ble_eq_true rfl, Nat.le_of_ble_eq_true rfl⟩) hw [0, 1, 2, 3, 4, 5, 6, 7, 8, 9, 10, 11, 12, 13, 14, 15] [] rfl rfl (by decide) (by decide) (fun r9 u8 H locs hu9 hw => ?_)
    have hw : xW G (xK cI cJ cZ cO) _ s.heap s [(bH B, .inr (4, [.int (mCode u8), .ref (bW B), .ref (bIt B), .ref (bCk B), .ref (bNu B), .ref (bKe B), .ref (bTi B), .ref (bGa B), .ref (bOf B), .ref (bNw B), .ref (bCn B), .int (nI (mKp u8)), .int (nI (mDn u8)), .ref (bDk B), .ref (bDu B), .ref (bDe B), .ref (bDt B), .ref (bDo B)])), (bW B, .inl (cI, 4, .inl (fun j9 => nI (mW u8 j9)))), (bIt B, .inl (cZ, 320, .inl (mIt u8))), (bCk B, .inl (cI, 320, .inl (mCk u8))), (bNu B, .inl (cI, 320, .inl (mNu u8))), (bKe B, .inl (cJ, 320, .inr (.inl (mKe u8)))), (bTi B, .inl (cJ, 320, .inr (.inl (mTi u8)))), (bGa B, .inl (cJ, 320, .inr (.inl (mGa u8)))), (bOf B, .inl (cI, 320, .inl (mOf u8))), (bNw B, .inl (cJ, 8, .inr (.inl (mNw u8)))), (bCn B, .inl (cI, 16, .inl (mCn u8))), (bDk B, .inl (cI, 4000, .inl (mDk u8))), (bDu B, .inl (cI, 4000, .inl (mDu u8))), (bDe B, .inl (cJ, 4000, .inr (.inl (mDe u8)))), (bDt B, .inl (cJ, 4000, .inr (.inl (mDt u8)))), (bDo B, .inl (cI, 4000, .inl (mDo u8)))] H _ := hw
    obtain ⟨hu9, hr9⟩ := hu9
    subst hu9
    have hr9 := hr9.trans (if_neg (by decide))
    subst hr9
    refine lv_if_ne (tgt := 24) F.1 F.2.1 dX4_next_19 (by decide) (fun c19 => ?_) (fun c19 => ?_)
    · exact (c19 (by decide)).elim
    refine lv_iconst (v := 0) F.1 F.2.1 dX4_next_22 (by decide) ?_
    exact x_iret (f := fun u9 : MR => wMo cI cJ cZ B u9) (mCode (mSetC v 1), (mW (mSetC v 1)), (mIt (mSetC v 1)), (mCk (mSetC v 1)), (mNu (mSetC v 1)), (mKe (mSetC v 1)), (mTi (mSetC v 1)), (mGa (mSetC v 1)), (mOf (mSetC v 1)), (mNw (mSetC v 1)), (mCn (mSetC v 1)), mKp (mSetC v 1), mDn (mSetC v 1), (mDk (mSetC v 1)), (mDu (mSetC v 1)), (mDe (mSetC v 1)), (mDt (mSetC v 1)), (mDo (mSetC v 1))) F hr hlk hw (Or.inl ⟨if_z hr5 c8, rfl⟩) dX4_next_23
  · refine lv_iconst (v := 0) F.1 F.2.1 dX4_next_11 (by decide) ?_
    refine lv_goto (tgt := 16) F.1 F.2.1 dX4_next_12 (by decide) ?_
    refine x_wi (wr := []) (va_runV (As := [.int 0]) (rest := []) F (c_X4_isGood l G cI cJ cZ cO (Array.size _) B v 0) (cwV 1 F.2.2.2.2 gX4_next_X4_isGood rfl rfl rfl (by decide +kernel) ⟨Nat.le_of_ble_eq_true rfl, Nat.le_of_ble_eq_true rfl⟩) (x_preVW hw [0, 1, 2, 3, 4, 5, 6, 7, 8, 9, 10, 11, 12, 13, 14, 15] rfl (by decide) 0 rfl rfl) rfl rfl hl.1 rfl (lv_room (Nat.le_of_ble_eq_true rfl)) dX4_next_16 ⟨Nat.le_of_ble_eq_true rfl, Nat.le_of_ble_eq_true rfl⟩) hw [0, 1, 2, 3, 4, 5, 6, 7, 8, 9, 10, 11, 12, 13, 14, 15] [] rfl rfl (by decide) (by decide) (fun r9 u8 H locs hu9 hw => ?_)
    have hw : xW G (xK cI cJ cZ cO) _ s.heap s [(bH B, .inr (4, [.int (mCode u8), .ref (bW B), .ref (bIt B), .ref (bCk B), .ref (bNu B), .ref (bKe B), .ref (bTi B), .ref (bGa B), .ref (bOf B), .ref (bNw B), .ref (bCn B), .int (nI (mKp u8)), .int (nI (mDn u8)), .ref (bDk B), .ref (bDu B), .ref (bDe B), .ref (bDt B), .ref (bDo B)])), (bW B, .inl (cI, 4, .inl (fun j9 => nI (mW u8 j9)))), (bIt B, .inl (cZ, 320, .inl (mIt u8))), (bCk B, .inl (cI, 320, .inl (mCk u8))), (bNu B, .inl (cI, 320, .inl (mNu u8))), (bKe B, .inl (cJ, 320, .inr (.inl (mKe u8)))), (bTi B, .inl (cJ, 320, .inr (.inl (mTi u8)))), (bGa B, .inl (cJ, 320, .inr (.inl (mGa u8)))), (bOf B, .inl (cI, 320, .inl (mOf u8))), (bNw B, .inl (cJ, 8, .inr (.inl (mNw u8)))), (bCn B, .inl (cI, 16, .inl (mCn u8))), (bDk B, .inl (cI, 4000, .inl (mDk u8))), (bDu B, .inl (cI, 4000, .inl (mDu u8))), (bDe B, .inl (cJ, 4000, .inr (.inl (mDe u8)))), (bDt B, .inl (cJ, 4000, .inr (.inl (mDt u8)))), (bDo B, .inl (cI, 4000, .inl (mDo u8)))] H _ := hw
    obtain ⟨hu9, hr9⟩ := hu9
    subst hu9
    have hr9 := hr9.trans (if_pos rfl)
    subst hr9
    refine lv_if_ne (tgt := 24) F.1 F.2.1 dX4_next_19 (by decide) (fun c19 => ?_) (fun c19 => ?_)
    rotate_left
    · exact absurd c19 (by decide)
    refine lv_aload_n F.1 F.2.1 dX4_next_24 rfl (lv_at hl 0 rfl) ?_
    refine lv_iload_n F.1 F.2.1 dX4_next_25 rfl (lv_at hl 1 rfl) ?_
    refine lv_iconst (v := 1) F.1 F.2.1 dX4_next_26 (by decide) ?_
    refine lv_ldc2 (v := 4000000000000) F.1 F.2.1 F.2.2.2.1 (F.2.2.2.2 _ (List.mem_of_getElem? (i := 1) rfl)) dX4_next_27 ?_
    refine x_ri (va_runV (As := [.int x, .int 1, .long 4000000000000]) (rest := []) F (c_X4_leastOf l G cI cJ cZ cO (Array.size H) B (mSetC v 0) x 1 4000000000000 hw0) (cwV 3 F.2.2.2.2 gX4_next_X4_leastOf rfl rfl rfl (by decide +kernel) ⟨Nat.le_of_ble_eq_true rfl, Nat.le_of_ble_eq_true rfl⟩) (x_preVW hw [0, 1, 2, 3, 4, 5, 6, 7, 8, 9, 10, 11, 12, 13, 14, 15] rfl (by decide) 0 rfl rfl) rfl rfl hl.1 rfl (lv_room (Nat.le_of_ble_eq_true rfl)) dX4_next_30 ⟨Nat.le_of_ble_eq_true rfl, Nat.le_of_ble_eq_true rfl⟩) (fun r30 hr30 => ?_)
    have hr30 : r30 = bI (mLeast v x 1 4000000000000 (mW v 0)) := hr30.trans (congrArg bI (mLeast_code v 0 x 1 4000000000000 _))
    refine lv_istore_n (lv' := [(2, .int r30), (0, .ref (bH B)), (1, .int x)]) F.1 F.2.1 dX4_next_33 rfl hl (by decide) rfl (fun ls hl => ?_)
    refine lv_iload_n F.1 F.2.1 dX4_next_34 rfl (lv_at hl 0 rfl) ?_
    refine lv_if_ge (tgt := 42) F.1 F.2.1 dX4_next_35 (by decide) (fun c35 => ?_) (fun c35 => ?_)
    · obtain ⟨k9, ho⟩ := bI_some (o := mLeast v x 1 4000000000000 (mW v 0)) (by rw [← hr30]; exact Int32.not_lt.mpr c35)
      have hk9 := mLeast_lt ho
      rw [ho] at hr30
      have hr30 : r30 = nI k9 := hr30
      subst hr30
      refine lv_aload_n F.1 F.2.1 dX4_next_42 rfl (lv_at hl 1 rfl) ?_
      refine x_get F hw iX4 0 rfl rfl 4 (by decide) rfl (List.mem_of_getElem? (i := 2) rfl) rfl dX4_next_43 ?_
      refine lv_iload_n F.1 F.2.1 dX4_next_46 rfl (lv_at hl 0 rfl) ?_
      refine x_ialdN F hw 4 0 rfl rfl k9 rfl (by omega) (by decide) dX4_next_47 ?_
      exact x_iret (f := fun u9 : MR => wMo cI cJ cZ B u9) (mCode (mSetC v 0), (mW (mSetC v 0)), (mIt (mSetC v 0)), (mCk (mSetC v 0)), (mNu (mSetC v 0)), (mKe (mSetC v 0)), (mTi (mSetC v 0)), (mGa (mSetC v 0)), (mOf (mSetC v 0)), (mNw (mSetC v 0)), (mCn (mSetC v 0)), mKp (mSetC v 0), mDn (mSetC v 0), (mDk (mSetC v 0)), (mDu (mSetC v 0)), (mDe (mSetC v 0)), (mDt (mSetC v 0)), (mDo (mSetC v 0))) F hr hlk hw (Or.inr ⟨if_nz hr5 c8, rfl, by rw [ho] <;> rfl⟩) dX4_next_48
    · have ho : mLeast v x 1 4000000000000 (mW v 0) = none := bI_none (by rw [← hr30]; exact Int32.not_le.mp c35) (fun k hk => by have h9 := mLeast_lt hk; omega)
      refine lv_iconst (v := (-1)) F.1 F.2.1 dX4_next_38 (by decide) ?_
      refine lv_goto (tgt := 48) F.1 F.2.1 dX4_next_39 (by decide) ?_
      exact x_iret (f := fun u9 : MR => wMo cI cJ cZ B u9) (mCode (mSetC v 0), (mW (mSetC v 0)), (mIt (mSetC v 0)), (mCk (mSetC v 0)), (mNu (mSetC v 0)), (mKe (mSetC v 0)), (mTi (mSetC v 0)), (mGa (mSetC v 0)), (mOf (mSetC v 0)), (mNw (mSetC v 0)), (mCn (mSetC v 0)), mKp (mSetC v 0), mDn (mSetC v 0), (mDk (mSetC v 0)), (mDu (mSetC v 0)), (mDe (mSetC v 0)), (mDt (mSetC v 0)), (mDo (mSetC v 0))) F hr hlk hw (Or.inr ⟨if_nz hr5 c8, rfl, by rw [ho] <;> rfl⟩) dX4_next_48
