theorem pass_bad {tr : TrR} {kp : List (StA × StR)} {v : MR} {B : Nat} {x : Int32} {t : Int64} (h : LRel tr kp v B) (hbad : ¬ (cClk x ∧ gTim t ∧ ¬ t < sNw (tX tr) x.toNatClampNeg)) : ¬ (gClk x ∧ gTim t ∧ mNw v x.toNatClampNeg ≤ t) := by
  have hb := h.2.2.1
  have hnw : x = 0 ∨ x = 1 → sNw (tX tr) x.toNatClampNeg = mNw v x.toNatClampNeg := fun q => by
    rcases q with e | e <;> subst e
    · exact hb.2.1
    · exact hb.2.2.1
  rintro ⟨h1, h2, h3⟩
  have hx := clk_of h1
  rw [← hnw hx] at h3
  exact hbad ⟨(cclk_iff x).mpr h1, h2, Int64.not_lt.mpr h3⟩
theorem op_passB {tr : TrR} {kp : List (StA × StR)} {v u2 : MR} {B : Nat} {of9 : Nat → Int64} {r9 r : Int32} {w2 : TrR × (Nat → Int64)} (h : LRel tr kp v B)
    (hc : (r9 = 0 ∧ ∃ v1 : Int32, False ∧ w2.2 0 = v1.toInt64) ∨ (r9 = 1 ∧ w2 = (tr, of9) ∧ True)) (hm : u2 = mSetC v 1) : mCode u2 = r9 ∧ (r9 = 0 → w2.2 0 = r.toInt64) ∧ LRel w2.1 kp u2 B := by
  rcases hc with ⟨-, v1, h0, -⟩ | ⟨rfl, rfl, -⟩
  · exact h0.elim
  · subst hm
    exact ⟨rfl, fun q => absurd q (by decide), h.setC 1⟩

set_option maxHeartbeats 8000000 in
set_option maxRecDepth 100000 in
theorem lc_passA {p : Program} {l : Launch} {e : Env} {s : State} {m : MethodId} {below : List Frame} {meth : Method} {c : Code} {G : va_G} {cI cJ cZ cO : ClassId} {b L oa : Nat} {xs : Nat → Int32} {K : TrA} {M : MA} {k kc ks : Nat} {tr : TrR} {kp : List (StA × StR)} {v : MR} {of9 : Nat → Int64} {H : Heap} {locs : List Loc} {ls : Array Slot}  (F : CallFix p m c cL_law 8 s #[Value.ref b] wsL_law RL) (hst : l.stackTraces = false) (hE : xEn (fun q => s.heap.size ≤ q) s s.heap) (hX : va_X b L xs s s.heap) (hbl : b < s.heap.size) (hL : L ≤ 4608) (hk : 9 * k + 9 ≤ L) (nx : lwN p l e s m below meth c G cI cJ cZ cO b oa K M (k + 1)) (hkc : kc = 1000 + 60 * k + (gL (tG tr) - 65)) (hks : ks = 40000 + 11000 * k + 10 * (gL (tG tr) - 65)) (hR : LRel tr kp v (2081 * k)) (hw : xW G (xK cI cJ cZ cO) (fun q => s.heap.size ≤ q) s.heap s ([(oa, .inl (cJ, 1, .inr (.inl of9)))] ++ (wTr cI cJ cO K tr ++ (wPl cI cJ kp ++ wMo cI cJ cZ M v))) H locs) (hl : lv_has ls 8 [(0, .ref b), (1, .ref (tH K)), (2, .ref (bH M)), (3, .ref oa), (4, .int (nI (9 * k)))]) (hgo : cClk (xs ((9 * k) + 1)) ∧ gTim (lJ (xs ((9 * k) + 2)) (xs ((9 * k) + 3))) ∧ ¬ (lJ (xs ((9 * k) + 2)) (xs ((9 * k) + 3))) < sNw (tX tr) ((xs ((9 * k) + 1))).toNatClampNeg) :
    W p l e room_1 s m #[Value.ref b] below meth c H locs kc ks (lw_Z below #[Value.ref b] s) (F0 m 644 ls []) := by
  have hg5 : 65 ≤ gL (tG tr) ∧ gL (tG tr) ≤ 2080 := by
    have h := hR.1.2.1
    unfold gLok at h
    omega
  have hx9 := cclk_of hgo.1
  obtain ⟨N, hN1, hN2, hN3, hN4⟩ := pass_N hR (by omega) hx9 hgo.2.1
  have hgg := gGr_le (gL (tG tr)) N
  have hgm : gL (tG tr) ≤ gGr N (gL (tG tr)) := gGr_mono (gL (tG tr)) (n := 0) (Nat.zero_le _)
  refine lv_aload_n F.1 F.2.1 dL_law_644 rfl (lv_at hl 1 rfl) ?_
  refine lv_aload_n F.1 F.2.1 dL_law_645 rfl (lv_at hl 0 rfl) ?_
  refine lv_iload F.1 F.2.1 dL_law_646 (lv_at hl 4 rfl) ?_
  refine lv_iconst (v := 1) F.1 F.2.1 dL_law_648 (by decide) ?_
  refine lv_iadd F.1 F.2.1 dL_law_649 ?_
  refine x_topi (v := nI ((9 * k) + 1)) ((nI_add (9 * k) 1).symm) ?_
  refine x_sldN F hX hbl hw ((9 * k) + 1) rfl (by omega) (by omega) dL_law_650 ?_
  refine lv_aload_n F.1 F.2.1 dL_law_651 rfl (lv_at hl 0 rfl) ?_
  refine lv_iload F.1 F.2.1 dL_law_652 (lv_at hl 4 rfl) ?_
  refine lv_iconst (v := 2) F.1 F.2.1 dL_law_654 (by decide) ?_
  refine lv_iadd F.1 F.2.1 dL_law_655 ?_
  refine x_topi (v := nI ((9 * k) + 2)) ((nI_add (9 * k) 2).symm) ?_
  refine x_sldN F hX hbl hw ((9 * k) + 2) rfl (by omega) (by omega) dL_law_656 ?_
  refine lv_i2l (v := (xs ((9 * k) + 2)).toInt64) F.1 F.2.1 dL_law_657 (rfl) ?_
  refine lv_bipush (v := 32) F.1 F.2.1 dL_law_658 (by decide) ?_
  refine lv_lshl (v := ((xs ((9 * k) + 2)).toInt64) <<< ((32 : Int32).toInt64 &&& 63)) F.1 F.2.1 dL_law_660 rfl ?_
  refine lv_aload_n F.1 F.2.1 dL_law_661 rfl (lv_at hl 0 rfl) ?_
  refine lv_iload F.1 F.2.1 dL_law_662 (lv_at hl 4 rfl) ?_
  refine lv_iconst (v := 3) F.1 F.2.1 dL_law_664 (by decide) ?_
  refine lv_iadd F.1 F.2.1 dL_law_665 ?_
  refine x_topi (v := nI ((9 * k) + 3)) ((nI_add (9 * k) 3).symm) ?_
  refine x_sldN F hX hbl hw ((9 * k) + 3) rfl (by omega) (by omega) dL_law_666 ?_
  refine lv_i2l (v := (xs ((9 * k) + 3)).toInt64) F.1 F.2.1 dL_law_667 (rfl) ?_
  refine lv_ldc2 (v := 4294967295) F.1 F.2.1 F.2.2.2.1 (F.2.2.2.2 _ (List.mem_of_getElem? (i := 7) rfl)) dL_law_668 ?_
  refine lv_land F.1 F.2.1 dL_law_671 ?_
  refine lv_lor F.1 F.2.1 dL_law_672 ?_
  refine x_topj (v := lJ (xs ((9 * k) + 2)) (xs ((9 * k) + 3))) rfl ?_
  refine lv_aload_n F.1 F.2.1 dL_law_673 rfl (lv_at hl 3 rfl) ?_
  refine lw_S (As := [.ref (tH K), .int (xs ((9 * k) + 1)), .long (lJ (xs ((9 * k) + 2)) (xs ((9 * k) + 3))), .ref oa]) (rest := []) (wPl cI cJ kp ++ wMo cI cJ cZ M v) F hw hE (q_1 _ _ _ _) (c_L_pass l G cI cJ cZ cO _ hst K tr (xs ((9 * k) + 1)) (lJ (xs ((9 * k) + 2)) (xs ((9 * k) + 3))) N hR.1 hN3 oa of9) (vx_cwSW 4 F.2.2.2.2 gL_law_L_pass rfl rfl rfl (by decide +kernel) ⟨Nat.le_of_ble_eq_true rfl, Nat.le_of_ble_eq_true rfl⟩) rfl hl.1 rfl (lv_room (Nat.le_of_ble_eq_true rfl)) dL_law_674 ⟨by show kc + (8 + (gGr N (gL (tG tr)) - gL (tG tr))) ≤ 601024; omega, by show ks + (10418 + 10 * (gGr N (gL (tG tr)) - gL (tG tr))) ≤ 7293034; omega⟩ (fun r9 w2 H locs hc hw => ?_)
  refine lv_istore (lv' := [(5, .int r9), (0, .ref b), (1, .ref (tH K)), (2, .ref (bH M)), (3, .ref oa), (4, .int (nI (9 * k)))]) F.1 F.2.1 dL_law_677 hl (by decide) rfl (fun ls hl => ?_)
  refine lv_aload_n F.1 F.2.1 dL_law_679 rfl (lv_at hl 3 rfl) ?_
  refine lv_aload_n F.1 F.2.1 dL_law_680 rfl (lv_at hl 1 rfl) ?_
  refine lv_iload F.1 F.2.1 dL_law_681 (lv_at hl 5 rfl) ?_
  refine lv_iconst (v := 1) F.1 F.2.1 dL_law_683 (by decide) ?_
  refine lv_iadd F.1 F.2.1 dL_law_684 ?_
  refine x_topi (v := nI ((9 * k) + 1)) ((nI_add (9 * k) 1).symm) ?_
  refine x_sldN F hX hbl hw ((9 * k) + 1) rfl (by omega) (by omega) dL_law_685 ?_
  refine lv_aload_n F.1 F.2.1 dL_law_686 rfl (lv_at hl 1 rfl) ?_
  refine lv_iload F.1 F.2.1 dL_law_687 (lv_at hl 5 rfl) ?_
  refine lv_iconst (v := 2) F.1 F.2.1 dL_law_689 (by decide) ?_
  refine lv_iadd F.1 F.2.1 dL_law_690 ?_
  refine x_topi (v := nI ((9 * k) + 2)) ((nI_add (9 * k) 2).symm) ?_
  refine x_sldN F hX hbl hw ((9 * k) + 2) rfl (by omega) (by omega) dL_law_691 ?_
  refine lv_i2l (v := (xs ((9 * k) + 2)).toInt64) F.1 F.2.1 dL_law_692 (rfl) ?_
  refine lv_bipush (v := 32) F.1 F.2.1 dL_law_693 (by decide) ?_
  refine lv_lshl (v := ((xs ((9 * k) + 2)).toInt64) <<< ((32 : Int32).toInt64 &&& 63)) F.1 F.2.1 dL_law_695 rfl ?_
  refine lv_aload_n F.1 F.2.1 dL_law_696 rfl (lv_at hl 1 rfl) ?_
  refine lv_iload F.1 F.2.1 dL_law_697 (lv_at hl 5 rfl) ?_
  refine lv_iconst (v := 3) F.1 F.2.1 dL_law_699 (by decide) ?_
  refine lv_iadd F.1 F.2.1 dL_law_700 ?_
  refine x_topi (v := nI ((9 * k) + 3)) ((nI_add (9 * k) 3).symm) ?_
  refine x_sldN F hX hbl hw ((9 * k) + 3) rfl (by omega) (by omega) dL_law_701 ?_
  refine lv_i2l (v := (xs ((9 * k) + 3)).toInt64) F.1 F.2.1 dL_law_702 (rfl) ?_
  refine lv_ldc2 (v := 4294967295) F.1 F.2.1 F.2.2.2.1 (F.2.2.2.2 _ (List.mem_of_getElem? (i := 7) rfl)) dL_law_703 ?_
  refine lv_land F.1 F.2.1 dL_law_706 ?_
  refine lv_lor F.1 F.2.1 dL_law_707 ?_
  refine x_topj (v := lJ (xs ((9 * k) + 2)) (xs ((9 * k) + 3))) rfl ?_
  refine lw_V (As := [.int (xs ((9 * k) + 1)), .long (lJ (xs ((9 * k) + 2)) (xs ((9 * k) + 3)))]) (rest := []) ([(oa, .inl (cJ, 1, .inr (.inl w2.2)))] ++ (wTr cI cJ cO K w2.1 ++ wPl cI cJ kp)) F hw (q_2 _ _ _ _) (c_X4_pass l G cI cJ cZ cO _ M v (xs ((9 * k) + 1)) (lJ (xs ((9 * k) + 2)) (xs ((9 * k) + 3))) N hR.2.2.2.2.1 (hR.2.2.2.2.2.1 0 (by decide)) (by omega) (fun _ => hN2)) (cwV 2 F.2.2.2.2 gL_law_X4_pass rfl rfl rfl (by decide +kernel) ⟨Nat.le_of_ble_eq_true rfl, Nat.le_of_ble_eq_true rfl⟩) rfl rfl rfl hl.1 rfl (lv_room (Nat.le_of_ble_eq_true rfl)) dL_law_708 ⟨by show kc + (8 + (gGr N (gL (tG tr)) - gL (tG tr))) ≤ 601024; omega, by show ks + (10418 + 10 * (gGr N (gL (tG tr)) - gL (tG tr))) ≤ 7293034; omega⟩ (fun r6 u2 H locs hm hw => ?_)
  obtain ⟨hcd, hv0, hR2, hg9⟩ := op_pass hR (fun _ _ => hN4) hc hm (by rw [mRun_code]; rfl)
  refine lv_istore (lv' := [(6, .int r6), (5, .int r9), (0, .ref b), (1, .ref (tH K)), (2, .ref (bH M)), (3, .ref oa), (4, .int (nI (9 * k)))]) F.1 F.2.1 dL_law_711 hl (by decide) rfl (fun ls hl => ?_)
  refine lv_aload_n F.1 F.2.1 dL_law_713 rfl (lv_at hl 4 rfl) ?_
  refine lw_T (As := []) (rest := []) ([(oa, .inl (cJ, 1, .inr (.inl w2.2)))] ++ (wTr cI cJ cO K w2.1 ++ wPl cI cJ kp)) F hw (q_3 _ _) (c_X4_thrown l G cI cJ cZ cO _ M u2) (cwV 0 F.2.2.2.2 gL_law_X4_thrown rfl rfl rfl (by decide +kernel) ⟨Nat.le_of_ble_eq_true rfl, Nat.le_of_ble_eq_true rfl⟩) rfl rfl rfl hl.1 rfl (lv_room (Nat.le_of_ble_eq_true rfl)) dL_law_714 ⟨by show kc + (8 + (gGr N (gL (tG tr)) - gL (tG tr))) ≤ 601024; omega, by show ks + (10418 + 10 * (gGr N (gL (tG tr)) - gL (tG tr))) ≤ 7293034; omega⟩ (fun rt ht => ?_)
  refine lv_iload F.1 F.2.1 dL_law_717 (lv_at hl 1 rfl) ?_
  refine lv_icmp_eq (tgt := 724) F.1 F.2.1 dL_law_719 (by decide) (fun c719 => ?_) (fun c719 => ?_)
  rotate_left
  · exact (c719 (ht.trans hcd)).elim
  have hgl : gL (tG w2.1) = gGr N (gL (tG tr)) := by
    rcases hc with ⟨-, v1, ⟨-, -, n, h1, h2⟩, -⟩ | ⟨-, -, h⟩
    · exact (hN4 n _ h1 h2).2.2.1
    · exact absurd hgo h
  clear hc hm hN4
  refine lv_iload F.1 F.2.1 dL_law_724 (lv_at hl 1 rfl) ?_
  refine lv_if_ne (tgt := 741) F.1 F.2.1 dL_law_726 (by decide) (fun c726 => ?_) (fun c726 => ?_)
  · refine lv_goto (tgt := 1549) F.1 F.2.1 dL_law_741 (by decide) ?_
    refine lv_iinc (v := nI (9 * (k + 1))) (lv' := [(4, .int (nI (9 * (k + 1)))), (6, .int r6), (5, .int r9), (0, .ref b), (1, .ref (tH K)), (2, .ref (bH M)), (3, .ref oa)]) F.1 F.2.1 dL_law_1549 hl (k := 6) rfl (by rw [show Int32.ofInt 9 = nI 9 from rfl, nI_add, Nat.mul_succ]) (by decide) rfl (fun ls hl => ?_)
    refine lv_goto (tgt := 23) F.1 F.2.1 dL_law_1552 (by decide) ?_
    refine W.widen (k := 1000 + 60 * (k + 1) + (gL (tG w2.1) - 65)) (n := 40000 + 11000 * (k + 1) + 10 * (gL (tG w2.1) - 65)) (by omega) (by omega) ?_
    exact nx w2.1 kp u2 w2.2 H _ ls (hR2.up (by omega)) (pm_w hw (q_4 _ _ _ _)) (lv_sub hl [3, 4, 5, 6, 0] rfl)
  · refine lv_aload_n F.1 F.2.1 dL_law_729 rfl (lv_at hl 5 rfl) ?_
    refine lv_iconst (v := 0) F.1 F.2.1 dL_law_730 (by decide) ?_
    refine x_laldN F hw 0 1 rfl rfl 0 rfl (by decide) (by decide) dL_law_731 ?_
    refine lv_iload F.1 F.2.1 dL_law_732 (lv_at hl 0 rfl) ?_
    refine lv_i2l (v := r6.toInt64) F.1 F.2.1 dL_law_734 (rfl) ?_
    refine x_l_eq (tgt := 741) F dL_law_735 dL_law_736 (by decide) (fun c735 => ?_) (fun c735 => ?_)
    rotate_left
    · exact (c735 (hv0 c726)).elim
    refine lv_goto (tgt := 1549) F.1 F.2.1 dL_law_741 (by decide) ?_
    refine lv_iinc (v := nI (9 * (k + 1))) (lv' := [(4, .int (nI (9 * (k + 1)))), (6, .int r6), (5, .int r9), (0, .ref b), (1, .ref (tH K)), (2, .ref (bH M)), (3, .ref oa)]) F.1 F.2.1 dL_law_1549 hl (k := 6) rfl (by rw [show Int32.ofInt 9 = nI 9 from rfl, nI_add, Nat.mul_succ]) (by decide) rfl (fun ls hl => ?_)
    refine lv_goto (tgt := 23) F.1 F.2.1 dL_law_1552 (by decide) ?_
    refine W.widen (k := 1000 + 60 * (k + 1) + (gL (tG w2.1) - 65)) (n := 40000 + 11000 * (k + 1) + 10 * (gL (tG w2.1) - 65)) (by omega) (by omega) ?_
    exact nx w2.1 kp u2 w2.2 H _ ls (hR2.up (by omega)) (pm_w hw (q_4 _ _ _ _)) (lv_sub hl [3, 4, 5, 6, 0] rfl)

set_option maxHeartbeats 8000000 in
set_option maxRecDepth 100000 in
theorem lc_passB {p : Program} {l : Launch} {e : Env} {s : State} {m : MethodId} {below : List Frame} {meth : Method} {c : Code} {G : va_G} {cI cJ cZ cO : ClassId} {b L oa : Nat} {xs : Nat → Int32} {K : TrA} {M : MA} {k kc ks : Nat} {tr : TrR} {kp : List (StA × StR)} {v : MR} {of9 : Nat → Int64} {H : Heap} {locs : List Loc} {ls : Array Slot}  (F : CallFix p m c cL_law 8 s #[Value.ref b] wsL_law RL) (hst : l.stackTraces = false) (hE : xEn (fun q => s.heap.size ≤ q) s s.heap) (hX : va_X b L xs s s.heap) (hbl : b < s.heap.size) (hL : L ≤ 4608) (hk : 9 * k + 9 ≤ L) (nx : lwN p l e s m below meth c G cI cJ cZ cO b oa K M (k + 1)) (hkc : kc = 1000 + 60 * k + (gL (tG tr) - 65)) (hks : ks = 40000 + 11000 * k + 10 * (gL (tG tr) - 65)) (hR : LRel tr kp v (2081 * k)) (hw : xW G (xK cI cJ cZ cO) (fun q => s.heap.size ≤ q) s.heap s ([(oa, .inl (cJ, 1, .inr (.inl of9)))] ++ (wTr cI cJ cO K tr ++ (wPl cI cJ kp ++ wMo cI cJ cZ M v))) H locs) (hl : lv_has ls 8 [(0, .ref b), (1, .ref (tH K)), (2, .ref (bH M)), (3, .ref oa), (4, .int (nI (9 * k)))]) (hbad : ¬ (cClk (xs ((9 * k) + 1)) ∧ gTim (lJ (xs ((9 * k) + 2)) (xs ((9 * k) + 3))) ∧ ¬ (lJ (xs ((9 * k) + 2)) (xs ((9 * k) + 3))) < sNw (tX tr) ((xs ((9 * k) + 1))).toNatClampNeg)) :
    W p l e room_1 s m #[Value.ref b] below meth c H locs kc ks (lw_Z below #[Value.ref b] s) (F0 m 644 ls []) := by
  have hg5 : 65 ≤ gL (tG tr) ∧ gL (tG tr) ≤ 2080 := by
    have h := hR.1.2.1
    unfold gLok at h
    omega
  refine lv_aload_n F.1 F.2.1 dL_law_644 rfl (lv_at hl 1 rfl) ?_
  refine lv_aload_n F.1 F.2.1 dL_law_645 rfl (lv_at hl 0 rfl) ?_
  refine lv_iload F.1 F.2.1 dL_law_646 (lv_at hl 4 rfl) ?_
  refine lv_iconst (v := 1) F.1 F.2.1 dL_law_648 (by decide) ?_
  refine lv_iadd F.1 F.2.1 dL_law_649 ?_
  refine x_topi (v := nI ((9 * k) + 1)) ((nI_add (9 * k) 1).symm) ?_
  refine x_sldN F hX hbl hw ((9 * k) + 1) rfl (by omega) (by omega) dL_law_650 ?_
  refine lv_aload_n F.1 F.2.1 dL_law_651 rfl (lv_at hl 0 rfl) ?_
  refine lv_iload F.1 F.2.1 dL_law_652 (lv_at hl 4 rfl) ?_
  refine lv_iconst (v := 2) F.1 F.2.1 dL_law_654 (by decide) ?_
  refine lv_iadd F.1 F.2.1 dL_law_655 ?_
  refine x_topi (v := nI ((9 * k) + 2)) ((nI_add (9 * k) 2).symm) ?_
  refine x_sldN F hX hbl hw ((9 * k) + 2) rfl (by omega) (by omega) dL_law_656 ?_
  refine lv_i2l (v := (xs ((9 * k) + 2)).toInt64) F.1 F.2.1 dL_law_657 (rfl) ?_
  refine lv_bipush (v := 32) F.1 F.2.1 dL_law_658 (by decide) ?_
  refine lv_lshl (v := ((xs ((9 * k) + 2)).toInt64) <<< ((32 : Int32).toInt64 &&& 63)) F.1 F.2.1 dL_law_660 rfl ?_
  refine lv_aload_n F.1 F.2.1 dL_law_661 rfl (lv_at hl 0 rfl) ?_
  refine lv_iload F.1 F.2.1 dL_law_662 (lv_at hl 4 rfl) ?_
  refine lv_iconst (v := 3) F.1 F.2.1 dL_law_664 (by decide) ?_
  refine lv_iadd F.1 F.2.1 dL_law_665 ?_
  refine x_topi (v := nI ((9 * k) + 3)) ((nI_add (9 * k) 3).symm) ?_
  refine x_sldN F hX hbl hw ((9 * k) + 3) rfl (by omega) (by omega) dL_law_666 ?_
  refine lv_i2l (v := (xs ((9 * k) + 3)).toInt64) F.1 F.2.1 dL_law_667 (rfl) ?_
  refine lv_ldc2 (v := 4294967295) F.1 F.2.1 F.2.2.2.1 (F.2.2.2.2 _ (List.mem_of_getElem? (i := 7) rfl)) dL_law_668 ?_
  refine lv_land F.1 F.2.1 dL_law_671 ?_
  refine lv_lor F.1 F.2.1 dL_law_672 ?_
  refine x_topj (v := lJ (xs ((9 * k) + 2)) (xs ((9 * k) + 3))) rfl ?_
  refine lv_aload_n F.1 F.2.1 dL_law_673 rfl (lv_at hl 3 rfl) ?_
  refine lw_S (As := [.ref (tH K), .int (xs ((9 * k) + 1)), .long (lJ (xs ((9 * k) + 2)) (xs ((9 * k) + 3))), .ref oa]) (rest := []) (wPl cI cJ kp ++ wMo cI cJ cZ M v) F hw hE (q_1 _ _ _ _) (c_L_passB l G cI cJ cZ cO _ hst K tr (xs ((9 * k) + 1)) (lJ (xs ((9 * k) + 2)) (xs ((9 * k) + 3))) hbad oa of9) (vx_cwSW 4 F.2.2.2.2 gL_law_L_pass rfl rfl rfl (by decide +kernel) ⟨Nat.le_of_ble_eq_true rfl, Nat.le_of_ble_eq_true rfl⟩) rfl hl.1 rfl (lv_room (Nat.le_of_ble_eq_true rfl)) dL_law_674 ⟨by show kc + 3 ≤ 601024; omega, by show ks + 18 ≤ 7293034; omega⟩ (fun r9 w2 H locs hc hw => ?_)
  refine lv_istore (lv' := [(5, .int r9), (0, .ref b), (1, .ref (tH K)), (2, .ref (bH M)), (3, .ref oa), (4, .int (nI (9 * k)))]) F.1 F.2.1 dL_law_677 hl (by decide) rfl (fun ls hl => ?_)
  refine lv_aload_n F.1 F.2.1 dL_law_679 rfl (lv_at hl 3 rfl) ?_
  refine lv_aload_n F.1 F.2.1 dL_law_680 rfl (lv_at hl 1 rfl) ?_
  refine lv_iload F.1 F.2.1 dL_law_681 (lv_at hl 5 rfl) ?_
  refine lv_iconst (v := 1) F.1 F.2.1 dL_law_683 (by decide) ?_
  refine lv_iadd F.1 F.2.1 dL_law_684 ?_
  refine x_topi (v := nI ((9 * k) + 1)) ((nI_add (9 * k) 1).symm) ?_
  refine x_sldN F hX hbl hw ((9 * k) + 1) rfl (by omega) (by omega) dL_law_685 ?_
  refine lv_aload_n F.1 F.2.1 dL_law_686 rfl (lv_at hl 1 rfl) ?_
  refine lv_iload F.1 F.2.1 dL_law_687 (lv_at hl 5 rfl) ?_
  refine lv_iconst (v := 2) F.1 F.2.1 dL_law_689 (by decide) ?_
  refine lv_iadd F.1 F.2.1 dL_law_690 ?_
  refine x_topi (v := nI ((9 * k) + 2)) ((nI_add (9 * k) 2).symm) ?_
  refine x_sldN F hX hbl hw ((9 * k) + 2) rfl (by omega) (by omega) dL_law_691 ?_
  refine lv_i2l (v := (xs ((9 * k) + 2)).toInt64) F.1 F.2.1 dL_law_692 (rfl) ?_
  refine lv_bipush (v := 32) F.1 F.2.1 dL_law_693 (by decide) ?_
  refine lv_lshl (v := ((xs ((9 * k) + 2)).toInt64) <<< ((32 : Int32).toInt64 &&& 63)) F.1 F.2.1 dL_law_695 rfl ?_
  refine lv_aload_n F.1 F.2.1 dL_law_696 rfl (lv_at hl 1 rfl) ?_
  refine lv_iload F.1 F.2.1 dL_law_697 (lv_at hl 5 rfl) ?_
  refine lv_iconst (v := 3) F.1 F.2.1 dL_law_699 (by decide) ?_
  refine lv_iadd F.1 F.2.1 dL_law_700 ?_
  refine x_topi (v := nI ((9 * k) + 3)) ((nI_add (9 * k) 3).symm) ?_
  refine x_sldN F hX hbl hw ((9 * k) + 3) rfl (by omega) (by omega) dL_law_701 ?_
  refine lv_i2l (v := (xs ((9 * k) + 3)).toInt64) F.1 F.2.1 dL_law_702 (rfl) ?_
  refine lv_ldc2 (v := 4294967295) F.1 F.2.1 F.2.2.2.1 (F.2.2.2.2 _ (List.mem_of_getElem? (i := 7) rfl)) dL_law_703 ?_
  refine lv_land F.1 F.2.1 dL_law_706 ?_
  refine lv_lor F.1 F.2.1 dL_law_707 ?_
  refine x_topj (v := lJ (xs ((9 * k) + 2)) (xs ((9 * k) + 3))) rfl ?_
  refine lw_V (As := [.int (xs ((9 * k) + 1)), .long (lJ (xs ((9 * k) + 2)) (xs ((9 * k) + 3)))]) (rest := []) ([(oa, .inl (cJ, 1, .inr (.inl w2.2)))] ++ (wTr cI cJ cO K w2.1 ++ wPl cI cJ kp)) F hw (q_2 _ _ _ _) (c_X4_passB l G cI cJ cZ cO _ M v (xs ((9 * k) + 1)) (lJ (xs ((9 * k) + 2)) (xs ((9 * k) + 3))) (pass_bad hR hbad)) (cwV 2 F.2.2.2.2 gL_law_X4_pass rfl rfl rfl (by decide +kernel) ⟨Nat.le_of_ble_eq_true rfl, Nat.le_of_ble_eq_true rfl⟩) rfl rfl rfl hl.1 rfl (lv_room (Nat.le_of_ble_eq_true rfl)) dL_law_708 ⟨by show kc + 3 ≤ 601024; omega, by show ks + 18 ≤ 7293034; omega⟩ (fun r6 u2 H locs hm hw => ?_)
  obtain ⟨hcd, hv0, hR2⟩ := op_passB (r := r6) hR hc hm
  have hgl : gL (tG w2.1) = gL (tG tr) := by rcases hc with ⟨-, _, h, -⟩ | ⟨-, h, -⟩; exact h.elim; rw [h]
  clear hc hm
  refine lv_istore (lv' := [(6, .int r6), (5, .int r9), (0, .ref b), (1, .ref (tH K)), (2, .ref (bH M)), (3, .ref oa), (4, .int (nI (9 * k)))]) F.1 F.2.1 dL_law_711 hl (by decide) rfl (fun ls hl => ?_)
  refine lv_aload_n F.1 F.2.1 dL_law_713 rfl (lv_at hl 4 rfl) ?_
  refine lw_T (As := []) (rest := []) ([(oa, .inl (cJ, 1, .inr (.inl w2.2)))] ++ (wTr cI cJ cO K w2.1 ++ wPl cI cJ kp)) F hw (q_3 _ _) (c_X4_thrown l G cI cJ cZ cO _ M u2) (cwV 0 F.2.2.2.2 gL_law_X4_thrown rfl rfl rfl (by decide +kernel) ⟨Nat.le_of_ble_eq_true rfl, Nat.le_of_ble_eq_true rfl⟩) rfl rfl rfl hl.1 rfl (lv_room (Nat.le_of_ble_eq_true rfl)) dL_law_714 ⟨by show kc + 3 ≤ 601024; omega, by show ks + 18 ≤ 7293034; omega⟩ (fun rt ht => ?_)
  refine lv_iload F.1 F.2.1 dL_law_717 (lv_at hl 1 rfl) ?_
  refine lv_icmp_eq (tgt := 724) F.1 F.2.1 dL_law_719 (by decide) (fun c719 => ?_) (fun c719 => ?_)
  rotate_left
  · exact (c719 (ht.trans hcd)).elim
  refine lv_iload F.1 F.2.1 dL_law_724 (lv_at hl 1 rfl) ?_
  refine lv_if_ne (tgt := 741) F.1 F.2.1 dL_law_726 (by decide) (fun c726 => ?_) (fun c726 => ?_)
  · refine lv_goto (tgt := 1549) F.1 F.2.1 dL_law_741 (by decide) ?_
    refine lv_iinc (v := nI (9 * (k + 1))) (lv' := [(4, .int (nI (9 * (k + 1)))), (6, .int r6), (5, .int r9), (0, .ref b), (1, .ref (tH K)), (2, .ref (bH M)), (3, .ref oa)]) F.1 F.2.1 dL_law_1549 hl (k := 6) rfl (by rw [show Int32.ofInt 9 = nI 9 from rfl, nI_add, Nat.mul_succ]) (by decide) rfl (fun ls hl => ?_)
    refine lv_goto (tgt := 23) F.1 F.2.1 dL_law_1552 (by decide) ?_
    refine W.widen (k := 1000 + 60 * (k + 1) + (gL (tG w2.1) - 65)) (n := 40000 + 11000 * (k + 1) + 10 * (gL (tG w2.1) - 65)) (by omega) (by omega) ?_
    exact nx w2.1 kp u2 w2.2 H _ ls (hR2.up (by omega)) (pm_w hw (q_4 _ _ _ _)) (lv_sub hl [3, 4, 5, 6, 0] rfl)
  · refine lv_aload_n F.1 F.2.1 dL_law_729 rfl (lv_at hl 5 rfl) ?_
    refine lv_iconst (v := 0) F.1 F.2.1 dL_law_730 (by decide) ?_
    refine x_laldN F hw 0 1 rfl rfl 0 rfl (by decide) (by decide) dL_law_731 ?_
    refine lv_iload F.1 F.2.1 dL_law_732 (lv_at hl 0 rfl) ?_
    refine lv_i2l (v := r6.toInt64) F.1 F.2.1 dL_law_734 (rfl) ?_
    refine x_l_eq (tgt := 741) F dL_law_735 dL_law_736 (by decide) (fun c735 => ?_) (fun c735 => ?_)
    rotate_left
    · exact (c735 (hv0 c726)).elim
    refine lv_goto (tgt := 1549) F.1 F.2.1 dL_law_741 (by decide) ?_
    refine lv_iinc (v := nI (9 * (k + 1))) (lv' := [(4, .int (nI (9 * (k + 1)))), (6, .int r6), (5, .int r9), (0, .ref b), (1, .ref (tH K)), (2, .ref (bH M)), (3, .ref oa)]) F.1 F.2.1 dL_law_1549 hl (k := 6) rfl (by rw [show Int32.ofInt 9 = nI 9 from rfl, nI_add, Nat.mul_succ]) (by decide) rfl (fun ls hl => ?_)
    refine lv_goto (tgt := 23) F.1 F.2.1 dL_law_1552 (by decide) ?_
    refine W.widen (k := 1000 + 60 * (k + 1) + (gL (tG w2.1) - 65)) (n := 40000 + 11000 * (k + 1) + 10 * (gL (tG w2.1) - 65)) (by omega) (by omega) ?_
    exact nx w2.1 kp u2 w2.2 H _ ls (hR2.up (by omega)) (pm_w hw (q_4 _ _ _ _)) (lv_sub hl [3, 4, 5, 6, 0] rfl)
