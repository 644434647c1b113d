set_option maxHeartbeats 8000000 in
set_option maxRecDepth 100000 in
theorem lc_row {p : Program} {l : Launch} {e : Env} {s : State} {m : MethodId} {below : List Frame} {meth : Method} {c : Code} {G : va_G} {cI cJ cZ cO : ClassId} {b L oa : Nat} {xs : Nat → Int32} {K : TrA} {M : MA} {k kc ks : Nat} {tr : TrR} {kp : List (StA × StR)} {v : MR} {of9 : Nat → Int64} {H : Heap} {locs : List Loc} {ls : Array Slot}  (F : CallFix p m c cL_law 8 s #[Value.ref b] wsL_law RL) (hst : l.stackTraces = false) (hE : xEn (fun q => s.heap.size ≤ q) s s.heap) (hX : va_X b L xs s s.heap) (hbl : b < s.heap.size) (hL : L ≤ 4608) (hk : 9 * k + 9 ≤ L) (nx : lwN p l e s m below meth c G cI cJ cZ cO b oa K M (k + 1)) (hkc : kc = 1000 + 60 * k + (gL (tG tr) - 65)) (hks : ks = 40000 + 11000 * k + 10 * (gL (tG tr) - 65)) (hR : LRel tr kp v (2081 * k)) (hw : xW G (xK cI cJ cZ cO) (fun q => s.heap.size ≤ q) s.heap s ([(oa, .inl (cJ, 1, .inr (.inl of9)))] ++ (wTr cI cJ cO K tr ++ (wPl cI cJ kp ++ wMo cI cJ cZ M v))) H locs) (hl : lv_has ls 8 [(0, .ref b), (1, .ref (tH K)), (2, .ref (bH M)), (3, .ref oa), (4, .int (nI (9 * k)))]) :
    W p l e room_1 s m #[Value.ref b] below meth c H locs kc ks (lw_Z below #[Value.ref b] s) (F0 m 471 ls []) := by
  have hg5 : 65 ≤ gL (tG tr) ∧ gL (tG tr) ≤ 2080 := by
    have h := hR.1.2.1
    unfold gLok at h
    omega
  refine lv_aload_n F.1 F.2.1 dL_law_471 rfl (lv_at hl 1 rfl) ?_
  refine lv_aload_n F.1 F.2.1 dL_law_472 rfl (lv_at hl 0 rfl) ?_
  refine lv_iload F.1 F.2.1 dL_law_473 (lv_at hl 4 rfl) ?_
  refine lv_iconst (v := 1) F.1 F.2.1 dL_law_475 (by decide) ?_
  refine lv_iadd F.1 F.2.1 dL_law_476 ?_
  refine x_topi (v := nI ((9 * k) + 1)) ((nI_add (9 * k) 1).symm) ?_
  refine x_sldN F hX hbl hw ((9 * k) + 1) rfl (by omega) (by omega) dL_law_477 ?_
  refine lv_i2l (v := (xs ((9 * k) + 1)).toInt64) F.1 F.2.1 dL_law_478 (rfl) ?_
  refine lv_bipush (v := 32) F.1 F.2.1 dL_law_479 (by decide) ?_
  refine lv_lshl (v := ((xs ((9 * k) + 1)).toInt64) <<< ((32 : Int32).toInt64 &&& 63)) F.1 F.2.1 dL_law_481 rfl ?_
  refine lv_aload_n F.1 F.2.1 dL_law_482 rfl (lv_at hl 0 rfl) ?_
  refine lv_iload F.1 F.2.1 dL_law_483 (lv_at hl 4 rfl) ?_
  refine lv_iconst (v := 2) F.1 F.2.1 dL_law_485 (by decide) ?_
  refine lv_iadd F.1 F.2.1 dL_law_486 ?_
  refine x_topi (v := nI ((9 * k) + 2)) ((nI_add (9 * k) 2).symm) ?_
  refine x_sldN F hX hbl hw ((9 * k) + 2) rfl (by omega) (by omega) dL_law_487 ?_
  refine lv_i2l (v := (xs ((9 * k) + 2)).toInt64) F.1 F.2.1 dL_law_488 (rfl) ?_
  refine lv_ldc2 (v := 4294967295) F.1 F.2.1 F.2.2.2.1 (F.2.2.2.2 _ (List.mem_of_getElem? (i := 7) rfl)) dL_law_489 ?_
  refine lv_land F.1 F.2.1 dL_law_492 ?_
  refine lv_lor F.1 F.2.1 dL_law_493 ?_
  refine x_topj (v := lJ (xs ((9 * k) + 1)) (xs ((9 * k) + 2))) rfl ?_
  refine lv_aload_n F.1 F.2.1 dL_law_494 rfl (lv_at hl 0 rfl) ?_
  refine lv_iload F.1 F.2.1 dL_law_495 (lv_at hl 4 rfl) ?_
  refine lv_iconst (v := 3) F.1 F.2.1 dL_law_497 (by decide) ?_
  refine lv_iadd F.1 F.2.1 dL_law_498 ?_
  refine x_topi (v := nI ((9 * k) + 3)) ((nI_add (9 * k) 3).symm) ?_
  refine x_sldN F hX hbl hw ((9 * k) + 3) rfl (by omega) (by omega) dL_law_499 ?_
  refine lv_i2l (v := (xs ((9 * k) + 3)).toInt64) F.1 F.2.1 dL_law_500 (rfl) ?_
  refine lv_bipush (v := 32) F.1 F.2.1 dL_law_501 (by decide) ?_
  refine lv_lshl (v := ((xs ((9 * k) + 3)).toInt64) <<< ((32 : Int32).toInt64 &&& 63)) F.1 F.2.1 dL_law_503 rfl ?_
  refine lv_aload_n F.1 F.2.1 dL_law_504 rfl (lv_at hl 0 rfl) ?_
  refine lv_iload F.1 F.2.1 dL_law_505 (lv_at hl 4 rfl) ?_
  refine lv_iconst (v := 4) F.1 F.2.1 dL_law_507 (by decide) ?_
  refine lv_iadd F.1 F.2.1 dL_law_508 ?_
  refine x_topi (v := nI ((9 * k) + 4)) ((nI_add (9 * k) 4).symm) ?_
  refine x_sldN F hX hbl hw ((9 * k) + 4) rfl (by omega) (by omega) dL_law_509 ?_
  refine lv_i2l (v := (xs ((9 * k) + 4)).toInt64) F.1 F.2.1 dL_law_510 (rfl) ?_
  refine lv_ldc2 (v := 4294967295) F.1 F.2.1 F.2.2.2.1 (F.2.2.2.2 _ (List.mem_of_getElem? (i := 7) rfl)) dL_law_511 ?_
  refine lv_land F.1 F.2.1 dL_law_514 ?_
  refine lv_lor F.1 F.2.1 dL_law_515 ?_
  refine x_topj (v := lJ (xs ((9 * k) + 3)) (xs ((9 * k) + 4))) rfl ?_
  refine lv_aload_n F.1 F.2.1 dL_law_516 rfl (lv_at hl 3 rfl) ?_
  refine lw_S (As := [.ref (tH K), .long (lJ (xs ((9 * k) + 1)) (xs ((9 * k) + 2))), .long (lJ (xs ((9 * k) + 3)) (xs ((9 * k) + 4))), .ref oa]) (rest := []) (wPl cI cJ kp ++ wMo cI cJ cZ M v) F hw hE (q_1 _ _ _ _) (c_L_row l G cI cJ cZ cO _ hst K tr (lJ (xs ((9 * k) + 1)) (xs ((9 * k) + 2))) (lJ (xs ((9 * k) + 3)) (xs ((9 * k) + 4))) (ePl (lAb (sR (tX tr))) (sRc (tX tr), 0, lJ (xs ((9 * k) + 1)) (xs ((9 * k) + 2)), lJ (xs ((9 * k) + 3)) (xs ((9 * k) + 4)), 0, 0)) hR.1.1.2.1.1 (lPl_of hR.1.1.2.1.2 _) oa of9) (vx_cwSW 4 F.2.2.2.2 gL_law_L_row rfl rfl rfl (by decide +kernel) ⟨Nat.le_of_ble_eq_true rfl, Nat.le_of_ble_eq_true rfl⟩) rfl hl.1 rfl (lv_room (Nat.le_of_ble_eq_true rfl)) dL_law_517 ⟨by show kc + 2 ≤ 601024; omega, by show ks + 12 ≤ 7293034; omega⟩ (fun r9 w2 H locs hc hw => ?_)
  refine lv_istore (lv' := [(5, .int r9), (0, .ref b), (1, .ref (tH K)), (2, .ref (bH M)), (3, .ref oa), (4, .int (nI (9 * k)))]) F.1 F.2.1 dL_law_520 hl (by decide) rfl (fun ls hl => ?_)
  refine lv_aload_n F.1 F.2.1 dL_law_522 rfl (lv_at hl 3 rfl) ?_
  refine lv_aload_n F.1 F.2.1 dL_law_523 rfl (lv_at hl 1 rfl) ?_
  refine lv_iload F.1 F.2.1 dL_law_524 (lv_at hl 5 rfl) ?_
  refine lv_iconst (v := 1) F.1 F.2.1 dL_law_526 (by decide) ?_
  refine lv_iadd F.1 F.2.1 dL_law_527 ?_
  refine x_topi (v := nI ((9 * k) + 1)) ((nI_add (9 * k) 1).symm) ?_
  refine x_sldN F hX hbl hw ((9 * k) + 1) rfl (by omega) (by omega) dL_law_528 ?_
  refine lv_i2l (v := (xs ((9 * k) + 1)).toInt64) F.1 F.2.1 dL_law_529 (rfl) ?_
  refine lv_bipush (v := 32) F.1 F.2.1 dL_law_530 (by decide) ?_
  refine lv_lshl (v := ((xs ((9 * k) + 1)).toInt64) <<< ((32 : Int32).toInt64 &&& 63)) F.1 F.2.1 dL_law_532 rfl ?_
  refine lv_aload_n F.1 F.2.1 dL_law_533 rfl (lv_at hl 1 rfl) ?_
  refine lv_iload F.1 F.2.1 dL_law_534 (lv_at hl 5 rfl) ?_
  refine lv_iconst (v := 2) F.1 F.2.1 dL_law_536 (by decide) ?_
  refine lv_iadd F.1 F.2.1 dL_law_537 ?_
  refine x_topi (v := nI ((9 * k) + 2)) ((nI_add (9 * k) 2).symm) ?_
  refine x_sldN F hX hbl hw ((9 * k) + 2) rfl (by omega) (by omega) dL_law_538 ?_
  refine lv_i2l (v := (xs ((9 * k) + 2)).toInt64) F.1 F.2.1 dL_law_539 (rfl) ?_
  refine lv_ldc2 (v := 4294967295) F.1 F.2.1 F.2.2.2.1 (F.2.2.2.2 _ (List.mem_of_getElem? (i := 7) rfl)) dL_law_540 ?_
  refine lv_land F.1 F.2.1 dL_law_543 ?_
  refine lv_lor F.1 F.2.1 dL_law_544 ?_
  refine x_topj (v := lJ (xs ((9 * k) + 1)) (xs ((9 * k) + 2))) rfl ?_
  refine lv_aload_n F.1 F.2.1 dL_law_545 rfl (lv_at hl 1 rfl) ?_
  refine lv_iload F.1 F.2.1 dL_law_546 (lv_at hl 5 rfl) ?_
  refine lv_iconst (v := 3) F.1 F.2.1 dL_law_548 (by decide) ?_
  refine lv_iadd F.1 F.2.1 dL_law_549 ?_
  refine x_topi (v := nI ((9 * k) + 3)) ((nI_add (9 * k) 3).symm) ?_
  refine x_sldN F hX hbl hw ((9 * k) + 3) rfl (by omega) (by omega) dL_law_550 ?_
  refine lv_i2l (v := (xs ((9 * k) + 3)).toInt64) F.1 F.2.1 dL_law_551 (rfl) ?_
  refine lv_bipush (v := 32) F.1 F.2.1 dL_law_552 (by decide) ?_
  refine lv_lshl (v := ((xs ((9 * k) + 3)).toInt64) <<< ((32 : Int32).toInt64 &&& 63)) F.1 F.2.1 dL_law_554 rfl ?_
  refine lv_aload_n F.1 F.2.1 dL_law_555 rfl (lv_at hl 1 rfl) ?_
  refine lv_iload F.1 F.2.1 dL_law_556 (lv_at hl 5 rfl) ?_
  refine lv_iconst (v := 4) F.1 F.2.1 dL_law_558 (by decide) ?_
  refine lv_iadd F.1 F.2.1 dL_law_559 ?_
  refine x_topi (v := nI ((9 * k) + 4)) ((nI_add (9 * k) 4).symm) ?_
  refine x_sldN F hX hbl hw ((9 * k) + 4) rfl (by omega) (by omega) dL_law_560 ?_
  refine lv_i2l (v := (xs ((9 * k) + 4)).toInt64) F.1 F.2.1 dL_law_561 (rfl) ?_
  refine lv_ldc2 (v := 4294967295) F.1 F.2.1 F.2.2.2.1 (F.2.2.2.2 _ (List.mem_of_getElem? (i := 7) rfl)) dL_law_562 ?_
  refine lv_land F.1 F.2.1 dL_law_565 ?_
  refine lv_lor F.1 F.2.1 dL_law_566 ?_
  refine x_topj (v := lJ (xs ((9 * k) + 3)) (xs ((9 * k) + 4))) rfl ?_
  refine lw_V (As := [.long (lJ (xs ((9 * k) + 1)) (xs ((9 * k) + 2))), .long (lJ (xs ((9 * k) + 3)) (xs ((9 * k) + 4)))]) (rest := []) ([(oa, .inl (cJ, 1, .inr (.inl w2.2)))] ++ (wTr cI cJ cO K w2.1 ++ wPl cI cJ kp)) F hw (q_2 _ _ _ _) (c_X4_row l G cI cJ cZ cO _ M v (lJ (xs ((9 * k) + 1)) (xs ((9 * k) + 2))) (lJ (xs ((9 * k) + 3)) (xs ((9 * k) + 4))) (hR.2.2.2.2.2.1 0 (by decide)) (by rw [many0 hR.2.2.1]; exact hR.1.1.2.1.1.1) (fun q => by rw [many0 hR.2.2.1] at q; rw [brel_w hR.2.2.1]; have h1 := hR.1.1.1.1.1; have h2 := hR.1.1.2.1.1.1; omega)) (cwV 2 F.2.2.2.2 gL_law_X4_row rfl rfl rfl (by decide +kernel) ⟨Nat.le_of_ble_eq_true rfl, Nat.le_of_ble_eq_true rfl⟩) rfl rfl rfl hl.1 rfl (lv_room (Nat.le_of_ble_eq_true rfl)) dL_law_567 ⟨by show kc + 2 ≤ 601024; omega, by show ks + 12 ≤ 7293034; omega⟩ (fun r6 u2 H locs hm hw => ?_)
  obtain ⟨hcd, hv0, hR2⟩ := op_row hR (by omega) hc hm
  have hgl : gL (tG w2.1) = gL (tG tr) := by rcases hc with ⟨-, _, (⟨-, -, -, h⟩ | ⟨-, -, -, -, h⟩), -⟩ | ⟨-, h, -⟩ | ⟨-, h, -⟩ <;> rw [h] <;> rfl
  clear hc hm
  refine lv_istore (lv' := [(6, .int r6), (5, .int r9), (0, .ref b), (1, .ref (tH K)), (2, .ref (bH M)), (3, .ref oa), (4, .int (nI (9 * k)))]) F.1 F.2.1 dL_law_570 hl (by decide) rfl (fun ls hl => ?_)
  refine lv_aload_n F.1 F.2.1 dL_law_572 rfl (lv_at hl 4 rfl) ?_
  refine lw_T (As := []) (rest := []) ([(oa, .inl (cJ, 1, .inr (.inl w2.2)))] ++ (wTr cI cJ cO K w2.1 ++ wPl cI cJ kp)) F hw (q_3 _ _) (c_X4_thrown l G cI cJ cZ cO _ M u2) (cwV 0 F.2.2.2.2 gL_law_X4_thrown rfl rfl rfl (by decide +kernel) ⟨Nat.le_of_ble_eq_true rfl, Nat.le_of_ble_eq_true rfl⟩) rfl rfl rfl hl.1 rfl (lv_room (Nat.le_of_ble_eq_true rfl)) dL_law_573 ⟨by show kc + 2 ≤ 601024; omega, by show ks + 12 ≤ 7293034; omega⟩ (fun rt ht => ?_)
  refine lv_iload F.1 F.2.1 dL_law_576 (lv_at hl 1 rfl) ?_
  refine lv_icmp_eq (tgt := 583) F.1 F.2.1 dL_law_578 (by decide) (fun c578 => ?_) (fun c578 => ?_)
  rotate_left
  · exact (c578 (ht.trans hcd)).elim
  refine lv_iload F.1 F.2.1 dL_law_583 (lv_at hl 1 rfl) ?_
  refine lv_if_ne (tgt := 600) F.1 F.2.1 dL_law_585 (by decide) (fun c585 => ?_) (fun c585 => ?_)
  · refine lv_goto (tgt := 1549) F.1 F.2.1 dL_law_600 (by decide) ?_
    refine lv_iinc (v := nI (9 * (k + 1))) (lv' := [(4, .int (nI (9 * (k + 1)))), (6, .int r6), (5, .int r9), (0, .ref b), (1, .ref (tH K)), (2, .ref (bH M)), (3, .ref oa)]) F.1 F.2.1 dL_law_1549 hl (k := 6) rfl (by rw [show Int32.ofInt 9 = nI 9 from rfl, nI_add, Nat.mul_succ]) (by decide) rfl (fun ls hl => ?_)
    refine lv_goto (tgt := 23) F.1 F.2.1 dL_law_1552 (by decide) ?_
    refine W.widen (k := 1000 + 60 * (k + 1) + (gL (tG w2.1) - 65)) (n := 40000 + 11000 * (k + 1) + 10 * (gL (tG w2.1) - 65)) (by omega) (by omega) ?_
    exact nx w2.1 kp u2 w2.2 H _ ls (hR2.up (by omega)) (pm_w hw (q_4 _ _ _ _)) (lv_sub hl [3, 4, 5, 6, 0] rfl)
  · refine lv_aload_n F.1 F.2.1 dL_law_588 rfl (lv_at hl 5 rfl) ?_
    refine lv_iconst (v := 0) F.1 F.2.1 dL_law_589 (by decide) ?_
    refine x_laldN F hw 0 1 rfl rfl 0 rfl (by decide) (by decide) dL_law_590 ?_
    refine lv_iload F.1 F.2.1 dL_law_591 (lv_at hl 0 rfl) ?_
    refine lv_i2l (v := r6.toInt64) F.1 F.2.1 dL_law_593 (rfl) ?_
    refine x_l_eq (tgt := 600) F dL_law_594 dL_law_595 (by decide) (fun c594 => ?_) (fun c594 => ?_)
    rotate_left
    · exact (c594 (hv0 c585)).elim
    refine lv_goto (tgt := 1549) F.1 F.2.1 dL_law_600 (by decide) ?_
    refine lv_iinc (v := nI (9 * (k + 1))) (lv' := [(4, .int (nI (9 * (k + 1)))), (6, .int r6), (5, .int r9), (0, .ref b), (1, .ref (tH K)), (2, .ref (bH M)), (3, .ref oa)]) F.1 F.2.1 dL_law_1549 hl (k := 6) rfl (by rw [show Int32.ofInt 9 = nI 9 from rfl, nI_add, Nat.mul_succ]) (by decide) rfl (fun ls hl => ?_)
    refine lv_goto (tgt := 23) F.1 F.2.1 dL_law_1552 (by decide) ?_
    refine W.widen (k := 1000 + 60 * (k + 1) + (gL (tG w2.1) - 65)) (n := 40000 + 11000 * (k + 1) + 10 * (gL (tG w2.1) - 65)) (by omega) (by omega) ?_
    exact nx w2.1 kp u2 w2.2 H _ ls (hR2.up (by omega)) (pm_w hw (q_4 _ _ _ _)) (lv_sub hl [3, 4, 5, 6, 0] rfl)

set_option maxHeartbeats 8000000 in
set_option maxRecDepth 100000 in
theorem lc_first {p : Program} {l : Launch} {e : Env} {s : State} {m : MethodId} {below : List Frame} {meth : Method} {c : Code} {G : va_G} {cI cJ cZ cO : ClassId} {b L oa : Nat} {xs : Nat → Int32} {K : TrA} {M : MA} {k kc ks : Nat} {tr : TrR} {kp : List (StA × StR)} {v : MR} {of9 : Nat → Int64} {H : Heap} {locs : List Loc} {ls : Array Slot}  (F : CallFix p m c cL_law 8 s #[Value.ref b] wsL_law RL) (hst : l.stackTraces = false) (hE : xEn (fun q => s.heap.size ≤ q) s s.heap) (hX : va_X b L xs s s.heap) (hbl : b < s.heap.size) (hL : L ≤ 4608) (hk : 9 * k + 9 ≤ L) (nx : lwN p l e s m below meth c G cI cJ cZ cO b oa K M (k + 1)) (hkc : kc = 1000 + 60 * k + (gL (tG tr) - 65)) (hks : ks = 40000 + 11000 * k + 10 * (gL (tG tr) - 65)) (hR : LRel tr kp v (2081 * k)) (hw : xW G (xK cI cJ cZ cO) (fun q => s.heap.size ≤ q) s.heap s ([(oa, .inl (cJ, 1, .inr (.inl of9)))] ++ (wTr cI cJ cO K tr ++ (wPl cI cJ kp ++ wMo cI cJ cZ M v))) H locs) (hl : lv_has ls 8 [(0, .ref b), (1, .ref (tH K)), (2, .ref (bH M)), (3, .ref oa), (4, .int (nI (9 * k)))]) :
    W p l e room_1 s m #[Value.ref b] below meth c H locs kc ks (lw_Z below #[Value.ref b] s) (F0 m 603 ls []) := by
  have hg5 : 65 ≤ gL (tG tr) ∧ gL (tG tr) ≤ 2080 := by
    have h := hR.1.2.1
    unfold gLok at h
    omega
  refine lv_aload_n F.1 F.2.1 dL_law_603 rfl (lv_at hl 1 rfl) ?_
  refine lv_aload_n F.1 F.2.1 dL_law_604 rfl (lv_at hl 0 rfl) ?_
  refine lv_iload F.1 F.2.1 dL_law_605 (lv_at hl 4 rfl) ?_
  refine lv_iconst (v := 1) F.1 F.2.1 dL_law_607 (by decide) ?_
  refine lv_iadd F.1 F.2.1 dL_law_608 ?_
  refine x_topi (v := nI ((9 * k) + 1)) ((nI_add (9 * k) 1).symm) ?_
  refine x_sldN F hX hbl hw ((9 * k) + 1) rfl (by omega) (by omega) dL_law_609 ?_
  refine lv_if_eq (tgt := 617) F.1 F.2.1 dL_law_610 (by decide) (fun c610 => ?_) (fun c610 => ?_)
  · refine lv_iconst (v := 0) F.1 F.2.1 dL_law_617 (by decide) ?_
    refine lw_V (As := [.int 0]) (rest := []) ([(oa, .inl (cJ, 1, .inr (.inl of9)))] ++ (wPl cI cJ kp ++ wMo cI cJ cZ M v)) F hw (q_5 _ _ _ _) (c_X3_first l G cI cJ cZ cO _ K tr 0 (Or.inl rfl) hR.1.1.2.2.1) (cwV 1 F.2.2.2.2 gL_law_X3_first rfl rfl rfl (by decide +kernel) ⟨Nat.le_of_ble_eq_true rfl, Nat.le_of_ble_eq_true rfl⟩) rfl rfl rfl hl.1 rfl (lv_room (Nat.le_of_ble_eq_true rfl)) dL_law_618 ⟨by show kc ≤ 601024; omega, by show ks ≤ 7293034; omega⟩ (fun r9 w2 H locs hc hw => ?_)
    refine lv_aload_n F.1 F.2.1 dL_law_621 rfl (lv_at hl 2 rfl) ?_
    refine lv_aload_n F.1 F.2.1 dL_law_622 rfl (lv_at hl 0 rfl) ?_
    refine lv_iload F.1 F.2.1 dL_law_623 (lv_at hl 4 rfl) ?_
    refine lv_iconst (v := 1) F.1 F.2.1 dL_law_625 (by decide) ?_
    refine lv_iadd F.1 F.2.1 dL_law_626 ?_
    refine x_topi (v := nI ((9 * k) + 1)) ((nI_add (9 * k) 1).symm) ?_
    refine x_sldN F hX hbl hw ((9 * k) + 1) rfl (by omega) (by omega) dL_law_627 ?_
    refine lv_if_eq (tgt := 635) F.1 F.2.1 dL_law_628 (by decide) (fun c628 => ?_) (fun c628 => ?_)
    rotate_left
    · exact (c628 c610).elim
    refine lv_iconst (v := 0) F.1 F.2.1 dL_law_635 (by decide) ?_
    refine lw_V (As := [.int 0]) (rest := [.int r9]) ([(oa, .inl (cJ, 1, .inr (.inl of9)))] ++ (wTr cI cJ cO K w2 ++ wPl cI cJ kp)) F hw (q_6 _ _ _ _) (c_X4_first l G cI cJ cZ cO _ M v 0 ) (cwV 1 F.2.2.2.2 gL_law_X4_first rfl rfl rfl (by decide +kernel) ⟨Nat.le_of_ble_eq_true rfl, Nat.le_of_ble_eq_true rfl⟩) rfl rfl rfl hl.1 rfl (lv_room (Nat.le_of_ble_eq_true rfl)) dL_law_636 ⟨by show kc ≤ 601024; omega, by show ks ≤ 7293034; omega⟩ (fun r6 u2 H locs hm hw => ?_)
    obtain ⟨hcd, hR2⟩ := op_first hR (Or.inl rfl) hc hm
    have hgl : gL (tG w2) = gL (tG tr) := by obtain ⟨-, h⟩ := hc; rw [h]; rfl
    clear hc hm
    refine lv_icmp_eq (tgt := 1549) F.1 F.2.1 dL_law_639 (by decide) (fun c639 => ?_) (fun c639 => ?_)
    rotate_left
    · exact (c639 hcd).elim
    refine lv_iinc (v := nI (9 * (k + 1))) (lv' := [(4, .int (nI (9 * (k + 1)))), (0, .ref b), (1, .ref (tH K)), (2, .ref (bH M)), (3, .ref oa)]) F.1 F.2.1 dL_law_1549 hl (k := 4) rfl (by rw [show Int32.ofInt 9 = nI 9 from rfl, nI_add, Nat.mul_succ]) (by decide) rfl (fun ls hl => ?_)
    refine lv_goto (tgt := 23) F.1 F.2.1 dL_law_1552 (by decide) ?_
    refine W.widen (k := 1000 + 60 * (k + 1) + (gL (tG w2) - 65)) (n := 40000 + 11000 * (k + 1) + 10 * (gL (tG w2) - 65)) (by omega) (by omega) ?_
    exact nx w2 kp u2 of9 H _ ls (hR2.up (by omega)) (pm_w hw (q_4 _ _ _ _)) (lv_sub hl [1, 2, 3, 4, 0] rfl)
  · refine lv_iconst (v := 1) F.1 F.2.1 dL_law_613 (by decide) ?_
    refine lv_goto (tgt := 618) F.1 F.2.1 dL_law_614 (by decide) ?_
    refine lw_V (As := [.int 1]) (rest := []) ([(oa, .inl (cJ, 1, .inr (.inl of9)))] ++ (wPl cI cJ kp ++ wMo cI cJ cZ M v)) F hw (q_5 _ _ _ _) (c_X3_first l G cI cJ cZ cO _ K tr 1 (Or.inr rfl) hR.1.1.2.2.1) (cwV 1 F.2.2.2.2 gL_law_X3_first rfl rfl rfl (by decide +kernel) ⟨Nat.le_of_ble_eq_true rfl, Nat.le_of_ble_eq_true rfl⟩) rfl rfl rfl hl.1 rfl (lv_room (Nat.le_of_ble_eq_true rfl)) dL_law_618 ⟨by show kc ≤ 601024; omega, by show ks ≤ 7293034; omega⟩ (fun r9 w2 H locs hc hw => ?_)
    refine lv_aload_n F.1 F.2.1 dL_law_621 rfl (lv_at hl 2 rfl) ?_
    refine lv_aload_n F.1 F.2.1 dL_law_622 rfl (lv_at hl 0 rfl) ?_
    refine lv_iload F.1 F.2.1 dL_law_623 (lv_at hl 4 rfl) ?_
    refine lv_iconst (v := 1) F.1 F.2.1 dL_law_625 (by decide) ?_
    refine lv_iadd F.1 F.2.1 dL_law_626 ?_
    refine x_topi (v := nI ((9 * k) + 1)) ((nI_add (9 * k) 1).symm) ?_
    refine x_sldN F hX hbl hw ((9 * k) + 1) rfl (by omega) (by omega) dL_law_627 ?_
    refine lv_if_eq (tgt := 635) F.1 F.2.1 dL_law_628 (by decide) (fun c628 => ?_) (fun c628 => ?_)
    · exact (c610 c628).elim
    refine lv_iconst (v := 1) F.1 F.2.1 dL_law_631 (by decide) ?_
    refine lv_goto (tgt := 636) F.1 F.2.1 dL_law_632 (by decide) ?_
    refine lw_V (As := [.int 1]) (rest := [.int r9]) ([(oa, .inl (cJ, 1, .inr (.inl of9)))] ++ (wTr cI cJ cO K w2 ++ wPl cI cJ kp)) F hw (q_6 _ _ _ _) (c_X4_first l G cI cJ cZ cO _ M v 1 ) (cwV 1 F.2.2.2.2 gL_law_X4_first rfl rfl rfl (by decide +kernel) ⟨Nat.le_of_ble_eq_true rfl, Nat.le_of_ble_eq_true rfl⟩) rfl rfl rfl hl.1 rfl (lv_room (Nat.le_of_ble_eq_true rfl)) dL_law_636 ⟨by show kc ≤ 601024; omega, by show ks ≤ 7293034; omega⟩ (fun r6 u2 H locs hm hw => ?_)
    obtain ⟨hcd, hR2⟩ := op_first hR (Or.inr rfl) hc hm
    have hgl : gL (tG w2) = gL (tG tr) := by obtain ⟨-, h⟩ := hc; rw [h]; rfl
    clear hc hm
    refine lv_icmp_eq (tgt := 1549) F.1 F.2.1 dL_law_639 (by decide) (fun c639 => ?_) (fun c639 => ?_)
    rotate_left
    · exact (c639 hcd).elim
    refine lv_iinc (v := nI (9 * (k + 1))) (lv' := [(4, .int (nI (9 * (k + 1)))), (0, .ref b), (1, .ref (tH K)), (2, .ref (bH M)), (3, .ref oa)]) F.1 F.2.1 dL_law_1549 hl (k := 4) rfl (by rw [show Int32.ofInt 9 = nI 9 from rfl, nI_add, Nat.mul_succ]) (by decide) rfl (fun ls hl => ?_)
    refine lv_goto (tgt := 23) F.1 F.2.1 dL_law_1552 (by decide) ?_
    refine W.widen (k := 1000 + 60 * (k + 1) + (gL (tG w2) - 65)) (n := 40000 + 11000 * (k + 1) + 10 * (gL (tG w2) - 65)) (by omega) (by omega) ?_
    exact nx w2 kp u2 of9 H _ ls (hR2.up (by omega)) (pm_w hw (q_4 _ _ _ _)) (lv_sub hl [1, 2, 3, 4, 0] rfl)

set_option maxHeartbeats 8000000 in
set_option maxRecDepth 100000 in
theorem lc_done {p : Program} {l : Launch} {e : Env} {s : State} {m : MethodId} {below : List Frame} {meth : Method} {c : Code} {G : va_G} {cI cJ cZ cO : ClassId} {b L oa : Nat} {xs : Nat → Int32} {K : TrA} {M : MA} {k kc ks : Nat} {tr : TrR} {kp : List (StA × StR)} {v : MR} {of9 : Nat → Int64} {H : Heap} {locs : List Loc} {ls : Array Slot}  (F : CallFix p m c cL_law 8 s #[Value.ref b] wsL_law RL) (hst : l.stackTraces = false) (hE : xEn (fun q => s.heap.size ≤ q) s s.heap) (hX : va_X b L xs s s.heap) (hbl : b < s.heap.size) (hL : L ≤ 4608) (hk : 9 * k + 9 ≤ L) (nx : lwN p l e s m below meth c G cI cJ cZ cO b oa K M (k + 1)) (hkc : kc = 1000 + 60 * k + (gL (tG tr) - 65)) (hks : ks = 40000 + 11000 * k + 10 * (gL (tG tr) - 65)) (hR : LRel tr kp v (2081 * k)) (hw : xW G (xK cI cJ cZ cO) (fun q => s.heap.size ≤ q) s.heap s ([(oa, .inl (cJ, 1, .inr (.inl of9)))] ++ (wTr cI cJ cO K tr ++ (wPl cI cJ kp ++ wMo cI cJ cZ M v))) H locs) (hl : lv_has ls 8 [(0, .ref b), (1, .ref (tH K)), (2, .ref (bH M)), (3, .ref oa), (4, .int (nI (9 * k)))]) :
    W p l e room_1 s m #[Value.ref b] below meth c H locs kc ks (lw_Z below #[Value.ref b] s) (F0 m 744 ls []) := by
  have hg5 : 65 ≤ gL (tG tr) ∧ gL (tG tr) ≤ 2080 := by
    have h := hR.1.2.1
    unfold gLok at h
    omega
  refine lv_aload_n F.1 F.2.1 dL_law_744 rfl (lv_at hl 1 rfl) ?_
  refine lv_aload_n F.1 F.2.1 dL_law_745 rfl (lv_at hl 0 rfl) ?_
  refine lv_iload F.1 F.2.1 dL_law_746 (lv_at hl 4 rfl) ?_
  refine lv_iconst (v := 1) F.1 F.2.1 dL_law_748 (by decide) ?_
  refine lv_iadd F.1 F.2.1 dL_law_749 ?_
  refine x_topi (v := nI ((9 * k) + 1)) ((nI_add (9 * k) 1).symm) ?_
  refine x_sldN F hX hbl hw ((9 * k) + 1) rfl (by omega) (by omega) dL_law_750 ?_
  refine lv_aload_n F.1 F.2.1 dL_law_751 rfl (lv_at hl 0 rfl) ?_
  refine lv_iload F.1 F.2.1 dL_law_752 (lv_at hl 4 rfl) ?_
  refine lv_iconst (v := 2) F.1 F.2.1 dL_law_754 (by decide) ?_
  refine lv_iadd F.1 F.2.1 dL_law_755 ?_
  refine x_topi (v := nI ((9 * k) + 2)) ((nI_add (9 * k) 2).symm) ?_
  refine x_sldN F hX hbl hw ((9 * k) + 2) rfl (by omega) (by omega) dL_law_756 ?_
  refine lv_aload_n F.1 F.2.1 dL_law_757 rfl (lv_at hl 3 rfl) ?_
  refine lw_S (As := [.ref (tH K), .int (xs ((9 * k) + 1)), .int (xs ((9 * k) + 2)), .ref oa]) (rest := []) (wPl cI cJ kp ++ wMo cI cJ cZ M v) F hw hE (q_1 _ _ _ _) (c_L_done l G cI cJ cZ cO _ hst K tr (xs ((9 * k) + 1)) (xs ((9 * k) + 2)) (by omega) hR.1.2.2 oa of9) (vx_cwSW 4 F.2.2.2.2 gL_law_L_done rfl rfl rfl (by decide +kernel) ⟨Nat.le_of_ble_eq_true rfl, Nat.le_of_ble_eq_true rfl⟩) rfl hl.1 rfl (lv_room (Nat.le_of_ble_eq_true rfl)) dL_law_758 ⟨by show kc + 2 ≤ 601024; omega, by show ks + 12 ≤ 7293034; omega⟩ (fun r9 w2 H locs hc hw => ?_)
  refine lv_istore (lv' := [(5, .int r9), (0, .ref b), (1, .ref (tH K)), (2, .ref (bH M)), (3, .ref oa), (4, .int (nI (9 * k)))]) F.1 F.2.1 dL_law_761 hl (by decide) rfl (fun ls hl => ?_)
  refine lv_aload_n F.1 F.2.1 dL_law_763 rfl (lv_at hl 3 rfl) ?_
  refine lv_aload_n F.1 F.2.1 dL_law_764 rfl (lv_at hl 1 rfl) ?_
  refine lv_iload F.1 F.2.1 dL_law_765 (lv_at hl 5 rfl) ?_
  refine lv_iconst (v := 1) F.1 F.2.1 dL_law_767 (by decide) ?_
  refine lv_iadd F.1 F.2.1 dL_law_768 ?_
  refine x_topi (v := nI ((9 * k) + 1)) ((nI_add (9 * k) 1).symm) ?_
  refine x_sldN F hX hbl hw ((9 * k) + 1) rfl (by omega) (by omega) dL_law_769 ?_
  refine lv_aload_n F.1 F.2.1 dL_law_770 rfl (lv_at hl 1 rfl) ?_
  refine lv_iload F.1 F.2.1 dL_law_771 (lv_at hl 5 rfl) ?_
  refine lv_iconst (v := 2) F.1 F.2.1 dL_law_773 (by decide) ?_
  refine lv_iadd F.1 F.2.1 dL_law_774 ?_
  refine x_topi (v := nI ((9 * k) + 2)) ((nI_add (9 * k) 2).symm) ?_
  refine x_sldN F hX hbl hw ((9 * k) + 2) rfl (by omega) (by omega) dL_law_775 ?_
  refine lw_VL (As := [.int (xs ((9 * k) + 1)), .int (xs ((9 * k) + 2))]) (rest := []) ([(oa, .inl (cJ, 1, .inr (.inl w2.2)))] ++ (wTr cI cJ cO K w2.1 ++ wPl cI cJ kp)) F hw (q_2 _ _ _ _) (c_X4_done l G cI cJ cZ cO _ M v (xs ((9 * k) + 1)) (xs ((9 * k) + 2)) (by have h1 := hR.2.2.2.1.1; have h2 := hR.2.2.2.1.2.2; omega)) (cwV 2 F.2.2.2.2 gL_law_X4_done rfl rfl rfl (by decide +kernel) ⟨Nat.le_of_ble_eq_true rfl, Nat.le_of_ble_eq_true rfl⟩) rfl rfl rfl hl.1 rfl (lv_room (Nat.le_of_ble_eq_true rfl)) dL_law_776 ⟨by show kc + 2 ≤ 601024; omega, by show ks + 12 ≤ 7293034; omega⟩ (fun r6 u2 H locs hm hw => ?_)
  obtain ⟨hcd, hv0, hR2⟩ := op_done hR hc hm
  have hgl : gL (tG w2.1) = gL (tG tr) := by rcases hc with ⟨-, _, ⟨-, h⟩, -⟩ | ⟨-, h, -⟩ | ⟨-, h, -⟩ <;> rw [h] <;> rfl
  clear hc hm
  refine lv_lstore (lv' := [(6, .long r6), (5, .int r9), (0, .ref b), (1, .ref (tH K)), (2, .ref (bH M)), (3, .ref oa), (4, .int (nI (9 * k)))]) F.1 F.2.1 dL_law_779 hl (by decide) rfl (fun ls hl => ?_)
  refine lv_aload_n F.1 F.2.1 dL_law_781 rfl (lv_at hl 4 rfl) ?_
  refine lw_T (As := []) (rest := []) ([(oa, .inl (cJ, 1, .inr (.inl w2.2)))] ++ (wTr cI cJ cO K w2.1 ++ wPl cI cJ kp)) F hw (q_3 _ _) (c_X4_thrown l G cI cJ cZ cO _ M u2) (cwV 0 F.2.2.2.2 gL_law_X4_thrown rfl rfl rfl (by decide +kernel) ⟨Nat.le_of_ble_eq_true rfl, Nat.le_of_ble_eq_true rfl⟩) rfl rfl rfl hl.1 rfl (lv_room (Nat.le_of_ble_eq_true rfl)) dL_law_782 ⟨by show kc + 2 ≤ 601024; omega, by show ks + 12 ≤ 7293034; omega⟩ (fun rt ht => ?_)
  refine lv_iload F.1 F.2.1 dL_law_785 (lv_at hl 1 rfl) ?_
  refine lv_icmp_eq (tgt := 792) F.1 F.2.1 dL_law_787 (by decide) (fun c787 => ?_) (fun c787 => ?_)
  rotate_left
  · exact (c787 (ht.trans hcd)).elim
  refine lv_iload F.1 F.2.1 dL_law_792 (lv_at hl 1 rfl) ?_
  refine lv_if_ne (tgt := 808) F.1 F.2.1 dL_law_794 (by decide) (fun c794 => ?_) (fun c794 => ?_)
  · refine lv_goto (tgt := 1549) F.1 F.2.1 dL_law_808 (by decide) ?_
    refine lv_iinc (v := nI (9 * (k + 1))) (lv' := [(4, .int (nI (9 * (k + 1)))), (6, .long r6), (5, .int r9), (0, .ref b), (1, .ref (tH K)), (2, .ref (bH M)), (3, .ref oa)]) F.1 F.2.1 dL_law_1549 hl (k := 6) rfl (by rw [show Int32.ofInt 9 = nI 9 from rfl, nI_add, Nat.mul_succ]) (by decide) rfl (fun ls hl => ?_)
    refine lv_goto (tgt := 23) F.1 F.2.1 dL_law_1552 (by decide) ?_
    refine W.widen (k := 1000 + 60 * (k + 1) + (gL (tG w2.1) - 65)) (n := 40000 + 11000 * (k + 1) + 10 * (gL (tG w2.1) - 65)) (by omega) (by omega) ?_
    exact nx w2.1 kp u2 w2.2 H _ ls (hR2.up (by omega)) (pm_w hw (q_4 _ _ _ _)) (lv_sub hl [3, 4, 5, 6, 0] rfl)
  · refine lv_aload_n F.1 F.2.1 dL_law_797 rfl (lv_at hl 5 rfl) ?_
    refine lv_iconst (v := 0) F.1 F.2.1 dL_law_798 (by decide) ?_
    refine x_laldN F hw 0 1 rfl rfl 0 rfl (by decide) (by decide) dL_law_799 ?_
    refine lv_lload F.1 F.2.1 dL_law_800 (lv_at hl 0 rfl) ?_
    refine x_l_eq (tgt := 808) F dL_law_802 dL_law_803 (by decide) (fun c802 => ?_) (fun c802 => ?_)
    rotate_left
    · exact (c802 (hv0 c794)).elim
    refine lv_goto (tgt := 1549) F.1 F.2.1 dL_law_808 (by decide) ?_
    refine lv_iinc (v := nI (9 * (k + 1))) (lv' := [(4, .int (nI (9 * (k + 1)))), (6, .long r6), (5, .int r9), (0, .ref b), (1, .ref (tH K)), (2, .ref (bH M)), (3, .ref oa)]) F.1 F.2.1 dL_law_1549 hl (k := 6) rfl (by rw [show Int32.ofInt 9 = nI 9 from rfl, nI_add, Nat.mul_succ]) (by decide) rfl (fun ls hl => ?_)
    refine lv_goto (tgt := 23) F.1 F.2.1 dL_law_1552 (by decide) ?_
    refine W.widen (k := 1000 + 60 * (k + 1) + (gL (tG w2.1) - 65)) (n := 40000 + 11000 * (k + 1) + 10 * (gL (tG w2.1) - 65)) (by omega) (by omega) ?_
    exact nx w2.1 kp u2 w2.2 H _ ls (hR2.up (by omega)) (pm_w hw (q_4 _ _ _ _)) (lv_sub hl [3, 4, 5, 6, 0] rfl)

set_option maxHeartbeats 8000000 in
set_option maxRecDepth 100000 in
theorem lc_told {p : Program} {l : Launch} {e : Env} {s : State} {m : MethodId} {below : List Frame} {meth : Method} {c : Code} {G : va_G} {cI cJ cZ cO : ClassId} {b L oa : Nat} {xs : Nat → Int32} {K : TrA} {M : MA} {k kc ks : Nat} {tr : TrR} {kp : List (StA × StR)} {v : MR} {of9 : Nat → Int64} {H : Heap} {locs : List Loc} {ls : Array Slot}  (F : CallFix p m c cL_law 8 s #[Value.ref b] wsL_law RL) (hst : l.stackTraces = false) (hE : xEn (fun q => s.heap.size ≤ q) s s.heap) (hX : va_X b L xs s s.heap) (hbl : b < s.heap.size) (hL : L ≤ 4608) (hk : 9 * k + 9 ≤ L) (nx : lwN p l e s m below meth c G cI cJ cZ cO b oa K M (k + 1)) (hkc : kc = 1000 + 60 * k + (gL (tG tr) - 65)) (hks : ks = 40000 + 11000 * k + 10 * (gL (tG tr) - 65)) (hR : LRel tr kp v (2081 * k)) (hw : xW G (xK cI cJ cZ cO) (fun q => s.heap.size ≤ q) s.heap s ([(oa, .inl (cJ, 1, .inr (.inl of9)))] ++ (wTr cI cJ cO K tr ++ (wPl cI cJ kp ++ wMo cI cJ cZ M v))) H locs) (hl : lv_has ls 8 [(0, .ref b), (1, .ref (tH K)), (2, .ref (bH M)), (3, .ref oa), (4, .int (nI (9 * k)))]) :
    W p l e room_1 s m #[Value.ref b] below meth c H locs kc ks (lw_Z below #[Value.ref b] s) (F0 m 811 ls []) := by
  have hg5 : 65 ≤ gL (tG tr) ∧ gL (tG tr) ≤ 2080 := by
    have h := hR.1.2.1
    unfold gLok at h
    omega
  refine lv_aload_n F.1 F.2.1 dL_law_811 rfl (lv_at hl 1 rfl) ?_
  refine lv_aload_n F.1 F.2.1 dL_law_812 rfl (lv_at hl 0 rfl) ?_
  refine lv_iload F.1 F.2.1 dL_law_813 (lv_at hl 4 rfl) ?_
  refine lv_iconst (v := 1) F.1 F.2.1 dL_law_815 (by decide) ?_
  refine lv_iadd F.1 F.2.1 dL_law_816 ?_
  refine x_topi (v := nI ((9 * k) + 1)) ((nI_add (9 * k) 1).symm) ?_
  refine x_sldN F hX hbl hw ((9 * k) + 1) rfl (by omega) (by omega) dL_law_817 ?_
  refine lv_aload_n F.1 F.2.1 dL_law_818 rfl (lv_at hl 0 rfl) ?_
  refine lv_iload F.1 F.2.1 dL_law_819 (lv_at hl 4 rfl) ?_
  refine lv_iconst (v := 2) F.1 F.2.1 dL_law_821 (by decide) ?_
  refine lv_iadd F.1 F.2.1 dL_law_822 ?_
  refine x_topi (v := nI ((9 * k) + 2)) ((nI_add (9 * k) 2).symm) ?_
  refine x_sldN F hX hbl hw ((9 * k) + 2) rfl (by omega) (by omega) dL_law_823 ?_
  refine lv_aload_n F.1 F.2.1 dL_law_824 rfl (lv_at hl 3 rfl) ?_
  refine lw_S (As := [.ref (tH K), .int (xs ((9 * k) + 1)), .int (xs ((9 * k) + 2)), .ref oa]) (rest := []) (wPl cI cJ kp ++ wMo cI cJ cZ M v) F hw hE (q_1 _ _ _ _) (c_L_told l G cI cJ cZ cO _ hst K tr (xs ((9 * k) + 1)) (xs ((9 * k) + 2)) hR.1.1.1.1 oa of9) (vx_cwSW 4 F.2.2.2.2 gL_law_L_told rfl rfl rfl (by decide +kernel) ⟨Nat.le_of_ble_eq_true rfl, Nat.le_of_ble_eq_true rfl⟩) rfl hl.1 rfl (lv_room (Nat.le_of_ble_eq_true rfl)) dL_law_825 ⟨by show kc + 2 ≤ 601024; omega, by show ks + 12 ≤ 7293034; omega⟩ (fun r9 w2 H locs hc hw => ?_)
  refine lv_istore (lv' := [(5, .int r9), (0, .ref b), (1, .ref (tH K)), (2, .ref (bH M)), (3, .ref oa), (4, .int (nI (9 * k)))]) F.1 F.2.1 dL_law_828 hl (by decide) rfl (fun ls hl => ?_)
  refine lv_aload_n F.1 F.2.1 dL_law_830 rfl (lv_at hl 3 rfl) ?_
  refine lv_aload_n F.1 F.2.1 dL_law_831 rfl (lv_at hl 1 rfl) ?_
  refine lv_iload F.1 F.2.1 dL_law_832 (lv_at hl 5 rfl) ?_
  refine lv_iconst (v := 1) F.1 F.2.1 dL_law_834 (by decide) ?_
  refine lv_iadd F.1 F.2.1 dL_law_835 ?_
  refine x_topi (v := nI ((9 * k) + 1)) ((nI_add (9 * k) 1).symm) ?_
  refine x_sldN F hX hbl hw ((9 * k) + 1) rfl (by omega) (by omega) dL_law_836 ?_
  refine lv_aload_n F.1 F.2.1 dL_law_837 rfl (lv_at hl 1 rfl) ?_
  refine lv_iload F.1 F.2.1 dL_law_838 (lv_at hl 5 rfl) ?_
  refine lv_iconst (v := 2) F.1 F.2.1 dL_law_840 (by decide) ?_
  refine lv_iadd F.1 F.2.1 dL_law_841 ?_
  refine x_topi (v := nI ((9 * k) + 2)) ((nI_add (9 * k) 2).symm) ?_
  refine x_sldN F hX hbl hw ((9 * k) + 2) rfl (by omega) (by omega) dL_law_842 ?_
  refine lw_VL (As := [.int (xs ((9 * k) + 1)), .int (xs ((9 * k) + 2))]) (rest := []) ([(oa, .inl (cJ, 1, .inr (.inl w2.2)))] ++ (wTr cI cJ cO K w2.1 ++ wPl cI cJ kp)) F hw (q_2 _ _ _ _) (c_X4_told l G cI cJ cZ cO _ M v (xs ((9 * k) + 1)) (xs ((9 * k) + 2)) (hR.2.2.2.2.2.1 0 (by decide))) (cwV 2 F.2.2.2.2 gL_law_X4_told rfl rfl rfl (by decide +kernel) ⟨Nat.le_of_ble_eq_true rfl, Nat.le_of_ble_eq_true rfl⟩) rfl rfl rfl hl.1 rfl (lv_room (Nat.le_of_ble_eq_true rfl)) dL_law_843 ⟨by show kc + 2 ≤ 601024; omega, by show ks + 12 ≤ 7293034; omega⟩ (fun r6 u2 H locs hm hw => ?_)
  obtain ⟨hcd, hv0, hR2⟩ := op_told hR hc hm
  have hgl : gL (tG w2.1) = gL (tG tr) := by rcases hc with ⟨-, _, ⟨-, h⟩, -⟩ | ⟨-, h, -⟩ | ⟨-, h, -⟩ <;> rw [h] <;> rfl
  clear hc hm
  refine lv_lstore (lv' := [(6, .long r6), (5, .int r9), (0, .ref b), (1, .ref (tH K)), (2, .ref (bH M)), (3, .ref oa), (4, .int (nI (9 * k)))]) F.1 F.2.1 dL_law_846 hl (by decide) rfl (fun ls hl => ?_)
  refine lv_aload_n F.1 F.2.1 dL_law_848 rfl (lv_at hl 4 rfl) ?_
  refine lw_T (As := []) (rest := []) ([(oa, .inl (cJ, 1, .inr (.inl w2.2)))] ++ (wTr cI cJ cO K w2.1 ++ wPl cI cJ kp)) F hw (q_3 _ _) (c_X4_thrown l G cI cJ cZ cO _ M u2) (cwV 0 F.2.2.2.2 gL_law_X4_thrown rfl rfl rfl (by decide +kernel) ⟨Nat.le_of_ble_eq_true rfl, Nat.le_of_ble_eq_true rfl⟩) rfl rfl rfl hl.1 rfl (lv_room (Nat.le_of_ble_eq_true rfl)) dL_law_849 ⟨by show kc + 2 ≤ 601024; omega, by show ks + 12 ≤ 7293034; omega⟩ (fun rt ht => ?_)
  refine lv_iload F.1 F.2.1 dL_law_852 (lv_at hl 1 rfl) ?_
  refine lv_icmp_eq (tgt := 859) F.1 F.2.1 dL_law_854 (by decide) (fun c854 => ?_) (fun c854 => ?_)
  rotate_left
  · exact (c854 (ht.trans hcd)).elim
  refine lv_iload F.1 F.2.1 dL_law_859 (lv_at hl 1 rfl) ?_
  refine lv_if_ne (tgt := 875) F.1 F.2.1 dL_law_861 (by decide) (fun c861 => ?_) (fun c861 => ?_)
  · refine lv_goto (tgt := 1549) F.1 F.2.1 dL_law_875 (by decide) ?_
    refine lv_iinc (v := nI (9 * (k + 1))) (lv' := [(4, .int (nI (9 * (k + 1)))), (6, .long r6), (5, .int r9), (0, .ref b), (1, .ref (tH K)), (2, .ref (bH M)), (3, .ref oa)]) F.1 F.2.1 dL_law_1549 hl (k := 6) rfl (by rw [show Int32.ofInt 9 = nI 9 from rfl, nI_add, Nat.mul_succ]) (by decide) rfl (fun ls hl => ?_)
    refine lv_goto (tgt := 23) F.1 F.2.1 dL_law_1552 (by decide) ?_
    refine W.widen (k := 1000 + 60 * (k + 1) + (gL (tG w2.1) - 65)) (n := 40000 + 11000 * (k + 1) + 10 * (gL (tG w2.1) - 65)) (by omega) (by omega) ?_
    exact nx w2.1 kp u2 w2.2 H _ ls (hR2.up (by omega)) (pm_w hw (q_4 _ _ _ _)) (lv_sub hl [3, 4, 5, 6, 0] rfl)
  · refine lv_aload_n F.1 F.2.1 dL_law_864 rfl (lv_at hl 5 rfl) ?_
    refine lv_iconst (v := 0) F.1 F.2.1 dL_law_865 (by decide) ?_
    refine x_laldN F hw 0 1 rfl rfl 0 rfl (by decide) (by decide) dL_law_866 ?_
    refine lv_lload F.1 F.2.1 dL_law_867 (lv_at hl 0 rfl) ?_
    refine x_l_eq (tgt := 875) F dL_law_869 dL_law_870 (by decide) (fun c869 => ?_) (fun c869 => ?_)
    rotate_left
    · exact (c869 (hv0 c861)).elim
    refine lv_goto (tgt := 1549) F.1 F.2.1 dL_law_875 (by decide) ?_
    refine lv_iinc (v := nI (9 * (k + 1))) (lv' := [(4, .int (nI (9 * (k + 1)))), (6, .long r6), (5, .int r9), (0, .ref b), (1, .ref (tH K)), (2, .ref (bH M)), (3, .ref oa)]) F.1 F.2.1 dL_law_1549 hl (k := 6) rfl (by rw [show Int32.ofInt 9 = nI 9 from rfl, nI_add, Nat.mul_succ]) (by decide) rfl (fun ls hl => ?_)
    refine lv_goto (tgt := 23) F.1 F.2.1 dL_law_1552 (by decide) ?_
    refine W.widen (k := 1000 + 60 * (k + 1) + (gL (tG w2.1) - 65)) (n := 40000 + 11000 * (k + 1) + 10 * (gL (tG w2.1) - 65)) (by omega) (by omega) ?_
    exact nx w2.1 kp u2 w2.2 H _ ls (hR2.up (by omega)) (pm_w hw (q_4 _ _ _ _)) (lv_sub hl [3, 4, 5, 6, 0] rfl)

set_option maxHeartbeats 8000000 in
set_option maxRecDepth 100000 in
theorem lc_next {p : Program} {l : Launch} {e : Env} {s : State} {m : MethodId} {below : List Frame} {meth : Method} {c : Code} {G : va_G} {cI cJ cZ cO : ClassId} {b L oa : Nat} {xs : Nat → Int32} {K : TrA} {M : MA} {k kc ks : Nat} {tr : TrR} {kp : List (StA × StR)} {v : MR} {of9 : Nat → Int64} {H : Heap} {locs : List Loc} {ls : Array Slot}  (F : CallFix p m c cL_law 8 s #[Value.ref b] wsL_law RL) (hst : l.stackTraces = false) (hE : xEn (fun q => s.heap.size ≤ q) s s.heap) (hX : va_X b L xs s s.heap) (hbl : b < s.heap.size) (hL : L ≤ 4608) (hk : 9 * k + 9 ≤ L) (nx : lwN p l e s m below meth c G cI cJ cZ cO b oa K M (k + 1)) (hkc : kc = 1000 + 60 * k + (gL (tG tr) - 65)) (hks : ks = 40000 + 11000 * k + 10 * (gL (tG tr) - 65)) (hR : LRel tr kp v (2081 * k)) (hw : xW G (xK cI cJ cZ cO) (fun q => s.heap.size ≤ q) s.heap s ([(oa, .inl (cJ, 1, .inr (.inl of9)))] ++ (wTr cI cJ cO K tr ++ (wPl cI cJ kp ++ wMo cI cJ cZ M v))) H locs) (hl : lv_has ls 8 [(0, .ref b), (1, .ref (tH K)), (2, .ref (bH M)), (3, .ref oa), (4, .int (nI (9 * k)))]) :
    W p l e room_1 s m #[Value.ref b] below meth c H locs kc ks (lw_Z below #[Value.ref b] s) (F0 m 878 ls []) := by
  have hg5 : 65 ≤ gL (tG tr) ∧ gL (tG tr) ≤ 2080 := by
    have h := hR.1.2.1
    unfold gLok at h
    omega
  refine lv_aload_n F.1 F.2.1 dL_law_878 rfl (lv_at hl 1 rfl) ?_
  refine lv_aload_n F.1 F.2.1 dL_law_879 rfl (lv_at hl 0 rfl) ?_
  refine lv_iload F.1 F.2.1 dL_law_880 (lv_at hl 4 rfl) ?_
  refine lv_iconst (v := 1) F.1 F.2.1 dL_law_882 (by decide) ?_
  refine lv_iadd F.1 F.2.1 dL_law_883 ?_
  refine x_topi (v := nI ((9 * k) + 1)) ((nI_add (9 * k) 1).symm) ?_
  refine x_sldN F hX hbl hw ((9 * k) + 1) rfl (by omega) (by omega) dL_law_884 ?_
  refine lv_aload_n F.1 F.2.1 dL_law_885 rfl (lv_at hl 3 rfl) ?_
  refine lw_S (As := [.ref (tH K), .int (xs ((9 * k) + 1)), .ref oa]) (rest := []) (wPl cI cJ kp ++ wMo cI cJ cZ M v) F hw hE (q_1 _ _ _ _) (c_L_next l G cI cJ cZ cO _ hst K tr (xs ((9 * k) + 1)) hR.1.1.1.1 oa of9) (vx_cwSW 3 F.2.2.2.2 gL_law_L_next rfl rfl rfl (by decide +kernel) ⟨Nat.le_of_ble_eq_true rfl, Nat.le_of_ble_eq_true rfl⟩) rfl hl.1 rfl (lv_room (Nat.le_of_ble_eq_true rfl)) dL_law_886 ⟨by show kc + 1 ≤ 601024; omega, by show ks + 6 ≤ 7293034; omega⟩ (fun r9 w2 H locs hc hw => ?_)
  refine lv_istore (lv' := [(5, .int r9), (0, .ref b), (1, .ref (tH K)), (2, .ref (bH M)), (3, .ref oa), (4, .int (nI (9 * k)))]) F.1 F.2.1 dL_law_889 hl (by decide) rfl (fun ls hl => ?_)
  refine lv_aload_n F.1 F.2.1 dL_law_891 rfl (lv_at hl 3 rfl) ?_
  refine lv_aload_n F.1 F.2.1 dL_law_892 rfl (lv_at hl 1 rfl) ?_
  refine lv_iload F.1 F.2.1 dL_law_893 (lv_at hl 5 rfl) ?_
  refine lv_iconst (v := 1) F.1 F.2.1 dL_law_895 (by decide) ?_
  refine lv_iadd F.1 F.2.1 dL_law_896 ?_
  refine x_topi (v := nI ((9 * k) + 1)) ((nI_add (9 * k) 1).symm) ?_
  refine x_sldN F hX hbl hw ((9 * k) + 1) rfl (by omega) (by omega) dL_law_897 ?_
  refine lw_V (As := [.int (xs ((9 * k) + 1))]) (rest := []) ([(oa, .inl (cJ, 1, .inr (.inl w2.2)))] ++ (wTr cI cJ cO K w2.1 ++ wPl cI cJ kp)) F hw (q_2 _ _ _ _) (c_X4_next l G cI cJ cZ cO _ M v (xs ((9 * k) + 1)) (hR.2.2.2.2.2.1 0 (by decide))) (cwV 1 F.2.2.2.2 gL_law_X4_next rfl rfl rfl (by decide +kernel) ⟨Nat.le_of_ble_eq_true rfl, Nat.le_of_ble_eq_true rfl⟩) rfl rfl rfl hl.1 rfl (lv_room (Nat.le_of_ble_eq_true rfl)) dL_law_898 ⟨by show kc + 1 ≤ 601024; omega, by show ks + 6 ≤ 7293034; omega⟩ (fun r6 u2 H locs hm hw => ?_)
  obtain ⟨hcd, hv0, hR2⟩ := op_next hR hc hm
  have hgl : gL (tG w2.1) = gL (tG tr) := by rcases hc with ⟨-, _, ⟨-, h⟩, -⟩ | ⟨-, h, -⟩ <;> rw [h] <;> rfl
  clear hc hm
  refine lv_istore (lv' := [(6, .int r6), (5, .int r9), (0, .ref b), (1, .ref (tH K)), (2, .ref (bH M)), (3, .ref oa), (4, .int (nI (9 * k)))]) F.1 F.2.1 dL_law_901 hl (by decide) rfl (fun ls hl => ?_)
  refine lv_aload_n F.1 F.2.1 dL_law_903 rfl (lv_at hl 4 rfl) ?_
  refine lw_T (As := []) (rest := []) ([(oa, .inl (cJ, 1, .inr (.inl w2.2)))] ++ (wTr cI cJ cO K w2.1 ++ wPl cI cJ kp)) F hw (q_3 _ _) (c_X4_thrown l G cI cJ cZ cO _ M u2) (cwV 0 F.2.2.2.2 gL_law_X4_thrown rfl rfl rfl (by decide +kernel) ⟨Nat.le_of_ble_eq_true rfl, Nat.le_of_ble_eq_true rfl⟩) rfl rfl rfl hl.1 rfl (lv_room (Nat.le_of_ble_eq_true rfl)) dL_law_904 ⟨by show kc + 1 ≤ 601024; omega, by show ks + 6 ≤ 7293034; omega⟩ (fun rt ht => ?_)
  refine lv_iload F.1 F.2.1 dL_law_907 (lv_at hl 1 rfl) ?_
  refine lv_icmp_eq (tgt := 914) F.1 F.2.1 dL_law_909 (by decide) (fun c909 => ?_) (fun c909 => ?_)
  rotate_left
  · exact (c909 (ht.trans hcd)).elim
  refine lv_iload F.1 F.2.1 dL_law_914 (lv_at hl 1 rfl) ?_
  refine lv_if_ne (tgt := 931) F.1 F.2.1 dL_law_916 (by decide) (fun c916 => ?_) (fun c916 => ?_)
  · refine lv_goto (tgt := 1549) F.1 F.2.1 dL_law_931 (by decide) ?_
    refine lv_iinc (v := nI (9 * (k + 1))) (lv' := [(4, .int (nI (9 * (k + 1)))), (6, .int r6), (5, .int r9), (0, .ref b), (1, .ref (tH K)), (2, .ref (bH M)), (3, .ref oa)]) F.1 F.2.1 dL_law_1549 hl (k := 6) rfl (by rw [show Int32.ofInt 9 = nI 9 from rfl, nI_add, Nat.mul_succ]) (by decide) rfl (fun ls hl => ?_)
    refine lv_goto (tgt := 23) F.1 F.2.1 dL_law_1552 (by decide) ?_
    refine W.widen (k := 1000 + 60 * (k + 1) + (gL (tG w2.1) - 65)) (n := 40000 + 11000 * (k + 1) + 10 * (gL (tG w2.1) - 65)) (by omega) (by omega) ?_
    exact nx w2.1 kp u2 w2.2 H _ ls (hR2.up (by omega)) (pm_w hw (q_4 _ _ _ _)) (lv_sub hl [3, 4, 5, 6, 0] rfl)
  · refine lv_aload_n F.1 F.2.1 dL_law_919 rfl (lv_at hl 5 rfl) ?_
    refine lv_iconst (v := 0) F.1 F.2.1 dL_law_920 (by decide) ?_
    refine x_laldN F hw 0 1 rfl rfl 0 rfl (by decide) (by decide) dL_law_921 ?_
    refine lv_iload F.1 F.2.1 dL_law_922 (lv_at hl 0 rfl) ?_
    refine lv_i2l (v := r6.toInt64) F.1 F.2.1 dL_law_924 (rfl) ?_
    refine x_l_eq (tgt := 931) F dL_law_925 dL_law_926 (by decide) (fun c925 => ?_) (fun c925 => ?_)
    rotate_left
    · exact (c925 (hv0 c916)).elim
    refine lv_goto (tgt := 1549) F.1 F.2.1 dL_law_931 (by decide) ?_
    refine lv_iinc (v := nI (9 * (k + 1))) (lv' := [(4, .int (nI (9 * (k + 1)))), (6, .int r6), (5, .int r9), (0, .ref b), (1, .ref (tH K)), (2, .ref (bH M)), (3, .ref oa)]) F.1 F.2.1 dL_law_1549 hl (k := 6) rfl (by rw [show Int32.ofInt 9 = nI 9 from rfl, nI_add, Nat.mul_succ]) (by decide) rfl (fun ls hl => ?_)
    refine lv_goto (tgt := 23) F.1 F.2.1 dL_law_1552 (by decide) ?_
    refine W.widen (k := 1000 + 60 * (k + 1) + (gL (tG w2.1) - 65)) (n := 40000 + 11000 * (k + 1) + 10 * (gL (tG w2.1) - 65)) (by omega) (by omega) ?_
    exact nx w2.1 kp u2 w2.2 H _ ls (hR2.up (by omega)) (pm_w hw (q_4 _ _ _ _)) (lv_sub hl [3, 4, 5, 6, 0] rfl)
