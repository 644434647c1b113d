theorem lw_go {L k : Nat} (hL : L ≤ 4608) (hk : k ≤ 512) (h : ¬ Int32.ofNat L - 9 < nI (9 * k)) : 9 * k + 9 ≤ L := by
  have h1 : (nI L - nI 9).toInt = (L : Int) - (9 : Nat) := pk_sub_toInt (by omega) (by decide)
  have h2 : (nI (9 * k)).toInt = ((9 * k : Nat) : Int) := nI_toInt (by omega)
  have h3 : ¬ (nI L - nI 9).toInt < (nI (9 * k)).toInt := fun q => h (Int32.lt_iff_toInt_lt.mpr q)
  rw [h1, h2] at h3
  omega
set_option maxHeartbeats 8000000 in
set_option maxRecDepth 100000 in
/-- the loop's head: the end, or one call more -/
theorem lw_step {p : Program} {l : Launch} {e : Env} {s : State} {m : MethodId} {below : List Frame} {meth : Method} {c : Code} {G : va_G} {cI cJ cZ cO : ClassId} {b L oa : Nat} {xs : Nat → Int32} {K : TrA} {M : MA} (F : CallFix p m c cL_law 8 s #[Value.ref b] wsL_law RL) (hst : l.stackTraces = false) (hE : xEn (fun q => s.heap.size ≤ q) s s.heap) (hX : va_X b L xs s s.heap) (hbl : b < s.heap.size) (hL : L ≤ 4608) (hr : meth.sig.returnType = ret) (hlk : meth.locks = false) (k : Nat) (hk5 : k ≤ 512) (nxt : 9 * k + 9 ≤ L → lwN p l e s m below meth c G cI cJ cZ cO b oa K M (k + 1)) : lwN p l e s m below meth c G cI cJ cZ cO b oa K M k := by
  intro tr kp v of9 H locs ls hR hw hl
  have hg5 : 65 ≤ gL (tG tr) ∧ gL (tG tr) ≤ 2080 := by
    have h := hR.1.2.1
    unfold gLok at h
    omega
  refine lv_iload F.1 F.2.1 dL_law_23 (lv_at hl 4 rfl) ?_
  refine lv_aload_n F.1 F.2.1 dL_law_25 rfl (lv_at hl 0 rfl) ?_
  refine va_slen (A := fun q => s.heap.size ≤ q) F.1 F.2.1 hX hbl (Nat.not_le.mpr hbl) hw.2.2.2.1 dL_law_26 ?_
  refine lv_bipush (v := 9) F.1 F.2.1 dL_law_27 (by decide) ?_
  refine lv_isub F.1 F.2.1 dL_law_29 ?_
  refine lv_icmp_gt (tgt := 1555) F.1 F.2.1 dL_law_30 (by decide) (fun c30 => ?_) (fun c30 => ?_)
  · refine lv_iconst (v := 1) F.1 F.2.1 dL_law_1555 (by decide) ?_
    refine va_forget (fun q hq => hw.2.2.2.1.2.2 q hq) ?_
    refine W.widen (k := 601024) (n := 7293034) (by omega) (by omega) ?_
    exact lw_ret F.1 F.2.1 hr hlk dL_law_1556
  have hk := lw_go hL hk5 c30
  have nx := nxt hk
  obtain ⟨k1, k2, k3, k4, k5, k6⟩ := hR.2.2.2.2.2.2
  refine lv_aload_n F.1 F.2.1 dL_law_33 rfl (lv_at hl 0 rfl) ?_
  refine lv_iload F.1 F.2.1 dL_law_34 (lv_at hl 4 rfl) ?_
  refine x_sldN F hX hbl hw (9 * k) rfl (by omega) (by omega) dL_law_36 ?_
  refine lv_bipush (v := 31) F.1 F.2.1 dL_law_37 (by decide) ?_
  refine lv_iand F.1 F.2.1 dL_law_39 ?_
  obtain ⟨j, hj, ej⟩ := pk_andE (xs (9 * k)) (m := 31) 5 (by decide)
  refine x_topi (v := nI j) ej.symm ?_
  rcases (show j = 0 ∨ j = 1 ∨ j = 2 ∨ j = 3 ∨ j = 4 ∨ j = 5 ∨ j = 6 ∨ j = 7 ∨ j = 8 ∨ j = 9 ∨ j = 10 ∨ j = 11 ∨ j = 12 ∨ j = 13 ∨ j = 14 ∨ j = 15 ∨ j = 16 ∨ j = 17 ∨ 18 ≤ j by omega) with rfl | rfl | rfl | rfl | rfl | rfl | rfl | rfl | rfl | rfl | rfl | rfl | rfl | rfl | rfl | rfl | rfl | rfl | h18
  · refine lv_tableIn (tgt := 128) F.1 F.2.1 dL_law_40 (by decide) (by decide) rfl (by decide) ?_
    exact lc_clear F hst hE hX hbl hL hk nx rfl rfl hR hw hl
  · refine lv_tableIn (tgt := 141) F.1 F.2.1 dL_law_40 (by decide) (by decide) rfl (by decide) ?_
    exact lc_set F hst hE hX hbl hL hk nx rfl rfl hR hw hl
  · refine lv_tableIn (tgt := 347) F.1 F.2.1 dL_law_40 (by decide) (by decide) rfl (by decide) ?_
    exact lc_move F hst hE hX hbl hL hk nx rfl rfl hR hw hl
  · refine lv_tableIn (tgt := 446) F.1 F.2.1 dL_law_40 (by decide) (by decide) rfl (by decide) ?_
    exact lc_cancel F hst hE hX hbl hL hk nx rfl rfl hR hw hl
  · refine lv_tableIn (tgt := 471) F.1 F.2.1 dL_law_40 (by decide) (by decide) rfl (by decide) ?_
    exact lc_row F hst hE hX hbl hL hk nx rfl rfl hR hw hl
  · refine lv_tableIn (tgt := 603) F.1 F.2.1 dL_law_40 (by decide) (by decide) rfl (by decide) ?_
    exact lc_first F hst hE hX hbl hL hk nx rfl rfl hR hw hl
  · refine lv_tableIn (tgt := 644) F.1 F.2.1 dL_law_40 (by decide) (by decide) rfl (by decide) ?_
    by_cases hgo : cClk (xs ((9 * k) + 1)) ∧ gTim (lJ (xs ((9 * k) + 2)) (xs ((9 * k) + 3))) ∧ ¬ (lJ (xs ((9 * k) + 2)) (xs ((9 * k) + 3))) < sNw (tX tr) ((xs ((9 * k) + 1))).toNatClampNeg
    · exact lc_passA F hst hE hX hbl hL hk nx rfl rfl hR hw hl hgo
    · exact lc_passB F hst hE hX hbl hL hk nx rfl rfl hR hw hl hgo
  · refine lv_tableIn (tgt := 744) F.1 F.2.1 dL_law_40 (by decide) (by decide) rfl (by decide) ?_
    exact lc_done F hst hE hX hbl hL hk nx rfl rfl hR hw hl
  · refine lv_tableIn (tgt := 811) F.1 F.2.1 dL_law_40 (by decide) (by decide) rfl (by decide) ?_
    exact lc_told F hst hE hX hbl hL hk nx rfl rfl hR hw hl
  · refine lv_tableIn (tgt := 878) F.1 F.2.1 dL_law_40 (by decide) (by decide) rfl (by decide) ?_
    exact lc_next F hst hE hX hbl hL hk nx rfl rfl hR hw hl
  · refine lv_tableIn (tgt := 934) F.1 F.2.1 dL_law_40 (by decide) (by decide) rfl (by decide) ?_
    exact lc_waiting F hst hE hX hbl hL hk nx rfl rfl hR hw hl
  · refine lv_tableIn (tgt := 1126) F.1 F.2.1 dL_law_40 (by decide) (by decide) rfl (by decide) ?_
    by_cases hlt : tN tr < kp.length
    · have h3 : tN tr < 3 := by omega
      have hkt : kp[tN tr]? = some (kp[tN tr].1, kp[tN tr].2) := List.getElem?_eq_getElem hlt
      exact lc_keepS F hst hE hX hbl hL hk nx rfl rfl hR hw hl h3 hkt (by rw [k5 _ h3, hkt]; rfl)
    · exact lc_keepN F hst hE hX hbl hL hk nx rfl rfl hR hw hl (fun h3 => by rw [k5 _ h3, List.getElem?_eq_none (by omega)]; rfl)
  · refine lv_tableIn (tgt := 1170) F.1 F.2.1 dL_law_40 (by decide) (by decide) rfl (by decide) ?_
    by_cases hex : ∃ j, j < tN tr ∧ (xs ((9 * k) + 1)) = nI j
    · obtain ⟨j, hj9, hx⟩ := hex
      have hjl : j < kp.length := by omega
      have hkt : kp[j]? = some (kp[j].1, kp[j].2) := List.getElem?_eq_getElem hjl
      exact lc_backS F hst hE hX hbl hL hk nx rfl rfl hR hw hl hj9 hkt (by rw [k5 j (by omega), hkt]; rfl) (k6 j _ hj9 hkt).1 hx
    · exact lc_backN F hst hE hX hbl hL hk nx rfl rfl hR hw hl (fun j hj e => hex ⟨j, hj, e⟩)
  · refine lv_tableIn (tgt := 1226) F.1 F.2.1 dL_law_40 (by decide) (by decide) rfl (by decide) ?_
    exact lc_forget F hst hE hX hbl hL hk nx rfl rfl hR hw hl
  · refine lv_tableIn (tgt := 1270) F.1 F.2.1 dL_law_40 (by decide) (by decide) rfl (by decide) ?_
    exact lc_task F hst hE hX hbl hL hk nx rfl rfl hR hw hl
  · refine lv_tableIn (tgt := 1370) F.1 F.2.1 dL_law_40 (by decide) (by decide) rfl (by decide) ?_
    exact lc_load F hst hE hX hbl hL hk nx rfl rfl hR hw hl
  · refine lv_tableIn (tgt := 1438) F.1 F.2.1 dL_law_40 (by decide) (by decide) rfl (by decide) ?_
    exact lc_of F hst hE hX hbl hL hk nx rfl rfl hR hw hl
  · refine lv_tableIn (tgt := 1494) F.1 F.2.1 dL_law_40 (by decide) (by decide) rfl (by decide) ?_
    exact lc_now F hst hE hX hbl hL hk nx rfl rfl hR hw hl
  · refine lv_tableOut (tgt := 1549) F.1 F.2.1 dL_law_40 (Or.inr (by rw [nI_toInt (by omega)]; omega)) (by decide) ?_
    refine lv_iinc (v := nI (9 * (k + 1))) (lv' := [(4, .int (nI (9 * (k + 1)))), (0, .ref b), (1, .ref (tH K)), (2, .ref (bH M)), (3, .ref oa)]) F.1 F.2.1 dL_law_1549 hl (k := 4) rfl (by rw [show Int32.ofInt 9 = nI 9 from rfl, nI_add, Nat.mul_succ]) (by decide) rfl (fun ls hl => ?_)
    refine lv_goto (tgt := 23) F.1 F.2.1 dL_law_1552 (by decide) ?_
    refine W.widen (k := 1000 + 60 * (k + 1) + (gL (tG tr) - 65)) (n := 40000 + 11000 * (k + 1) + 10 * (gL (tG tr) - 65)) (by omega) (by omega) ?_
    exact nx tr kp v of9 H _ ls (hR.up (by omega)) hw (lv_sub hl [1, 2, 3, 4, 0] rfl)
theorem law_loop {p : Program} {l : Launch} {e : Env} {s : State} {m : MethodId} {below : List Frame} {meth : Method} {c : Code} {G : va_G} {cI cJ cZ cO : ClassId} {b L oa : Nat} {xs : Nat → Int32} {K : TrA} {M : MA} (F : CallFix p m c cL_law 8 s #[Value.ref b] wsL_law RL) (hst : l.stackTraces = false) (hE : xEn (fun q => s.heap.size ≤ q) s s.heap) (hX : va_X b L xs s s.heap) (hbl : b < s.heap.size) (hL : L ≤ 4608) (hr : meth.sig.returnType = ret) (hlk : meth.locks = false) : ∀ n k : Nat, k ≤ 512 → L < 9 * (k + n) → lwN p l e s m below meth c G cI cJ cZ cO b oa K M k := by
  intro n
  induction n with
  | zero => exact fun k hk hn => lw_step F hst hE hX hbl hL hr hlk k hk (fun h => by omega)
  | succ n ih => exact fun k hk hn => lw_step F hst hE hX hbl hL hr hlk k hk (fun h => ih (k + 1) (by omega) (by omega))
