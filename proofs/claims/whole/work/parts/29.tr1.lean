set_option maxHeartbeats 8000000 in
set_option maxRecDepth 100000 in
/-- needTimer(timer) -/
theorem c_X3_needTimer (l : Launch) (G : va_G) (cI cJ cZ cO : ClassId) (sz : Nat) (hst : l.stackTraces = false) (K : TrA) (tr : TrR) (x : Int32) (hok : LnOk (sT (tX tr))) : vx_Met l yX3_needTimer wsX3_needTimer ({ frames := 6, cells := 1, slots := 6, locals := 82 }) (xPe G (xK cI cJ cZ cO) sz [.ref (tH K), .int x] (wTr cI cJ cO K tr)) (xQi (fun r => ∃ k, k < lSz (sT (tX tr)) ∧ eN (lAt (sT (tX tr)) k) = x ∧ r = nI k)) (xXC (fun E => E = xNS ∧ ∀ i, i < lSz (sT (tX tr)) → eN (lAt (sT (tX tr)) i) ≠ x)) 1 6 (fun _ => False) := by
  refine x_bodyX (by decide) rfl (Nat.le_of_ble_eq_true rfl) ?_
  intro p e s m below meth c F hr hlk hnm hsz hw hE hout ls hl
  subst hsz
  have F : CallFix p m c cX3_needTimer 3 s _ wsX3_needTimer RX3 := F
  have hl : lv_has ls 3 [(0, .ref (tH K)), (1, .int x)] := hl
  have hw : xW G (xK cI cJ cZ cO) _ s.heap s [(tH K, .inr (3, [.ref (sH (tS K)), .ref (tK K), .ref (tL K), .int (nI (tN tr))])), (tK K, .inl (cO, 3, .inr (.inr (.inr (.inr (tF tr)))))), (sH (tS K), .inr (2, [.ref (aH (sTA (tS K))), .ref (aH (sRA (tS K))), .ref (sWA (tS K)), .int (sTs (tX tr)), .int (sRc (tX tr)), .int (sLa (tX tr)), .int (sRf (tX tr))])), (sWA (tS K), .inl (cJ, 2, .inr (.inl (sNw (tX tr))))), (aH (sTA (tS K)), .inr (0, [.ref (aO (sTA (tS K))), .ref (aN (sTA (tS K))), .ref (aC (sTA (tS K))), .ref (aK (sTA (tS K))), .ref (aT (sTA (tS K))), .ref (aG (sTA (tS K))), .ref (aF (sTA (tS K))), .int (nI (lSz (sT (tX tr))))])), (aO (sTA (tS K)), .inl (cI, 40, .inl (lO (sT (tX tr))))), (aN (sTA (tS K)), .inl (cI, 40, .inl (lNu (sT (tX tr))))), (aC (sTA (tS K)), .inl (cI, 40, .inl (lCk (sT (tX tr))))), (aK (sTA (tS K)), .inl (cJ, 40, .inr (.inl (lKe (sT (tX tr)))))), (aT (sTA (tS K)), .inl (cJ, 40, .inr (.inl (lTi (sT (tX tr)))))), (aG (sTA (tS K)), .inl (cJ, 40, .inr (.inl (lGa (sT (tX tr)))))), (aF (sTA (tS K)), .inl (cI, 40, .inl (lOf (sT (tX tr))))), (aH (sRA (tS K)), .inr (0, [.ref (aO (sRA (tS K))), .ref (aN (sRA (tS K))), .ref (aC (sRA (tS K))), .ref (aK (sRA (tS K))), .ref (aT (sRA (tS K))), .ref (aG (sRA (tS K))), .ref (aF (sRA (tS K))), .int (nI (lSz (sR (tX tr))))])), (aO (sRA (tS K)), .inl (cI, 40, .inl (lO (sR (tX tr))))), (aN (sRA (tS K)), .inl (cI, 40, .inl (lNu (sR (tX tr))))), (aC (sRA (tS K)), .inl (cI, 40, .inl (lCk (sR (tX tr))))), (aK (sRA (tS K)), .inl (cJ, 40, .inr (.inl (lKe (sR (tX tr)))))), (aT (sRA (tS K)), .inl (cJ, 40, .inr (.inl (lTi (sR (tX tr)))))), (aG (sRA (tS K)), .inl (cJ, 40, .inr (.inl (lGa (sR (tX tr)))))), (aF (sRA (tS K)), .inl (cI, 40, .inl (lOf (sR (tX tr))))), (tL K, .inr (1, [.ref (g1 (tG tr)), .ref (g2 (tG tr)), .ref (g3 (tG tr)), .ref (g4 (tG tr)), .ref (g5 (tG tr)), .int (nI (gN (tG tr)))])), (g1 (tG tr), .inl (cI, gL (tG tr), .inl (gKi (tG tr)))), (g2 (tG tr), .inl (cI, gL (tG tr), .inl (gNu (tG tr)))), (g3 (tG tr), .inl (cJ, gL (tG tr), .inr (.inl (gKe (tG tr))))), (g4 (tG tr), .inl (cJ, gL (tG tr), .inr (.inl (gTi (tG tr))))), (g5 (tG tr), .inl (cI, gL (tG tr), .inl (gOf (tG tr))))] s.heap [] := hw
  have iX2 : ∀ w ∈ wsX20, w ∈ wsX3_needTimer := by decide +kernel
  have iX3 : ∀ w ∈ wsX30, w ∈ wsX3_needTimer := by decide +kernel
  refine lv_aload_n F.1 F.2.1 dX3_needTimer_0 rfl (lv_at hl 0 rfl) ?_
  refine x_get F hw iX3 0 rfl rfl 0 (by decide) rfl (List.mem_of_getElem? (i := 3) rfl) rfl dX3_needTimer_1 ?_
  refine x_get F hw iX2 2 rfl rfl 0 (by decide) rfl (List.mem_of_getElem? (i := 4) rfl) rfl dX3_needTimer_4 ?_
  refine lv_iload_n F.1 F.2.1 dX3_needTimer_7 rfl (lv_at hl 1 rfl) ?_
  refine x_ri (va_runV (As := [.int x]) (rest := []) F (c_X0_placeOf l G cI cJ cZ cO (Array.size _) (sTA (tS K)) (sT (tX tr)) x hok) (cwV 1 F.2.2.2.2 gX3_needTimer_X0_placeOf rfl rfl rfl (by decide +kernel) ⟨Nat.le_of_ble_eq_true rfl, Nat.le_of_ble_eq_true rfl⟩) (x_preVW hw [4, 5, 6, 7, 8, 9, 10, 11] rfl (by decide) 4 rfl rfl) rfl rfl hl.1 rfl (lv_room (Nat.le_of_ble_eq_true rfl)) dX3_needTimer_8 ⟨Nat.le_of_ble_eq_true rfl, Nat.le_of_ble_eq_true rfl⟩) (fun r8 hr8 => ?_)
  refine lv_istore_n (lv' := [(2, .int r8), (0, .ref (tH K)), (1, .int x)]) F.1 F.2.1 dX3_needTimer_11 rfl hl (by decide) rfl (fun ls hl => ?_)
  refine lv_iload_n F.1 F.2.1 dX3_needTimer_12 rfl (lv_at hl 0 rfl) ?_
  refine lv_iconst (v := (-1)) F.1 F.2.1 dX3_needTimer_13 (by decide) ?_
  refine lv_icmp_ne (tgt := 27) F.1 F.2.1 dX3_needTimer_14 (by decide) (fun c14 => ?_) (fun c14 => ?_)
  · obtain ⟨k9, hk9, hn9, -, rfl⟩ : ∃ k, k < lSz (sT (tX tr)) ∧ eN (lAt (sT (tX tr)) k) = x ∧ (∀ i, i < k → eN (lAt (sT (tX tr)) i) ≠ x) ∧ r8 = nI k := by
      rcases hr8 with h | h
      · exact h
      · exact absurd h.2 c14
    refine lv_iload_n F.1 F.2.1 dX3_needTimer_27 rfl (lv_at hl 0 rfl) ?_
    refine vx_ret ?_
    refine W.widen (k := 1) (n := 6) (by omega) (by omega) ?_
    exact x_riret F hr hlk (⟨k9, hk9, hn9, rfl⟩) dX3_needTimer_28
  · have hno : ∀ i, i < lSz (sT (tX tr)) → eN (lAt (sT (tX tr)) i) ≠ x := by
      rcases hr8 with ⟨k, hk, -, -, e⟩ | h
      · have h40 := hok.1; rw [e] at c14; exact absurd c14 (nI_ne (by omega))
      · exact h.1
    exact x_thrN rfl rfl F hw hE hst fit_NS bad_NS ot_NS (fun w h => List.mem_cons_of_mem _ (List.mem_append_right _ h)) (List.mem_of_getElem? (i := 1) rfl) (List.mem_of_getElem? (i := 2) rfl) (is := 211) (tx := "no timer of this number waits") (by decide) hl.1 dX3_needTimer_17 dX3_needTimer_20 dX3_needTimer_21 dX3_needTimer_23 dX3_needTimer_26 hout hlk (Nat.le_of_ble_eq_true rfl) (Nat.le_of_ble_eq_true rfl) (Nat.le_of_ble_eq_true rfl) (Nat.le_of_ble_eq_true rfl) (⟨rfl, hno⟩) (Nat.le_of_ble_eq_true rfl) (Nat.le_of_ble_eq_true rfl)

set_option maxHeartbeats 8000000 in
set_option maxRecDepth 100000 in
/-- now(clock) -/
theorem c_X3_now (l : Launch) (G : va_G) (cI cJ cZ cO : ClassId) (sz : Nat) (hst : l.stackTraces = false) (K : TrA) (tr : TrR) (x : Int32) : vx_Met l yX3_now wsX3_now ({ frames := 7, cells := 1, slots := 6, locals := 102 }) (xPe G (xK cI cJ cZ cO) sz [.ref (tH K), .int x] (wTr cI cJ cO K tr)) (xQl (fun r => cClk x ∧ r = sNw (tX tr) x.toNatClampNeg)) (xXC (fun E => E = xIA ∧ ¬ cClk x)) 1 6 (fun _ => False) := by
  refine x_bodyX (by decide) rfl (Nat.le_of_ble_eq_true rfl) ?_
  intro p e s m below meth c F hr hlk hnm hsz hw hE hout ls hl
  subst hsz
  have F : CallFix p m c cX3_now 2 s _ wsX3_now RX3 := F
  have hl : lv_has ls 2 [(0, .ref (tH K)), (1, .int x)] := hl
  have hw : xW G (xK cI cJ cZ cO) _ s.heap s [(tH K, .inr (3, [.ref (sH (tS K)), .ref (tK K), .ref (tL K), .int (nI (tN tr))])), (tK K, .inl (cO, 3, .inr (.inr (.inr (.inr (tF tr)))))), (sH (tS K), .inr (2, [.ref (aH (sTA (tS K))), .ref (aH (sRA (tS K))), .ref (sWA (tS K)), .int (sTs (tX tr)), .int (sRc (tX tr)), .int (sLa (tX tr)), .int (sRf (tX tr))])), (sWA (tS K), .inl (cJ, 2, .inr (.inl (sNw (tX tr))))), (aH (sTA (tS K)), .inr (0, [.ref (aO (sTA (tS K))), .ref (aN (sTA (tS K))), .ref (aC (sTA (tS K))), .ref (aK (sTA (tS K))), .ref (aT (sTA (tS K))), .ref (aG (sTA (tS K))), .ref (aF (sTA (tS K))), .int (nI (lSz (sT (tX tr))))])), (aO (sTA (tS K)), .inl (cI, 40, .inl (lO (sT (tX tr))))), (aN (sTA (tS K)), .inl (cI, 40, .inl (lNu (sT (tX tr))))), (aC (sTA (tS K)), .inl (cI, 40, .inl (lCk (sT (tX tr))))), (aK (sTA (tS K)), .inl (cJ, 40, .inr (.inl (lKe (sT (tX tr)))))), (aT (sTA (tS K)), .inl (cJ, 40, .inr (.inl (lTi (sT (tX tr)))))), (aG (sTA (tS K)), .inl (cJ, 40, .inr (.inl (lGa (sT (tX tr)))))), (aF (sTA (tS K)), .inl (cI, 40, .inl (lOf (sT (tX tr))))), (aH (sRA (tS K)), .inr (0, [.ref (aO (sRA (tS K))), .ref (aN (sRA (tS K))), .ref (aC (sRA (tS K))), .ref (aK (sRA (tS K))), .ref (aT (sRA (tS K))), .ref (aG (sRA (tS K))), .ref (aF (sRA (tS K))), .int (nI (lSz (sR (tX tr))))])), (aO (sRA (tS K)), .inl (cI, 40, .inl (lO (sR (tX tr))))), (aN (sRA (tS K)), .inl (cI, 40, .inl (lNu (sR (tX tr))))), (aC (sRA (tS K)), .inl (cI, 40, .inl (lCk (sR (tX tr))))), (aK (sRA (tS K)), .inl (cJ, 40, .inr (.inl (lKe (sR (tX tr)))))), (aT (sRA (tS K)), .inl (cJ, 40, .inr (.inl (lTi (sR (tX tr)))))), (aG (sRA (tS K)), .inl (cJ, 40, .inr (.inl (lGa (sR (tX tr)))))), (aF (sRA (tS K)), .inl (cI, 40, .inl (lOf (sR (tX tr))))), (tL K, .inr (1, [.ref (g1 (tG tr)), .ref (g2 (tG tr)), .ref (g3 (tG tr)), .ref (g4 (tG tr)), .ref (g5 (tG tr)), .int (nI (gN (tG tr)))])), (g1 (tG tr), .inl (cI, gL (tG tr), .inl (gKi (tG tr)))), (g2 (tG tr), .inl (cI, gL (tG tr), .inl (gNu (tG tr)))), (g3 (tG tr), .inl (cJ, gL (tG tr), .inr (.inl (gKe (tG tr))))), (g4 (tG tr), .inl (cJ, gL (tG tr), .inr (.inl (gTi (tG tr))))), (g5 (tG tr), .inl (cI, gL (tG tr), .inl (gOf (tG tr))))] s.heap [] := hw
  have iX2 : ∀ w ∈ wsX20, w ∈ wsX3_now := by decide +kernel
  have iX3 : ∀ w ∈ wsX30, w ∈ wsX3_now := by decide +kernel
  refine lv_iload_n F.1 F.2.1 dX3_now_0 rfl (lv_at hl 1 rfl) ?_
  refine x_xrv (vx_runS (As := [.int x]) (rest := []) F (c_X3_needClock l G cI cJ cZ cO (Array.size _) hst x) (va_cwS 1 F.2.2.2.2 gX3_now_X3_needClock rfl rfl rfl (by decide +kernel) ⟨Nat.le_of_ble_eq_true rfl, Nat.le_of_ble_eq_true rfl⟩) (x_preSE hw hE [] rfl (by decide)) rfl rfl hl.1 rfl (lv_room (Nat.le_of_ble_eq_true rfl)) dX3_now_1 ⟨Nat.le_of_ble_eq_true rfl, Nat.le_of_ble_eq_true rfl⟩) hout hlk (fun E h => h) (Nat.le_of_ble_eq_true rfl) (Nat.le_of_ble_eq_true rfl) (fun hclk => ?_)
  refine lv_aload_n F.1 F.2.1 dX3_now_4 rfl (lv_at hl 0 rfl) ?_
  refine x_get F hw iX3 0 rfl rfl 0 (by decide) rfl (List.mem_of_getElem? (i := 1) rfl) rfl dX3_now_5 ?_
  refine x_get F hw iX2 2 rfl rfl 2 (by decide) rfl (List.mem_of_getElem? (i := 2) rfl) rfl dX3_now_8 ?_
  refine lv_iload_n F.1 F.2.1 dX3_now_11 rfl (lv_at hl 1 rfl) ?_
  refine x_lald F hw 3 1 rfl rfl (cclk_in hclk) dX3_now_12 ?_
  refine vx_ret ?_
  refine W.widen (k := 1) (n := 6) (by omega) (by omega) ?_
  exact x_rlret F hr hlk (⟨hclk, rfl⟩) dX3_now_13

set_option maxHeartbeats 8000000 in
set_option maxRecDepth 100000 in
/-- next(clock) -/
theorem c_X3_next (l : Launch) (G : va_G) (cI cJ cZ cO : ClassId) (sz : Nat) (hst : l.stackTraces = false) (K : TrA) (tr : TrR) (x : Int32) (hok : LnOk (sT (tX tr))) : vx_Met l yX3_next wsX3_next ({ frames := 7, cells := 1, slots := 6, locals := 102 }) (xPe G (xK cI cJ cZ cO) sz [.ref (tH K), .int x] (wTr cI cJ cO K tr)) (xQi (fun r => cClk x ∧ ((∃ k, k < lSz (sT (tX tr)) ∧ eC (lAt (sT (tX tr)) k) = x ∧ (∀ i, i < k → eC (lAt (sT (tX tr)) i) ≠ x) ∧ r = eN (lAt (sT (tX tr)) k)) ∨ ((∀ i, i < lSz (sT (tX tr)) → eC (lAt (sT (tX tr)) i) ≠ x) ∧ r = -1)))) (xXC (fun E => E = xIA ∧ ¬ cClk x)) 1 6 (fun _ => False) := by
  refine x_bodyX (by decide) rfl (Nat.le_of_ble_eq_true rfl) ?_
  intro p e s m below meth c F hr hlk hnm hsz hw hE hout ls hl
  subst hsz
  have F : CallFix p m c cX3_next 3 s _ wsX3_next RX3 := F
  have hl : lv_has ls 3 [(0, .ref (tH K)), (1, .int x)] := hl
  have hw : xW G (xK cI cJ cZ cO) _ s.heap s [(tH K, .inr (3, [.ref (sH (tS K)), .ref (tK K), .ref (tL K), .int (nI (tN tr))])), (tK K, .inl (cO, 3, .inr (.inr (.inr (.inr (tF tr)))))), (sH (tS K), .inr (2, [.ref (aH (sTA (tS K))), .ref (aH (sRA (tS K))), .ref (sWA (tS K)), .int (sTs (tX tr)), .int (sRc (tX tr)), .int (sLa (tX tr)), .int (sRf (tX tr))])), (sWA (tS K), .inl (cJ, 2, .inr (.inl (sNw (tX tr))))), (aH (sTA (tS K)), .inr (0, [.ref (aO (sTA (tS K))), .ref (aN (sTA (tS K))), .ref (aC (sTA (tS K))), .ref (aK (sTA (tS K))), .ref (aT (sTA (tS K))), .ref (aG (sTA (tS K))), .ref (aF (sTA (tS K))), .int (nI (lSz (sT (tX tr))))])), (aO (sTA (tS K)), .inl (cI, 40, .inl (lO (sT (tX tr))))), (aN (sTA (tS K)), .inl (cI, 40, .inl (lNu (sT (tX tr))))), (aC (sTA (tS K)), .inl (cI, 40, .inl (lCk (sT (tX tr))))), (aK (sTA (tS K)), .inl (cJ, 40, .inr (.inl (lKe (sT (tX tr)))))), (aT (sTA (tS K)), .inl (cJ, 40, .inr (.inl (lTi (sT (tX tr)))))), (aG (sTA (tS K)), .inl (cJ, 40, .inr (.inl (lGa (sT (tX tr)))))), (aF (sTA (tS K)), .inl (cI, 40, .inl (lOf (sT (tX tr))))), (aH (sRA (tS K)), .inr (0, [.ref (aO (sRA (tS K))), .ref (aN (sRA (tS K))), .ref (aC (sRA (tS K))), .ref (aK (sRA (tS K))), .ref (aT (sRA (tS K))), .ref (aG (sRA (tS K))), .ref (aF (sRA (tS K))), .int (nI (lSz (sR (tX tr))))])), (aO (sRA (tS K)), .inl (cI, 40, .inl (lO (sR (tX tr))))), (aN (sRA (tS K)), .inl (cI, 40, .inl (lNu (sR (tX tr))))), (aC (sRA (tS K)), .inl (cI, 40, .inl (lCk (sR (tX tr))))), (aK (sRA (tS K)), .inl (cJ, 40, .inr (.inl (lKe (sR (tX tr)))))), (aT (sRA (tS K)), .inl (cJ, 40, .inr (.inl (lTi (sR (tX tr)))))), (aG (sRA (tS K)), .inl (cJ, 40, .inr (.inl (lGa (sR (tX tr)))))), (aF (sRA (tS K)), .inl (cI, 40, .inl (lOf (sR (tX tr))))), (tL K, .inr (1, [.ref (g1 (tG tr)), .ref (g2 (tG tr)), .ref (g3 (tG tr)), .ref (g4 (tG tr)), .ref (g5 (tG tr)), .int (nI (gN (tG tr)))])), (g1 (tG tr), .inl (cI, gL (tG tr), .inl (gKi (tG tr)))), (g2 (tG tr), .inl (cI, gL (tG tr), .inl (gNu (tG tr)))), (g3 (tG tr), .inl (cJ, gL (tG tr), .inr (.inl (gKe (tG tr))))), (g4 (tG tr), .inl (cJ, gL (tG tr), .inr (.inl (gTi (tG tr))))), (g5 (tG tr), .inl (cI, gL (tG tr), .inl (gOf (tG tr))))] s.heap [] := hw
  have iX0 : ∀ w ∈ wsX00, w ∈ wsX3_next := by decide +kernel
  have iX2 : ∀ w ∈ wsX20, w ∈ wsX3_next := by decide +kernel
  have iX3 : ∀ w ∈ wsX30, w ∈ wsX3_next := by decide +kernel
  refine lv_iload_n F.1 F.2.1 dX3_next_0 rfl (lv_at hl 1 rfl) ?_
  refine x_xrv (vx_runS (As := [.int x]) (rest := []) F (c_X3_needClock l G cI cJ cZ cO (Array.size _) hst x) (va_cwS 1 F.2.2.2.2 gX3_next_X3_needClock rfl rfl rfl (by decide +kernel) ⟨Nat.le_of_ble_eq_true rfl, Nat.le_of_ble_eq_true rfl⟩) (x_preSE hw hE [] rfl (by decide)) rfl rfl hl.1 rfl (lv_room (Nat.le_of_ble_eq_true rfl)) dX3_next_1 ⟨Nat.le_of_ble_eq_true rfl, Nat.le_of_ble_eq_true rfl⟩) hout hlk (fun E h => h) (Nat.le_of_ble_eq_true rfl) (Nat.le_of_ble_eq_true rfl) (fun hclk => ?_)
  refine lv_aload_n F.1 F.2.1 dX3_next_4 rfl (lv_at hl 0 rfl) ?_
  refine x_get F hw iX3 0 rfl rfl 0 (by decide) rfl (List.mem_of_getElem? (i := 1) rfl) rfl dX3_next_5 ?_
  refine x_get F hw iX2 2 rfl rfl 0 (by decide) rfl (List.mem_of_getElem? (i := 2) rfl) rfl dX3_next_8 ?_
  refine lv_iload_n F.1 F.2.1 dX3_next_11 rfl (lv_at hl 1 rfl) ?_
  refine x_ri (va_runV (As := [.int x]) (rest := []) F (c_X0_headOf l G cI cJ cZ cO (Array.size _) (sTA (tS K)) (sT (tX tr)) x hok) (cwV 1 F.2.2.2.2 gX3_next_X0_headOf rfl rfl rfl (by decide +kernel) ⟨Nat.le_of_ble_eq_true rfl, Nat.le_of_ble_eq_true rfl⟩) (x_preVW hw [4, 5, 6, 7, 8, 9, 10, 11] rfl (by decide) 4 rfl rfl) rfl rfl hl.1 rfl (lv_room (Nat.le_of_ble_eq_true rfl)) dX3_next_12 ⟨Nat.le_of_ble_eq_true rfl, Nat.le_of_ble_eq_true rfl⟩) (fun r12 hr12 => ?_)
  refine lv_istore_n (lv' := [(2, .int r12), (0, .ref (tH K)), (1, .int x)]) F.1 F.2.1 dX3_next_15 rfl hl (by decide) rfl (fun ls hl => ?_)
  refine lv_iload_n F.1 F.2.1 dX3_next_16 rfl (lv_at hl 0 rfl) ?_
  refine lv_iconst (v := (-1)) F.1 F.2.1 dX3_next_17 (by decide) ?_
  refine lv_icmp_ne (tgt := 25) F.1 F.2.1 dX3_next_18 (by decide) (fun c18 => ?_) (fun c18 => ?_)
  · have h40 := hok.1
    obtain ⟨k9, hk9, hn9, hf9, rfl⟩ : ∃ k, k < lSz (sT (tX tr)) ∧ eC (lAt (sT (tX tr)) k) = x ∧ (∀ i, i < k → eC (lAt (sT (tX tr)) i) ≠ x) ∧ r12 = nI k := by
      rcases hr12 with h | h
      · exact h
      · exact absurd h.2 c18
    refine lv_aload_n F.1 F.2.1 dX3_next_25 rfl (lv_at hl 1 rfl) ?_
    refine x_get F hw iX3 0 rfl rfl 0 (by decide) rfl (List.mem_of_getElem? (i := 1) rfl) rfl dX3_next_26 ?_
    refine x_get F hw iX2 2 rfl rfl 0 (by decide) rfl (List.mem_of_getElem? (i := 2) rfl) rfl dX3_next_29 ?_
    refine x_get F hw iX0 4 rfl rfl 1 (by decide) rfl (List.mem_of_getElem? (i := 3) rfl) rfl dX3_next_32 ?_
    refine lv_aload_n F.1 F.2.1 dX3_next_35 rfl (lv_at hl 1 rfl) ?_
    refine x_get F hw iX3 0 rfl rfl 0 (by decide) rfl (List.mem_of_getElem? (i := 1) rfl) rfl dX3_next_36 ?_
    refine x_get F hw iX2 2 rfl rfl 0 (by decide) rfl (List.mem_of_getElem? (i := 2) rfl) rfl dX3_next_39 ?_
    refine x_get F hw iX0 4 rfl rfl 0 (by decide) rfl (List.mem_of_getElem? (i := 4) rfl) rfl dX3_next_42 ?_
    refine lv_iload_n F.1 F.2.1 dX3_next_45 rfl (lv_at hl 0 rfl) ?_
    refine x_ialdN F hw 5 0 rfl rfl k9 rfl (by omega) (by decide) dX3_next_46 ?_
    refine x_iald F hw 6 0 rfl rfl (hok.2.1 _ (by omega)) dX3_next_47 ?_
    refine vx_ret ?_
    refine W.widen (k := 1) (n := 6) (by omega) (by omega) ?_
    exact x_riret F hr hlk (⟨hclk, Or.inl ⟨k9, hk9, hn9, hf9, rfl⟩⟩) dX3_next_48
  · have hno : ∀ i, i < lSz (sT (tX tr)) → eC (lAt (sT (tX tr)) i) ≠ x := by
      rcases hr12 with ⟨k, hk, -, -, e⟩ | h
      · have h40 := hok.1; rw [e] at c18; exact absurd c18 (nI_ne (by omega))
      · exact h.1
    refine lv_iconst (v := (-1)) F.1 F.2.1 dX3_next_21 (by decide) ?_
    refine lv_goto (tgt := 48) F.1 F.2.1 dX3_next_22 (by decide) ?_
    refine vx_ret ?_
    refine W.widen (k := 1) (n := 6) (by omega) (by omega) ?_
    exact x_riret F hr hlk (⟨hclk, Or.inr ⟨hno, rfl⟩⟩) dX3_next_48

set_option maxHeartbeats 8000000 in
set_option maxRecDepth 100000 in
/-- waiting(..) -/
theorem c_X3_waiting (l : Launch) (G : va_G) (cI cJ cZ cO : ClassId) (sz : Nat) (hst : l.stackTraces = false) (K : TrA) (tr : TrR) (x : Int32) (y t1 t2 : Int64) (hok : LnOk (sT (tX tr))) : vx_Met l yX3_waiting wsX3_waiting ({ frames := 7, cells := 2, slots := 12, locals := 102 }) (xPe G (xK cI cJ cZ cO) sz [.ref (tH K), .int x, .long y, .long t1, .long t2] (wTr cI cJ cO K tr)) (xQi (fun r => (cClk x ∧ t1 ≤ t2) ∧ r = nI (cnt (fun j9 => eBet x y t1 t2 (lAt (sT (tX tr)) j9)) (lSz (sT (tX tr)))))) (xXC (fun E => E = xIA ∧ ¬ (cClk x ∧ t1 ≤ t2))) 2 12 (fun _ => False) := by
  refine x_bodyX (by decide) rfl (Nat.le_of_ble_eq_true rfl) ?_
  intro p e s m below meth c F hr hlk hnm hsz hw hE hout ls hl
  subst hsz
  have F : CallFix p m c cX3_waiting 8 s _ wsX3_waiting RX3 := F
  have hl : lv_has ls 8 [(0, .ref (tH K)), (1, .int x), (2, .long y), (4, .long t1), (6, .long t2)] := hl
  have hw : xW G (xK cI cJ cZ cO) _ s.heap s [(tH K, .inr (3, [.ref (sH (tS K)), .ref (tK K), .ref (tL K), .int (nI (tN tr))])), (tK K, .inl (cO, 3, .inr (.inr (.inr (.inr (tF tr)))))), (sH (tS K), .inr (2, [.ref (aH (sTA (tS K))), .ref (aH (sRA (tS K))), .ref (sWA (tS K)), .int (sTs (tX tr)), .int (sRc (tX tr)), .int (sLa (tX tr)), .int (sRf (tX tr))])), (sWA (tS K), .inl (cJ, 2, .inr (.inl (sNw (tX tr))))), (aH (sTA (tS K)), .inr (0, [.ref (aO (sTA (tS K))), .ref (aN (sTA (tS K))), .ref (aC (sTA (tS K))), .ref (aK (sTA (tS K))), .ref (aT (sTA (tS K))), .ref (aG (sTA (tS K))), .ref (aF (sTA (tS K))), .int (nI (lSz (sT (tX tr))))])), (aO (sTA (tS K)), .inl (cI, 40, .inl (lO (sT (tX tr))))), (aN (sTA (tS K)), .inl (cI, 40, .inl (lNu (sT (tX tr))))), (aC (sTA (tS K)), .inl (cI, 40, .inl (lCk (sT (tX tr))))), (aK (sTA (tS K)), .inl (cJ, 40, .inr (.inl (lKe (sT (tX tr)))))), (aT (sTA (tS K)), .inl (cJ, 40, .inr (.inl (lTi (sT (tX tr)))))), (aG (sTA (tS K)), .inl (cJ, 40, .inr (.inl (lGa (sT (tX tr)))))), (aF (sTA (tS K)), .inl (cI, 40, .inl (lOf (sT (tX tr))))), (aH (sRA (tS K)), .inr (0, [.ref (aO (sRA (tS K))), .ref (aN (sRA (tS K))), .ref (aC (sRA (tS K))), .ref (aK (sRA (tS K))), .ref (aT (sRA (tS K))), .ref (aG (sRA (tS K))), .ref (aF (sRA (tS K))), .int (nI (lSz (sR (tX tr))))])), (aO (sRA (tS K)), .inl (cI, 40, .inl (lO (sR (tX tr))))), (aN (sRA (tS K)), .inl (cI, 40, .inl (lNu (sR (tX tr))))), (aC (sRA (tS K)), .inl (cI, 40, .inl (lCk (sR (tX tr))))), (aK (sRA (tS K)), .inl (cJ, 40, .inr (.inl (lKe (sR (tX tr)))))), (aT (sRA (tS K)), .inl (cJ, 40, .inr (.inl (lTi (sR (tX tr)))))), (aG (sRA (tS K)), .inl (cJ, 40, .inr (.inl (lGa (sR (tX tr)))))), (aF (sRA (tS K)), .inl (cI, 40, .inl (lOf (sR (tX tr))))), (tL K, .inr (1, [.ref (g1 (tG tr)), .ref (g2 (tG tr)), .ref (g3 (tG tr)), .ref (g4 (tG tr)), .ref (g5 (tG tr)), .int (nI (gN (tG tr)))])), (g1 (tG tr), .inl (cI, gL (tG tr), .inl (gKi (tG tr)))), (g2 (tG tr), .inl (cI, gL (tG tr), .inl (gNu (tG tr)))), (g3 (tG tr), .inl (cJ, gL (tG tr), .inr (.inl (gKe (tG tr))))), (g4 (tG tr), .inl (cJ, gL (tG tr), .inr (.inl (gTi (tG tr))))), (g5 (tG tr), .inl (cI, gL (tG tr), .inl (gOf (tG tr))))] s.heap [] := hw
  have iX2 : ∀ w ∈ wsX20, w ∈ wsX3_waiting := by decide +kernel
  have iX3 : ∀ w ∈ wsX30, w ∈ wsX3_waiting := by decide +kernel
  refine lv_iload_n F.1 F.2.1 dX3_waiting_0 rfl (lv_at hl 1 rfl) ?_
  refine x_xrv (vx_runS (As := [.int x]) (rest := []) F (c_X3_needClock l G cI cJ cZ cO (Array.size _) hst x) (va_cwS 1 F.2.2.2.2 gX3_waiting_X3_needClock rfl rfl rfl (by decide +kernel) ⟨Nat.le_of_ble_eq_true rfl, Nat.le_of_ble_eq_true rfl⟩) (x_preSE hw hE [] rfl (by decide)) rfl rfl hl.1 rfl (lv_room (Nat.le_of_ble_eq_true rfl)) dX3_waiting_1 ⟨Nat.le_of_ble_eq_true rfl, Nat.le_of_ble_eq_true rfl⟩) hout hlk (fun E h => ⟨h.1, fun q => h.2 q.1⟩) (Nat.le_of_ble_eq_true rfl) (Nat.le_of_ble_eq_true rfl) (fun hclk => ?_)
  refine lv_lload F.1 F.2.1 dX3_waiting_4 (lv_at hl 3 rfl) ?_
  refine lv_lload F.1 F.2.1 dX3_waiting_6 (lv_at hl 4 rfl) ?_
  refine x_l_le (tgt := 22) F dX3_waiting_8 dX3_waiting_9 (by decide) (fun c8 => ?_) (fun c8 => ?_)
  · refine lv_aload_n F.1 F.2.1 dX3_waiting_22 rfl (lv_at hl 0 rfl) ?_
    refine x_get F hw iX3 0 rfl rfl 0 (by decide) rfl (List.mem_of_getElem? (i := 3) rfl) rfl dX3_waiting_23 ?_
    refine x_get F hw iX2 2 rfl rfl 0 (by decide) rfl (List.mem_of_getElem? (i := 4) rfl) rfl dX3_waiting_26 ?_
    refine lv_iload_n F.1 F.2.1 dX3_waiting_29 rfl (lv_at hl 1 rfl) ?_
    refine lv_lload_n F.1 F.2.1 dX3_waiting_30 rfl (lv_at hl 2 rfl) ?_
    refine lv_lload F.1 F.2.1 dX3_waiting_31 (lv_at hl 3 rfl) ?_
    refine lv_lload F.1 F.2.1 dX3_waiting_33 (lv_at hl 4 rfl) ?_
    refine x_ri (va_runV (As := [.int x, .long y, .long t1, .long t2]) (rest := []) F (c_X0_countBetween l G cI cJ cZ cO (Array.size _) (sTA (tS K)) (sT (tX tr)) x y t1 t2 hok) (cwV 4 F.2.2.2.2 gX3_waiting_X0_countBetween rfl rfl rfl (by decide +kernel) ⟨Nat.le_of_ble_eq_true rfl, Nat.le_of_ble_eq_true rfl⟩) (x_preVW hw [4, 5, 6, 7, 8, 9, 10, 11] rfl (by decide) 4 rfl rfl) rfl rfl hl.1 rfl (lv_room (Nat.le_of_ble_eq_true rfl)) dX3_waiting_35 ⟨Nat.le_of_ble_eq_true rfl, Nat.le_of_ble_eq_true rfl⟩) (fun r35 hr35 => ?_)
    refine vx_ret ?_
    refine W.widen (k := 2) (n := 12) (by omega) (by omega) ?_
    exact x_riret F hr hlk (⟨⟨hclk, c8⟩, hr35⟩) dX3_waiting_38
  · exact x_thr F hw hE hst fit_IA bad_IA ot_IA (fun w h => List.mem_cons_of_mem _ (List.mem_append_right _ h)) (List.mem_of_getElem? (i := 1) rfl) (List.mem_of_getElem? (i := 2) rfl) (is := 164) (tx := "from above to") (by decide) hl.1 dX3_waiting_12 dX3_waiting_15 dX3_waiting_16 dX3_waiting_18 dX3_waiting_21 hout hlk (Nat.le_of_ble_eq_true rfl) (Nat.le_of_ble_eq_true rfl) (Nat.le_of_ble_eq_true rfl) (Nat.le_of_ble_eq_true rfl) (⟨rfl, fun q => c8 q.2⟩) (Nat.le_of_ble_eq_true rfl) (Nat.le_of_ble_eq_true rfl)

set_option maxHeartbeats 8000000 in
set_option maxRecDepth 100000 in
/-- task(key, tasks) -/
theorem c_X3_task (l : Launch) (G : va_G) (cI cJ cZ cO : ClassId) (sz : Nat) (hst : l.stackTraces = false) (K : TrA) (tr : TrR) (k : Int64) (n : Int32) : vx_Met l yX3_task wsX3_task ({ frames := 7, cells := 1, slots := 6, locals := 102 }) (xPe G (xK cI cJ cZ cO) sz [.ref (tH K), .long k, .int n] (wTr cI cJ cO K tr)) (xQi (fun r => (¬ n < 1 ∧ n ≤ 128) ∧ r = cTask k n)) (xXC (fun E => E = xIA ∧ ¬ (¬ n < 1 ∧ n ≤ 128))) 1 6 (fun _ => False) := by
  refine x_bodyX (by decide) rfl (Nat.le_of_ble_eq_true rfl) ?_
  intro p e s m below meth c F hr hlk hnm hsz hw hE hout ls hl
  subst hsz
  have F : CallFix p m c cX3_task 4 s _ wsX3_task RX3 := F
  have hl : lv_has ls 4 [(0, .ref (tH K)), (1, .long k), (3, .int n)] := hl
  have hw : xW G (xK cI cJ cZ cO) _ s.heap s [(tH K, .inr (3, [.ref (sH (tS K)), .ref (tK K), .ref (tL K), .int (nI (tN tr))])), (tK K, .inl (cO, 3, .inr (.inr (.inr (.inr (tF tr)))))), (sH (tS K), .inr (2, [.ref (aH (sTA (tS K))), .ref (aH (sRA (tS K))), .ref (sWA (tS K)), .int (sTs (tX tr)), .int (sRc (tX tr)), .int (sLa (tX tr)), .int (sRf (tX tr))])), (sWA (tS K), .inl (cJ, 2, .inr (.inl (sNw (tX tr))))), (aH (sTA (tS K)), .inr (0, [.ref (aO (sTA (tS K))), .ref (aN (sTA (tS K))), .ref (aC (sTA (tS K))), .ref (aK (sTA (tS K))), .ref (aT (sTA (tS K))), .ref (aG (sTA (tS K))), .ref (aF (sTA (tS K))), .int (nI (lSz (sT (tX tr))))])), (aO (sTA (tS K)), .inl (cI, 40, .inl (lO (sT (tX tr))))), (aN (sTA (tS K)), .inl (cI, 40, .inl (lNu (sT (tX tr))))), (aC (sTA (tS K)), .inl (cI, 40, .inl (lCk (sT (tX tr))))), (aK (sTA (tS K)), .inl (cJ, 40, .inr (.inl (lKe (sT (tX tr)))))), (aT (sTA (tS K)), .inl (cJ, 40, .inr (.inl (lTi (sT (tX tr)))))), (aG (sTA (tS K)), .inl (cJ, 40, .inr (.inl (lGa (sT (tX tr)))))), (aF (sTA (tS K)), .inl (cI, 40, .inl (lOf (sT (tX tr))))), (aH (sRA (tS K)), .inr (0, [.ref (aO (sRA (tS K))), .ref (aN (sRA (tS K))), .ref (aC (sRA (tS K))), .ref (aK (sRA (tS K))), .ref (aT (sRA (tS K))), .ref (aG (sRA (tS K))), .ref (aF (sRA (tS K))), .int (nI (lSz (sR (tX tr))))])), (aO (sRA (tS K)), .inl (cI, 40, .inl (lO (sR (tX tr))))), (aN (sRA (tS K)), .inl (cI, 40, .inl (lNu (sR (tX tr))))), (aC (sRA (tS K)), .inl (cI, 40, .inl (lCk (sR (tX tr))))), (aK (sRA (tS K)), .inl (cJ, 40, .inr (.inl (lKe (sR (tX tr)))))), (aT (sRA (tS K)), .inl (cJ, 40, .inr (.inl (lTi (sR (tX tr)))))), (aG (sRA (tS K)), .inl (cJ, 40, .inr (.inl (lGa (sR (tX tr)))))), (aF (sRA (tS K)), .inl (cI, 40, .inl (lOf (sR (tX tr))))), (tL K, .inr (1, [.ref (g1 (tG tr)), .ref (g2 (tG tr)), .ref (g3 (tG tr)), .ref (g4 (tG tr)), .ref (g5 (tG tr)), .int (nI (gN (tG tr)))])), (g1 (tG tr), .inl (cI, gL (tG tr), .inl (gKi (tG tr)))), (g2 (tG tr), .inl (cI, gL (tG tr), .inl (gNu (tG tr)))), (g3 (tG tr), .inl (cJ, gL (tG tr), .inr (.inl (gKe (tG tr))))), (g4 (tG tr), .inl (cJ, gL (tG tr), .inr (.inl (gTi (tG tr))))), (g5 (tG tr), .inl (cI, gL (tG tr), .inl (gOf (tG tr))))] s.heap [] := hw
  refine lv_iload_n F.1 F.2.1 dX3_task_0 rfl (lv_at hl 2 rfl) ?_
  refine x_xrv (vx_runS (As := [.int n]) (rest := []) F (c_X3_needTasks l G cI cJ cZ cO (Array.size _) hst n) (va_cwS 1 F.2.2.2.2 gX3_task_X3_needTasks rfl rfl rfl (by decide +kernel) ⟨Nat.le_of_ble_eq_true rfl, Nat.le_of_ble_eq_true rfl⟩) (x_preSE hw hE [] rfl (by decide)) rfl rfl hl.1 rfl (lv_room (Nat.le_of_ble_eq_true rfl)) dX3_task_1 ⟨Nat.le_of_ble_eq_true rfl, Nat.le_of_ble_eq_true rfl⟩) hout hlk (fun E h => h) (Nat.le_of_ble_eq_true rfl) (Nat.le_of_ble_eq_true rfl) (fun htk => ?_)
  refine lv_lload_n F.1 F.2.1 dX3_task_4 rfl (lv_at hl 1 rfl) ?_
  refine lv_iload_n F.1 F.2.1 dX3_task_5 rfl (lv_at hl 2 rfl) ?_
  refine x_ri (va_runS (As := [.long k, .int n]) (rest := []) F (c_X3_taskOf l G cI cJ cZ cO (Array.size _) k n) (va_cwS 2 F.2.2.2.2 gX3_task_X3_taskOf rfl rfl rfl (by decide +kernel) ⟨Nat.le_of_ble_eq_true rfl, Nat.le_of_ble_eq_true rfl⟩) (x_preSW hw [] rfl (by decide)) rfl rfl hl.1 rfl (lv_room (Nat.le_of_ble_eq_true rfl)) dX3_task_6 ⟨Nat.le_of_ble_eq_true rfl, Nat.le_of_ble_eq_true rfl⟩) (fun r6 hr6 => ?_)
  refine vx_ret ?_
  refine W.widen (k := 1) (n := 6) (by omega) (by omega) ?_
  exact x_riret F hr hlk (⟨htk, hr6⟩) dX3_task_9

set_option maxHeartbeats 8000000 in
set_option maxRecDepth 100000 in
/-- done(i, what) -/
theorem c_X3_done (l : Launch) (G : va_G) (cI cJ cZ cO : ClassId) (sz : Nat) (hst : l.stackTraces = false) (K : TrA) (tr : TrR) (x y : Int32) (hgl : gL (tG tr) ≤ 4000) (hgn : gN (tG tr) ≤ gL (tG tr)) : vx_Met l yX3_done wsX3_done ({ frames := 7, cells := 2, slots := 12, locals := 103 }) (xPe G (xK cI cJ cZ cO) sz [.ref (tH K), .int x, .int y] (wTr cI cJ cO K tr)) (xQl (fun r => (¬ y < 0 ∧ y ≤ 4) ∧ ∃ j, j < gN (tG tr) ∧ x = nI j ∧ r = if y = 0 then (gKi (tG tr) j).toInt64 else if y = 1 then (gNu (tG tr) j).toInt64 else if y = 2 then gKe (tG tr) j else if y = 3 then gTi (tG tr) j else (gOf (tG tr) j).toInt64)) (xXC (fun E => (E = xIA ∧ ¬ (¬ y < 0 ∧ y ≤ 4)) ∨ (E = xNS ∧ (¬ y < 0 ∧ y ≤ 4) ∧ ∀ j, j < gN (tG tr) → x ≠ nI j))) 2 12 (fun _ => False) := by
  refine x_bodyX (by decide) rfl (Nat.le_of_ble_eq_true rfl) ?_
  intro p e s m below meth c F hr hlk hnm hsz hw hE hout ls hl
  subst hsz
  have F : CallFix p m c cX3_done 3 s _ wsX3_done RX3 := F
  have hl : lv_has ls 3 [(0, .ref (tH K)), (1, .int x), (2, .int y)] := hl
  have hw : xW G (xK cI cJ cZ cO) _ s.heap s [(tH K, .inr (3, [.ref (sH (tS K)), .ref (tK K), .ref (tL K), .int (nI (tN tr))])), (tK K, .inl (cO, 3, .inr (.inr (.inr (.inr (tF tr)))))), (sH (tS K), .inr (2, [.ref (aH (sTA (tS K))), .ref (aH (sRA (tS K))), .ref (sWA (tS K)), .int (sTs (tX tr)), .int (sRc (tX tr)), .int (sLa (tX tr)), .int (sRf (tX tr))])), (sWA (tS K), .inl (cJ, 2, .inr (.inl (sNw (tX tr))))), (aH (sTA (tS K)), .inr (0, [.ref (aO (sTA (tS K))), .ref (aN (sTA (tS K))), .ref (aC (sTA (tS K))), .ref (aK (sTA (tS K))), .ref (aT (sTA (tS K))), .ref (aG (sTA (tS K))), .ref (aF (sTA (tS K))), .int (nI (lSz (sT (tX tr))))])), (aO (sTA (tS K)), .inl (cI, 40, .inl (lO (sT (tX tr))))), (aN (sTA (tS K)), .inl (cI, 40, .inl (lNu (sT (tX tr))))), (aC (sTA (tS K)), .inl (cI, 40, .inl (lCk (sT (tX tr))))), (aK (sTA (tS K)), .inl (cJ, 40, .inr (.inl (lKe (sT (tX tr)))))), (aT (sTA (tS K)), .inl (cJ, 40, .inr (.inl (lTi (sT (tX tr)))))), (aG (sTA (tS K)), .inl (cJ, 40, .inr (.inl (lGa (sT (tX tr)))))), (aF (sTA (tS K)), .inl (cI, 40, .inl (lOf (sT (tX tr))))), (aH (sRA (tS K)), .inr (0, [.ref (aO (sRA (tS K))), .ref (aN (sRA (tS K))), .ref (aC (sRA (tS K))), .ref (aK (sRA (tS K))), .ref (aT (sRA (tS K))), .ref (aG (sRA (tS K))), .ref (aF (sRA (tS K))), .int (nI (lSz (sR (tX tr))))])), (aO (sRA (tS K)), .inl (cI, 40, .inl (lO (sR (tX tr))))), (aN (sRA (tS K)), .inl (cI, 40, .inl (lNu (sR (tX tr))))), (aC (sRA (tS K)), .inl (cI, 40, .inl (lCk (sR (tX tr))))), (aK (sRA (tS K)), .inl (cJ, 40, .inr (.inl (lKe (sR (tX tr)))))), (aT (sRA (tS K)), .inl (cJ, 40, .inr (.inl (lTi (sR (tX tr)))))), (aG (sRA (tS K)), .inl (cJ, 40, .inr (.inl (lGa (sR (tX tr)))))), (aF (sRA (tS K)), .inl (cI, 40, .inl (lOf (sR (tX tr))))), (tL K, .inr (1, [.ref (g1 (tG tr)), .ref (g2 (tG tr)), .ref (g3 (tG tr)), .ref (g4 (tG tr)), .ref (g5 (tG tr)), .int (nI (gN (tG tr)))])), (g1 (tG tr), .inl (cI, gL (tG tr), .inl (gKi (tG tr)))), (g2 (tG tr), .inl (cI, gL (tG tr), .inl (gNu (tG tr)))), (g3 (tG tr), .inl (cJ, gL (tG tr), .inr (.inl (gKe (tG tr))))), (g4 (tG tr), .inl (cJ, gL (tG tr), .inr (.inl (gTi (tG tr))))), (g5 (tG tr), .inl (cI, gL (tG tr), .inl (gOf (tG tr))))] s.heap [] := hw
  have iX1 : ∀ w ∈ wsX10, w ∈ wsX3_done := by decide +kernel
  have iX3 : ∀ w ∈ wsX30, w ∈ wsX3_done := by decide +kernel
  refine lv_iload_n F.1 F.2.1 dX3_done_0 rfl (lv_at hl 2 rfl) ?_
  refine lv_iconst (v := 4) F.1 F.2.1 dX3_done_1 (by decide) ?_
  refine x_xrv (vx_runS (As := [.int y, .int 4]) (rest := []) F (c_X3_needWhat l G cI cJ cZ cO (Array.size _) hst y 4) (va_cwS 2 F.2.2.2.2 gX3_done_X3_needWhat rfl rfl rfl (by decide +kernel) ⟨Nat.le_of_ble_eq_true rfl, Nat.le_of_ble_eq_true rfl⟩) (x_preSE hw hE [] rfl (by decide)) rfl rfl hl.1 rfl (lv_room (Nat.le_of_ble_eq_true rfl)) dX3_done_2 ⟨Nat.le_of_ble_eq_true rfl, Nat.le_of_ble_eq_true rfl⟩) hout hlk (fun E h => Or.inl h) (Nat.le_of_ble_eq_true rfl) (Nat.le_of_ble_eq_true rfl) (fun hwh => ?_)
  refine lv_iload_n F.1 F.2.1 dX3_done_5 rfl (lv_at hl 1 rfl) ?_
  refine lv_if_lt (tgt := 20) F.1 F.2.1 dX3_done_6 (by decide) (fun c6 => ?_) (fun c6 => ?_)
  · exact x_thrN rfl rfl F hw hE hst fit_NS bad_NS ot_NS (fun w h => List.mem_cons_of_mem _ (List.mem_append_left _ (List.mem_append_right _ h))) (List.mem_of_getElem? (i := 1) rfl) (List.mem_of_getElem? (i := 2) rfl) (is := 129) (tx := "not so many were done") (by decide) hl.1 dX3_done_20 dX3_done_23 dX3_done_24 dX3_done_26 dX3_done_29 hout hlk (Nat.le_of_ble_eq_true rfl) (Nat.le_of_ble_eq_true rfl) (Nat.le_of_ble_eq_true rfl) (Nat.le_of_ble_eq_true rfl) (Or.inr ⟨rfl, hwh, fun j hj e => by rw [e] at c6; exact nI_pos (by omega) c6⟩) (Nat.le_of_ble_eq_true rfl) (Nat.le_of_ble_eq_true rfl)
  · refine lv_iload_n F.1 F.2.1 dX3_done_9 rfl (lv_at hl 1 rfl) ?_
    refine lv_aload_n F.1 F.2.1 dX3_done_10 rfl (lv_at hl 0 rfl) ?_
    refine x_get F hw iX3 0 rfl rfl 2 (by decide) rfl (List.mem_of_getElem? (i := 3) rfl) rfl dX3_done_11 ?_
    refine x_get F hw iX1 20 rfl rfl 5 (by decide) rfl (List.mem_of_getElem? (i := 4) rfl) rfl dX3_done_14 ?_
    refine lv_icmp_lt (tgt := 30) F.1 F.2.1 dX3_done_17 (by decide) (fun c17 => ?_) (fun c17 => ?_)
    · obtain ⟨j9, hj9, rfl⟩ : ∃ j, j < gN (tG tr) ∧ x = nI j := by
        obtain ⟨j, hj, e⟩ := nI_of c6
        exact ⟨j, x_lt hj (by omega) (by rw [← e]; exact c17), e⟩
      refine lv_iload_n F.1 F.2.1 dX3_done_30 rfl (lv_at hl 2 rfl) ?_
      rcases (what4 hwh : y = 0 ∨ y = 1 ∨ y = 2 ∨ y = 3 ∨ y = 4) with rfl | rfl | rfl | rfl | rfl
      · refine lv_tableIn (tgt := 60) F.1 F.2.1 dX3_done_31 (by decide) (by decide) rfl (by decide) ?_
        refine lv_aload_n F.1 F.2.1 dX3_done_60 rfl (lv_at hl 0 rfl) ?_
        refine x_get F hw iX3 0 rfl rfl 2 (by decide) rfl (List.mem_of_getElem? (i := 3) rfl) rfl dX3_done_61 ?_
        refine x_get F hw iX1 20 rfl rfl 0 (by decide) rfl (List.mem_of_getElem? (i := 5) rfl) rfl dX3_done_64 ?_
        refine lv_iload_n F.1 F.2.1 dX3_done_67 rfl (lv_at hl 1 rfl) ?_
        refine x_ialdN F hw 21 0 rfl rfl j9 rfl (by omega) (by omega) dX3_done_68 ?_
        refine lv_i2l (v := (gKi (tG tr) j9).toInt64) F.1 F.2.1 dX3_done_69 (rfl) ?_
        refine vx_ret ?_
        refine W.widen (k := 2) (n := 12) (by omega) (by omega) ?_
        exact x_rlret F hr hlk (⟨hwh, j9, hj9, rfl, by rfl⟩) dX3_done_70
      · refine lv_tableIn (tgt := 71) F.1 F.2.1 dX3_done_31 (by decide) (by decide) rfl (by decide) ?_
        refine lv_aload_n F.1 F.2.1 dX3_done_71 rfl (lv_at hl 0 rfl) ?_
        refine x_get F hw iX3 0 rfl rfl 2 (by decide) rfl (List.mem_of_getElem? (i := 3) rfl) rfl dX3_done_72 ?_
        refine x_get F hw iX1 20 rfl rfl 1 (by decide) rfl (List.mem_of_getElem? (i := 6) rfl) rfl dX3_done_75 ?_
        refine lv_iload_n F.1 F.2.1 dX3_done_78 rfl (lv_at hl 1 rfl) ?_
        refine x_ialdN F hw 22 0 rfl rfl j9 rfl (by omega) (by omega) dX3_done_79 ?_
        refine lv_i2l (v := (gNu (tG tr) j9).toInt64) F.1 F.2.1 dX3_done_80 (rfl) ?_
        refine vx_ret ?_
        refine W.widen (k := 2) (n := 12) (by omega) (by omega) ?_
        exact x_rlret F hr hlk (⟨hwh, j9, hj9, rfl, by rfl⟩) dX3_done_81
      · refine lv_tableIn (tgt := 82) F.1 F.2.1 dX3_done_31 (by decide) (by decide) rfl (by decide) ?_
        refine lv_aload_n F.1 F.2.1 dX3_done_82 rfl (lv_at hl 0 rfl) ?_
        refine x_get F hw iX3 0 rfl rfl 2 (by decide) rfl (List.mem_of_getElem? (i := 3) rfl) rfl dX3_done_83 ?_
        refine x_get F hw iX1 20 rfl rfl 2 (by decide) rfl (List.mem_of_getElem? (i := 7) rfl) rfl dX3_done_86 ?_
        refine lv_iload_n F.1 F.2.1 dX3_done_89 rfl (lv_at hl 1 rfl) ?_
        refine x_laldN F hw 23 1 rfl rfl j9 rfl (by omega) (by omega) dX3_done_90 ?_
        refine vx_ret ?_
        refine W.widen (k := 2) (n := 12) (by omega) (by omega) ?_
        exact x_rlret F hr hlk (⟨hwh, j9, hj9, rfl, by rfl⟩) dX3_done_91
      · refine lv_tableIn (tgt := 92) F.1 F.2.1 dX3_done_31 (by decide) (by decide) rfl (by decide) ?_
        refine lv_aload_n F.1 F.2.1 dX3_done_92 rfl (lv_at hl 0 rfl) ?_
        refine x_get F hw iX3 0 rfl rfl 2 (by decide) rfl (List.mem_of_getElem? (i := 3) rfl) rfl dX3_done_93 ?_
        refine x_get F hw iX1 20 rfl rfl 3 (by decide) rfl (List.mem_of_getElem? (i := 8) rfl) rfl dX3_done_96 ?_
        refine lv_iload_n F.1 F.2.1 dX3_done_99 rfl (lv_at hl 1 rfl) ?_
        refine x_laldN F hw 24 1 rfl rfl j9 rfl (by omega) (by omega) dX3_done_100 ?_
        refine vx_ret ?_
        refine W.widen (k := 2) (n := 12) (by omega) (by omega) ?_
        exact x_rlret F hr hlk (⟨hwh, j9, hj9, rfl, by rfl⟩) dX3_done_101
      · refine lv_tableOut (tgt := 102) F.1 F.2.1 dX3_done_31 (by decide) (by decide) ?_
        refine lv_aload_n F.1 F.2.1 dX3_done_102 rfl (lv_at hl 0 rfl) ?_
        refine x_get F hw iX3 0 rfl rfl 2 (by decide) rfl (List.mem_of_getElem? (i := 3) rfl) rfl dX3_done_103 ?_
        refine x_get F hw iX1 20 rfl rfl 4 (by decide) rfl (List.mem_of_getElem? (i := 9) rfl) rfl dX3_done_106 ?_
        refine lv_iload_n F.1 F.2.1 dX3_done_109 rfl (lv_at hl 1 rfl) ?_
        refine x_ialdN F hw 25 0 rfl rfl j9 rfl (by omega) (by omega) dX3_done_110 ?_
        refine lv_i2l (v := (gOf (tG tr) j9).toInt64) F.1 F.2.1 dX3_done_111 (rfl) ?_
        refine vx_ret ?_
        refine W.widen (k := 2) (n := 12) (by omega) (by omega) ?_
        exact x_rlret F hr hlk (⟨hwh, j9, hj9, rfl, by rfl⟩) dX3_done_112
    · exact x_thrN rfl rfl F hw hE hst fit_NS bad_NS ot_NS (fun w h => List.mem_cons_of_mem _ (List.mem_append_left _ (List.mem_append_right _ h))) (List.mem_of_getElem? (i := 1) rfl) (List.mem_of_getElem? (i := 2) rfl) (is := 129) (tx := "not so many were done") (by decide) hl.1 dX3_done_20 dX3_done_23 dX3_done_24 dX3_done_26 dX3_done_29 hout hlk (Nat.le_of_ble_eq_true rfl) (Nat.le_of_ble_eq_true rfl) (Nat.le_of_ble_eq_true rfl) (Nat.le_of_ble_eq_true rfl) (Or.inr ⟨rfl, hwh, fun j hj e => c17 (by rw [e]; exact nI_lt hj (by omega))⟩) (Nat.le_of_ble_eq_true rfl) (Nat.le_of_ble_eq_true rfl)

set_option maxHeartbeats 8000000 in
set_option maxRecDepth 100000 in
/-- told(timer, what) -/
theorem c_X3_told (l : Launch) (G : va_G) (cI cJ cZ cO : ClassId) (sz : Nat) (hst : l.stackTraces = false) (K : TrA) (tr : TrR) (x y : Int32) (hok : LnOk (sT (tX tr))) : vx_Met l yX3_told wsX3_told ({ frames := 7, cells := 2, slots := 12, locals := 104 }) (xPe G (xK cI cJ cZ cO) sz [.ref (tH K), .int x, .int y] (wTr cI cJ cO K tr)) (xQl (fun r => (¬ y < 0 ∧ y ≤ 4) ∧ ∃ k, k < lSz (sT (tX tr)) ∧ eN (lAt (sT (tX tr)) k) = x ∧ r = if y = 0 then (eC (lAt (sT (tX tr)) k)).toInt64 else if y = 1 then eK (lAt (sT (tX tr)) k) else if y = 2 then eT (lAt (sT (tX tr)) k) else if y = 3 then eG (lAt (sT (tX tr)) k) else (eO (lAt (sT (tX tr)) k)).toInt64)) (xXC (fun E => (E = xIA ∧ ¬ (¬ y < 0 ∧ y ≤ 4)) ∨ (E = xNS ∧ (¬ y < 0 ∧ y ≤ 4) ∧ ∀ i, i < lSz (sT (tX tr)) → eN (lAt (sT (tX tr)) i) ≠ x))) 2 12 (fun _ => False) := by
  refine x_bodyX (by decide) rfl (Nat.le_of_ble_eq_true rfl) ?_
  intro p e s m below meth c F hr hlk hnm hsz hw hE hout ls hl
  subst hsz
  have F : CallFix p m c cX3_told 4 s _ wsX3_told RX3 := F
  have hl : lv_has ls 4 [(0, .ref (tH K)), (1, .int x), (2, .int y)] := hl
  have hw : xW G (xK cI cJ cZ cO) _ s.heap s [(tH K, .inr (3, [.ref (sH (tS K)), .ref (tK K), .ref (tL K), .int (nI (tN tr))])), (tK K, .inl (cO, 3, .inr (.inr (.inr (.inr (tF tr)))))), (sH (tS K), .inr (2, [.ref (aH (sTA (tS K))), .ref (aH (sRA (tS K))), .ref (sWA (tS K)), .int (sTs (tX tr)), .int (sRc (tX tr)), .int (sLa (tX tr)), .int (sRf (tX tr))])), (sWA (tS K), .inl (cJ, 2, .inr (.inl (sNw (tX tr))))), (aH (sTA (tS K)), .inr (0, [.ref (aO (sTA (tS K))), .ref (aN (sTA (tS K))), .ref (aC (sTA (tS K))), .ref (aK (sTA (tS K))), .ref (aT (sTA (tS K))), .ref (aG (sTA (tS K))), .ref (aF (sTA (tS K))), .int (nI (lSz (sT (tX tr))))])), (aO (sTA (tS K)), .inl (cI, 40, .inl (lO (sT (tX tr))))), (aN (sTA (tS K)), .inl (cI, 40, .inl (lNu (sT (tX tr))))), (aC (sTA (tS K)), .inl (cI, 40, .inl (lCk (sT (tX tr))))), (aK (sTA (tS K)), .inl (cJ, 40, .inr (.inl (lKe (sT (tX tr)))))), (aT (sTA (tS K)), .inl (cJ, 40, .inr (.inl (lTi (sT (tX tr)))))), (aG (sTA (tS K)), .inl (cJ, 40, .inr (.inl (lGa (sT (tX tr)))))), (aF (sTA (tS K)), .inl (cI, 40, .inl (lOf (sT (tX tr))))), (aH (sRA (tS K)), .inr (0, [.ref (aO (sRA (tS K))), .ref (aN (sRA (tS K))), .ref (aC (sRA (tS K))), .ref (aK (sRA (tS K))), .ref (aT (sRA (tS K))), .ref (aG (sRA (tS K))), .ref (aF (sRA (tS K))), .int (nI (lSz (sR (tX tr))))])), (aO (sRA (tS K)), .inl (cI, 40, .inl (lO (sR (tX tr))))), (aN (sRA (tS K)), .inl (cI, 40, .inl (lNu (sR (tX tr))))), (aC (sRA (tS K)), .inl (cI, 40, .inl (lCk (sR (tX tr))))), (aK (sRA (tS K)), .inl (cJ, 40, .inr (.inl (lKe (sR (tX tr)))))), (aT (sRA (tS K)), .inl (cJ, 40, .inr (.inl (lTi (sR (tX tr)))))), (aG (sRA (tS K)), .inl (cJ, 40, .inr (.inl (lGa (sR (tX tr)))))), (aF (sRA (tS K)), .inl (cI, 40, .inl (lOf (sR (tX tr))))), (tL K, .inr (1, [.ref (g1 (tG tr)), .ref (g2 (tG tr)), .ref (g3 (tG tr)), .ref (g4 (tG tr)), .ref (g5 (tG tr)), .int (nI (gN (tG tr)))])), (g1 (tG tr), .inl (cI, gL (tG tr), .inl (gKi (tG tr)))), (g2 (tG tr), .inl (cI, gL (tG tr), .inl (gNu (tG tr)))), (g3 (tG tr), .inl (cJ, gL (tG tr), .inr (.inl (gKe (tG tr))))), (g4 (tG tr), .inl (cJ, gL (tG tr), .inr (.inl (gTi (tG tr))))), (g5 (tG tr), .inl (cI, gL (tG tr), .inl (gOf (tG tr))))] s.heap [] := hw
  have iX0 : ∀ w ∈ wsX00, w ∈ wsX3_told := by decide +kernel
  have iX2 : ∀ w ∈ wsX20, w ∈ wsX3_told := by decide +kernel
  have iX3 : ∀ w ∈ wsX30, w ∈ wsX3_told := by decide +kernel
  refine lv_iload_n F.1 F.2.1 dX3_told_0 rfl (lv_at hl 2 rfl) ?_
  refine lv_iconst (v := 4) F.1 F.2.1 dX3_told_1 (by decide) ?_
  refine x_xrv (vx_runS (As := [.int y, .int 4]) (rest := []) F (c_X3_needWhat l G cI cJ cZ cO (Array.size _) hst y 4) (va_cwS 2 F.2.2.2.2 gX3_told_X3_needWhat rfl rfl rfl (by decide +kernel) ⟨Nat.le_of_ble_eq_true rfl, Nat.le_of_ble_eq_true rfl⟩) (x_preSE hw hE [] rfl (by decide)) rfl rfl hl.1 rfl (lv_room (Nat.le_of_ble_eq_true rfl)) dX3_told_2 ⟨Nat.le_of_ble_eq_true rfl, Nat.le_of_ble_eq_true rfl⟩) hout hlk (fun E h => Or.inl h) (Nat.le_of_ble_eq_true rfl) (Nat.le_of_ble_eq_true rfl) (fun hwh => ?_)
  refine lv_aload_n F.1 F.2.1 dX3_told_5 rfl (lv_at hl 0 rfl) ?_
  refine x_get F hw iX3 0 rfl rfl 0 (by decide) rfl (List.mem_of_getElem? (i := 1) rfl) rfl dX3_told_6 ?_
  refine x_get F hw iX2 2 rfl rfl 0 (by decide) rfl (List.mem_of_getElem? (i := 2) rfl) rfl dX3_told_9 ?_
  refine x_get F hw iX0 4 rfl rfl 0 (by decide) rfl (List.mem_of_getElem? (i := 3) rfl) rfl dX3_told_12 ?_
  refine lv_aload_n F.1 F.2.1 dX3_told_15 rfl (lv_at hl 0 rfl) ?_
  refine lv_iload_n F.1 F.2.1 dX3_told_16 rfl (lv_at hl 1 rfl) ?_
  refine x_xri (vx_runV (As := [.int x]) (rest := [.ref (aO (sTA (tS K)))]) F (c_X3_needTimer l G cI cJ cZ cO (Array.size _) hst K tr x hok) (cwV 1 F.2.2.2.2 gX3_told_X3_needTimer rfl rfl rfl (by decide +kernel) ⟨Nat.le_of_ble_eq_true rfl, Nat.le_of_ble_eq_true rfl⟩) (x_preVE hw hE [0, 1, 2, 3, 4, 5, 6, 7, 8, 9, 10, 11, 12, 13, 14, 15, 16, 17, 18, 19, 20, 21, 22, 23, 24, 25] rfl (by decide) 0 rfl rfl) rfl rfl hl.1 rfl (lv_room (Nat.le_of_ble_eq_true rfl)) dX3_told_17 ⟨Nat.le_of_ble_eq_true rfl, Nat.le_of_ble_eq_true rfl⟩) hout hlk (fun E h => Or.inr ⟨h.1, hwh, h.2⟩) (Nat.le_of_ble_eq_true rfl) (Nat.le_of_ble_eq_true rfl) (fun r17 hr17 => ?_)
  obtain ⟨k9, hk9, hn9, rfl⟩ := hr17
  have h40 := hok.1
  refine x_ialdN F hw 5 0 rfl rfl k9 rfl (by omega) (by decide) dX3_told_20 ?_
  refine lv_istore_n (lv' := [(3, .int (lO (sT (tX tr)) k9)), (0, .ref (tH K)), (1, .int x), (2, .int y)]) F.1 F.2.1 dX3_told_21 rfl hl (by decide) rfl (fun ls hl => ?_)
  refine lv_iload_n F.1 F.2.1 dX3_told_22 rfl (lv_at hl 3 rfl) ?_
  rcases (what4 hwh : y = 0 ∨ y = 1 ∨ y = 2 ∨ y = 3 ∨ y = 4) with rfl | rfl | rfl | rfl | rfl
  · refine lv_tableIn (tgt := 52) F.1 F.2.1 dX3_told_23 (by decide) (by decide) rfl (by decide) ?_
    refine lv_aload_n F.1 F.2.1 dX3_told_52 rfl (lv_at hl 1 rfl) ?_
    refine x_get F hw iX3 0 rfl rfl 0 (by decide) rfl (List.mem_of_getElem? (i := 1) rfl) rfl dX3_told_53 ?_
    refine x_get F hw iX2 2 rfl rfl 0 (by decide) rfl (List.mem_of_getElem? (i := 2) rfl) rfl dX3_told_56 ?_
    refine x_get F hw iX0 4 rfl rfl 2 (by decide) rfl (List.mem_of_getElem? (i := 4) rfl) rfl dX3_told_59 ?_
    refine lv_iload_n F.1 F.2.1 dX3_told_62 rfl (lv_at hl 0 rfl) ?_
    refine x_iald F hw 7 0 rfl rfl (hok.2.1 _ (by omega)) dX3_told_63 ?_
    refine lv_i2l (v := (lCk (sT (tX tr)) (lO (sT (tX tr)) k9).toNatClampNeg).toInt64) F.1 F.2.1 dX3_told_64 (rfl) ?_
    refine vx_ret ?_
    refine W.widen (k := 2) (n := 12) (by omega) (by omega) ?_
    exact x_rlret F hr hlk (⟨hwh, k9, hk9, hn9, by rfl⟩) dX3_told_65
  · refine lv_tableIn (tgt := 66) F.1 F.2.1 dX3_told_23 (by decide) (by decide) rfl (by decide) ?_
    refine lv_aload_n F.1 F.2.1 dX3_told_66 rfl (lv_at hl 1 rfl) ?_
    refine x_get F hw iX3 0 rfl rfl 0 (by decide) rfl (List.mem_of_getElem? (i := 1) rfl) rfl dX3_told_67 ?_
    refine x_get F hw iX2 2 rfl rfl 0 (by decide) rfl (List.mem_of_getElem? (i := 2) rfl) rfl dX3_told_70 ?_
    refine x_get F hw iX0 4 rfl rfl 3 (by decide) rfl (List.mem_of_getElem? (i := 5) rfl) rfl dX3_told_73 ?_
    refine lv_iload_n F.1 F.2.1 dX3_told_76 rfl (lv_at hl 0 rfl) ?_
    refine x_lald F hw 8 1 rfl rfl (hok.2.1 _ (by omega)) dX3_told_77 ?_
    refine vx_ret ?_
    refine W.widen (k := 2) (n := 12) (by omega) (by omega) ?_
    exact x_rlret F hr hlk (⟨hwh, k9, hk9, hn9, by rfl⟩) dX3_told_78
  · refine lv_tableIn (tgt := 79) F.1 F.2.1 dX3_told_23 (by decide) (by decide) rfl (by decide) ?_
    refine lv_aload_n F.1 F.2.1 dX3_told_79 rfl (lv_at hl 1 rfl) ?_
    refine x_get F hw iX3 0 rfl rfl 0 (by decide) rfl (List.mem_of_getElem? (i := 1) rfl) rfl dX3_told_80 ?_
    refine x_get F hw iX2 2 rfl rfl 0 (by decide) rfl (List.mem_of_getElem? (i := 2) rfl) rfl dX3_told_83 ?_
    refine x_get F hw iX0 4 rfl rfl 4 (by decide) rfl (List.mem_of_getElem? (i := 6) rfl) rfl dX3_told_86 ?_
    refine lv_iload_n F.1 F.2.1 dX3_told_89 rfl (lv_at hl 0 rfl) ?_
    refine x_lald F hw 9 1 rfl rfl (hok.2.1 _ (by omega)) dX3_told_90 ?_
    refine vx_ret ?_
    refine W.widen (k := 2) (n := 12) (by omega) (by omega) ?_
    exact x_rlret F hr hlk (⟨hwh, k9, hk9, hn9, by rfl⟩) dX3_told_91
  · refine lv_tableIn (tgt := 92) F.1 F.2.1 dX3_told_23 (by decide) (by decide) rfl (by decide) ?_
    refine lv_aload_n F.1 F.2.1 dX3_told_92 rfl (lv_at hl 1 rfl) ?_
    refine x_get F hw iX3 0 rfl rfl 0 (by decide) rfl (List.mem_of_getElem? (i := 1) rfl) rfl dX3_told_93 ?_
    refine x_get F hw iX2 2 rfl rfl 0 (by decide) rfl (List.mem_of_getElem? (i := 2) rfl) rfl dX3_told_96 ?_
    refine x_get F hw iX0 4 rfl rfl 5 (by decide) rfl (List.mem_of_getElem? (i := 7) rfl) rfl dX3_told_99 ?_
    refine lv_iload_n F.1 F.2.1 dX3_told_102 rfl (lv_at hl 0 rfl) ?_
    refine x_lald F hw 10 1 rfl rfl (hok.2.1 _ (by omega)) dX3_told_103 ?_
    refine vx_ret ?_
    refine W.widen (k := 2) (n := 12) (by omega) (by omega) ?_
    exact x_rlret F hr hlk (⟨hwh, k9, hk9, hn9, by rfl⟩) dX3_told_104
  · refine lv_tableOut (tgt := 105) F.1 F.2.1 dX3_told_23 (by decide) (by decide) ?_
    refine lv_aload_n F.1 F.2.1 dX3_told_105 rfl (lv_at hl 1 rfl) ?_
    refine x_get F hw iX3 0 rfl rfl 0 (by decide) rfl (List.mem_of_getElem? (i := 1) rfl) rfl dX3_told_106 ?_
    refine x_get F hw iX2 2 rfl rfl 0 (by decide) rfl (List.mem_of_getElem? (i := 2) rfl) rfl dX3_told_109 ?_
    refine x_get F hw iX0 4 rfl rfl 6 (by decide) rfl (List.mem_of_getElem? (i := 8) rfl) rfl dX3_told_112 ?_
    refine lv_iload_n F.1 F.2.1 dX3_told_115 rfl (lv_at hl 0 rfl) ?_
    refine x_iald F hw 11 0 rfl rfl (hok.2.1 _ (by omega)) dX3_told_116 ?_
    refine lv_i2l (v := (lOf (sT (tX tr)) (lO (sT (tX tr)) k9).toNatClampNeg).toInt64) F.1 F.2.1 dX3_told_117 (rfl) ?_
    refine vx_ret ?_
    refine W.widen (k := 2) (n := 12) (by omega) (by omega) ?_
    exact x_rlret F hr hlk (⟨hwh, k9, hk9, hn9, by rfl⟩) dX3_told_118

set_option maxHeartbeats 8000000 in
set_option maxRecDepth 100000 in
/-- of(what) -/
theorem c_X3_of (l : Launch) (G : va_G) (cI cJ cZ cO : ClassId) (sz : Nat) (hst : l.stackTraces = false) (K : TrA) (tr : TrR) (y : Int32) : vx_Met l yX3_of wsX3_of ({ frames := 7, cells := 1, slots := 6, locals := 103 }) (xPe G (xK cI cJ cZ cO) sz [.ref (tH K), .int y] (wTr cI cJ cO K tr)) (xQi (fun r => (¬ y < 0 ∧ y ≤ 6) ∧ r = if y = 0 then nI (lSz (sT (tX tr))) else if y = 1 then nI (lSz (sR (tX tr))) else if y = 2 then sTs (tX tr) else if y = 3 then sRc (tX tr) else if y = 4 then sLa (tX tr) else if y = 5 then nI (tN tr) else nI (gN (tG tr)))) (xXC (fun E => E = xIA ∧ ¬ (¬ y < 0 ∧ y ≤ 6))) 1 6 (fun _ => False) := by
  refine x_bodyX (by decide) rfl (Nat.le_of_ble_eq_true rfl) ?_
  intro p e s m below meth c F hr hlk hnm hsz hw hE hout ls hl
  subst hsz
  have F : CallFix p m c cX3_of 2 s _ wsX3_of RX3 := F
  have hl : lv_has ls 2 [(0, .ref (tH K)), (1, .int y)] := hl
  have hw : xW G (xK cI cJ cZ cO) _ s.heap s [(tH K, .inr (3, [.ref (sH (tS K)), .ref (tK K), .ref (tL K), .int (nI (tN tr))])), (tK K, .inl (cO, 3, .inr (.inr (.inr (.inr (tF tr)))))), (sH (tS K), .inr (2, [.ref (aH (sTA (tS K))), .ref (aH (sRA (tS K))), .ref (sWA (tS K)), .int (sTs (tX tr)), .int (sRc (tX tr)), .int (sLa (tX tr)), .int (sRf (tX tr))])), (sWA (tS K), .inl (cJ, 2, .inr (.inl (sNw (tX tr))))), (aH (sTA (tS K)), .inr (0, [.ref (aO (sTA (tS K))), .ref (aN (sTA (tS K))), .ref (aC (sTA (tS K))), .ref (aK (sTA (tS K))), .ref (aT (sTA (tS K))), .ref (aG (sTA (tS K))), .ref (aF (sTA (tS K))), .int (nI (lSz (sT (tX tr))))])), (aO (sTA (tS K)), .inl (cI, 40, .inl (lO (sT (tX tr))))), (aN (sTA (tS K)), .inl (cI, 40, .inl (lNu (sT (tX tr))))), (aC (sTA (tS K)), .inl (cI, 40, .inl (lCk (sT (tX tr))))), (aK (sTA (tS K)), .inl (cJ, 40, .inr (.inl (lKe (sT (tX tr)))))), (aT (sTA (tS K)), .inl (cJ, 40, .inr (.inl (lTi (sT (tX tr)))))), (aG (sTA (tS K)), .inl (cJ, 40, .inr (.inl (lGa (sT (tX tr)))))), (aF (sTA (tS K)), .inl (cI, 40, .inl (lOf (sT (tX tr))))), (aH (sRA (tS K)), .inr (0, [.ref (aO (sRA (tS K))), .ref (aN (sRA (tS K))), .ref (aC (sRA (tS K))), .ref (aK (sRA (tS K))), .ref (aT (sRA (tS K))), .ref (aG (sRA (tS K))), .ref (aF (sRA (tS K))), .int (nI (lSz (sR (tX tr))))])), (aO (sRA (tS K)), .inl (cI, 40, .inl (lO (sR (tX tr))))), (aN (sRA (tS K)), .inl (cI, 40, .inl (lNu (sR (tX tr))))), (aC (sRA (tS K)), .inl (cI, 40, .inl (lCk (sR (tX tr))))), (aK (sRA (tS K)), .inl (cJ, 40, .inr (.inl (lKe (sR (tX tr)))))), (aT (sRA (tS K)), .inl (cJ, 40, .inr (.inl (lTi (sR (tX tr)))))), (aG (sRA (tS K)), .inl (cJ, 40, .inr (.inl (lGa (sR (tX tr)))))), (aF (sRA (tS K)), .inl (cI, 40, .inl (lOf (sR (tX tr))))), (tL K, .inr (1, [.ref (g1 (tG tr)), .ref (g2 (tG tr)), .ref (g3 (tG tr)), .ref (g4 (tG tr)), .ref (g5 (tG tr)), .int (nI (gN (tG tr)))])), (g1 (tG tr), .inl (cI, gL (tG tr), .inl (gKi (tG tr)))), (g2 (tG tr), .inl (cI, gL (tG tr), .inl (gNu (tG tr)))), (g3 (tG tr), .inl (cJ, gL (tG tr), .inr (.inl (gKe (tG tr))))), (g4 (tG tr), .inl (cJ, gL (tG tr), .inr (.inl (gTi (tG tr))))), (g5 (tG tr), .inl (cI, gL (tG tr), .inl (gOf (tG tr))))] s.heap [] := hw
  have iX0 : ∀ w ∈ wsX00, w ∈ wsX3_of := by decide +kernel
  have iX1 : ∀ w ∈ wsX10, w ∈ wsX3_of := by decide +kernel
  have iX2 : ∀ w ∈ wsX20, w ∈ wsX3_of := by decide +kernel
  have iX3 : ∀ w ∈ wsX30, w ∈ wsX3_of := by decide +kernel
  refine lv_iload_n F.1 F.2.1 dX3_of_0 rfl (lv_at hl 1 rfl) ?_
  refine lv_bipush (v := 6) F.1 F.2.1 dX3_of_1 (by decide) ?_
  refine x_xrv (vx_runS (As := [.int y, .int 6]) (rest := []) F (c_X3_needWhat l G cI cJ cZ cO (Array.size _) hst y 6) (va_cwS 2 F.2.2.2.2 gX3_of_X3_needWhat rfl rfl rfl (by decide +kernel) ⟨Nat.le_of_ble_eq_true rfl, Nat.le_of_ble_eq_true rfl⟩) (x_preSE hw hE [] rfl (by decide)) rfl rfl hl.1 rfl (lv_room (Nat.le_of_ble_eq_true rfl)) dX3_of_3 ⟨Nat.le_of_ble_eq_true rfl, Nat.le_of_ble_eq_true rfl⟩) hout hlk (fun E h => h) (Nat.le_of_ble_eq_true rfl) (Nat.le_of_ble_eq_true rfl) (fun hwh => ?_)
  refine lv_iload_n F.1 F.2.1 dX3_of_6 rfl (lv_at hl 1 rfl) ?_
  rcases (what6 hwh : y = 0 ∨ y = 1 ∨ y = 2 ∨ y = 3 ∨ y = 4 ∨ y = 5 ∨ y = 6) with rfl | rfl | rfl | rfl | rfl | rfl | rfl
  · refine lv_tableIn (tgt := 44) F.1 F.2.1 dX3_of_7 (by decide) (by decide) rfl (by decide) ?_
    refine lv_aload_n F.1 F.2.1 dX3_of_44 rfl (lv_at hl 0 rfl) ?_
    refine x_get F hw iX3 0 rfl rfl 0 (by decide) rfl (List.mem_of_getElem? (i := 1) rfl) rfl dX3_of_45 ?_
    refine x_get F hw iX2 2 rfl rfl 0 (by decide) rfl (List.mem_of_getElem? (i := 2) rfl) rfl dX3_of_48 ?_
    refine x_get F hw iX0 4 rfl rfl 7 (by decide) rfl (List.mem_of_getElem? (i := 3) rfl) rfl dX3_of_51 ?_
    refine vx_ret ?_
    refine W.widen (k := 1) (n := 6) (by omega) (by omega) ?_
    exact x_riret F hr hlk (⟨hwh, rfl⟩) dX3_of_54
  · refine lv_tableIn (tgt := 55) F.1 F.2.1 dX3_of_7 (by decide) (by decide) rfl (by decide) ?_
    refine lv_aload_n F.1 F.2.1 dX3_of_55 rfl (lv_at hl 0 rfl) ?_
    refine x_get F hw iX3 0 rfl rfl 0 (by decide) rfl (List.mem_of_getElem? (i := 1) rfl) rfl dX3_of_56 ?_
    refine x_get F hw iX2 2 rfl rfl 1 (by decide) rfl (List.mem_of_getElem? (i := 4) rfl) rfl dX3_of_59 ?_
    refine x_get F hw iX0 12 rfl rfl 7 (by decide) rfl (List.mem_of_getElem? (i := 3) rfl) rfl dX3_of_62 ?_
    refine vx_ret ?_
    refine W.widen (k := 1) (n := 6) (by omega) (by omega) ?_
    exact x_riret F hr hlk (⟨hwh, rfl⟩) dX3_of_65
  · refine lv_tableIn (tgt := 66) F.1 F.2.1 dX3_of_7 (by decide) (by decide) rfl (by decide) ?_
    refine lv_aload_n F.1 F.2.1 dX3_of_66 rfl (lv_at hl 0 rfl) ?_
    refine x_get F hw iX3 0 rfl rfl 0 (by decide) rfl (List.mem_of_getElem? (i := 1) rfl) rfl dX3_of_67 ?_
    refine x_get F hw iX2 2 rfl rfl 3 (by decide) rfl (List.mem_of_getElem? (i := 5) rfl) rfl dX3_of_70 ?_
    refine vx_ret ?_
    refine W.widen (k := 1) (n := 6) (by omega) (by omega) ?_
    exact x_riret F hr hlk (⟨hwh, rfl⟩) dX3_of_73
  · refine lv_tableIn (tgt := 74) F.1 F.2.1 dX3_of_7 (by decide) (by decide) rfl (by decide) ?_
    refine lv_aload_n F.1 F.2.1 dX3_of_74 rfl (lv_at hl 0 rfl) ?_
    refine x_get F hw iX3 0 rfl rfl 0 (by decide) rfl (List.mem_of_getElem? (i := 1) rfl) rfl dX3_of_75 ?_
    refine x_get F hw iX2 2 rfl rfl 4 (by decide) rfl (List.mem_of_getElem? (i := 6) rfl) rfl dX3_of_78 ?_
    refine vx_ret ?_
    refine W.widen (k := 1) (n := 6) (by omega) (by omega) ?_
    exact x_riret F hr hlk (⟨hwh, rfl⟩) dX3_of_81
  · refine lv_tableIn (tgt := 82) F.1 F.2.1 dX3_of_7 (by decide) (by decide) rfl (by decide) ?_
    refine lv_aload_n F.1 F.2.1 dX3_of_82 rfl (lv_at hl 0 rfl) ?_
    refine x_get F hw iX3 0 rfl rfl 0 (by decide) rfl (List.mem_of_getElem? (i := 1) rfl) rfl dX3_of_83 ?_
    refine x_get F hw iX2 2 rfl rfl 5 (by decide) rfl (List.mem_of_getElem? (i := 7) rfl) rfl dX3_of_86 ?_
    refine vx_ret ?_
    refine W.widen (k := 1) (n := 6) (by omega) (by omega) ?_
    exact x_riret F hr hlk (⟨hwh, rfl⟩) dX3_of_89
  · refine lv_tableIn (tgt := 90) F.1 F.2.1 dX3_of_7 (by decide) (by decide) rfl (by decide) ?_
    refine lv_aload_n F.1 F.2.1 dX3_of_90 rfl (lv_at hl 0 rfl) ?_
    refine x_get F hw iX3 0 rfl rfl 3 (by decide) rfl (List.mem_of_getElem? (i := 8) rfl) rfl dX3_of_91 ?_
    refine vx_ret ?_
    refine W.widen (k := 1) (n := 6) (by omega) (by omega) ?_
    exact x_riret F hr hlk (⟨hwh, rfl⟩) dX3_of_94
  · refine lv_tableOut (tgt := 95) F.1 F.2.1 dX3_of_7 (by decide) (by decide) ?_
    refine lv_aload_n F.1 F.2.1 dX3_of_95 rfl (lv_at hl 0 rfl) ?_
    refine x_get F hw iX3 0 rfl rfl 2 (by decide) rfl (List.mem_of_getElem? (i := 9) rfl) rfl dX3_of_96 ?_
    refine x_get F hw iX1 20 rfl rfl 5 (by decide) rfl (List.mem_of_getElem? (i := 10) rfl) rfl dX3_of_99 ?_
    refine vx_ret ?_
    refine W.widen (k := 1) (n := 6) (by omega) (by omega) ?_
    exact x_riret F hr hlk (⟨hwh, rfl⟩) dX3_of_102
