set_option maxHeartbeats 8000000 in
set_option maxRecDepth 100000 in
/-- isFull() -/
theorem c_X0_isFull (l : Launch) (G : va_G) (cI cJ cZ cO : ClassId) (sz : Nat) (A : LnA) (u : LnR) (hn : lSz u ≤ 40) : Met l yX0_isFull wsX0_isFull ({ frames := 0, cells := 0, slots := 0, locals := 0 }) (xPc G (xK cI cJ cZ cO) sz [.ref (aH A)] (wLn cI cJ A u)) (xQi (fun r => r = if lSz u = 40 then 1 else 0)) 0 0 (fun _ => False) := by
  refine x_body (by decide) rfl (Nat.le_of_ble_eq_true rfl) ?_
  intro p e s m below meth c F hr hlk hnm hsz hw ls hl
  subst hsz
  have F : CallFix p m c cX0_isFull 1 s _ wsX0_isFull RX0 := F
  have hl : lv_has ls 1 [(0, .ref (aH A))] := hl
  have hw : xW G (xK cI cJ cZ cO) _ s.heap s [(aH A, .inr (0, [.ref (aO A), .ref (aN A), .ref (aC A), .ref (aK A), .ref (aT A), .ref (aG A), .ref (aF A), .int (nI (lSz u))])), (aO A, .inl (cI, 40, .inl (lO u))), (aN A, .inl (cI, 40, .inl (lNu u))), (aC A, .inl (cI, 40, .inl (lCk u))), (aK A, .inl (cJ, 40, .inr (.inl (lKe u)))), (aT A, .inl (cJ, 40, .inr (.inl (lTi u)))), (aG A, .inl (cJ, 40, .inr (.inl (lGa u)))), (aF A, .inl (cI, 40, .inl (lOf u)))] s.heap [] := hw
  have iX0 : ∀ w ∈ wsX00, w ∈ wsX0_isFull := by decide +kernel
  refine lv_aload_n F.1 F.2.1 dX0_isFull_0 rfl (lv_at hl 0 rfl) ?_
  refine x_get F hw iX0 0 rfl rfl 7 (by decide) rfl (List.mem_of_getElem? (i := 1) rfl) rfl dX0_isFull_1 ?_
  refine lv_bipush (v := 40) F.1 F.2.1 dX0_isFull_4 (by decide) ?_
  refine lv_icmp_lt (tgt := 13) F.1 F.2.1 dX0_isFull_6 (by decide) (fun c6 => ?_) (fun c6 => ?_)
  · refine lv_iconst (v := 0) F.1 F.2.1 dX0_isFull_13 (by decide) ?_
    exact x_rzret F hr hlk (rfl) (by rw [if_neg (fun h => by rw [h] at c6; exact absurd c6 (by decide))]) dX0_isFull_14
  · refine lv_iconst (v := 1) F.1 F.2.1 dX0_isFull_9 (by decide) ?_
    refine lv_goto (tgt := 14) F.1 F.2.1 dX0_isFull_10 (by decide) ?_
    exact x_rzret F hr hlk (rfl) (by rw [if_pos (by have h9 := x_nlt (a := lSz u) (b := 40) (by omega) (by omega) c6; omega)]) dX0_isFull_14

set_option maxHeartbeats 8000000 in
set_option maxRecDepth 100000 in
/-- timeAt(place) -/
theorem c_X0_timeAt (l : Launch) (G : va_G) (cI cJ cZ cO : ClassId) (sz : Nat) (A : LnA) (u : LnR) (p9 : Nat) (hok : LnOk u) (hp : p9 < 40) : Met l yX0_timeAt wsX0_timeAt ({ frames := 0, cells := 0, slots := 0, locals := 0 }) (xPc G (xK cI cJ cZ cO) sz [.ref (aH A), .int (nI p9)] (wLn cI cJ A u)) (xQl (fun r => r = eT (lAt u p9))) 0 0 (fun _ => False) := by
  refine x_body (by decide) rfl (Nat.le_of_ble_eq_true rfl) ?_
  intro p e s m below meth c F hr hlk hnm hsz hw ls hl
  subst hsz
  have F : CallFix p m c cX0_timeAt 2 s _ wsX0_timeAt RX0 := F
  have hl : lv_has ls 2 [(0, .ref (aH A)), (1, .int (nI p9))] := hl
  have hw : xW G (xK cI cJ cZ cO) _ s.heap s [(aH A, .inr (0, [.ref (aO A), .ref (aN A), .ref (aC A), .ref (aK A), .ref (aT A), .ref (aG A), .ref (aF A), .int (nI (lSz u))])), (aO A, .inl (cI, 40, .inl (lO u))), (aN A, .inl (cI, 40, .inl (lNu u))), (aC A, .inl (cI, 40, .inl (lCk u))), (aK A, .inl (cJ, 40, .inr (.inl (lKe u)))), (aT A, .inl (cJ, 40, .inr (.inl (lTi u)))), (aG A, .inl (cJ, 40, .inr (.inl (lGa u)))), (aF A, .inl (cI, 40, .inl (lOf u)))] s.heap [] := hw
  have iX0 : ∀ w ∈ wsX00, w ∈ wsX0_timeAt := by decide +kernel
  refine lv_aload_n F.1 F.2.1 dX0_timeAt_0 rfl (lv_at hl 0 rfl) ?_
  refine x_get F hw iX0 0 rfl rfl 4 (by decide) rfl (List.mem_of_getElem? (i := 1) rfl) rfl dX0_timeAt_1 ?_
  refine lv_aload_n F.1 F.2.1 dX0_timeAt_4 rfl (lv_at hl 0 rfl) ?_
  refine x_get F hw iX0 0 rfl rfl 0 (by decide) rfl (List.mem_of_getElem? (i := 2) rfl) rfl dX0_timeAt_5 ?_
  refine lv_iload_n F.1 F.2.1 dX0_timeAt_8 rfl (lv_at hl 1 rfl) ?_
  refine x_ialdN F hw 1 0 rfl rfl p9 rfl (hp) (by decide) dX0_timeAt_9 ?_
  refine x_lald F hw 5 1 rfl rfl (hok.2.1 _ hp) dX0_timeAt_10 ?_
  exact x_rlret F hr hlk (rfl) dX0_timeAt_11

set_option maxHeartbeats 8000000 in
set_option maxRecDepth 100000 in
/-- placeOf -/
theorem c_X0_placeOf (l : Launch) (G : va_G) (cI cJ cZ cO : ClassId) (sz : Nat) (A : LnA) (u : LnR) (x : Int32) (hok : LnOk u) : Met l yX0_placeOf wsX0_placeOf ({ frames := 0, cells := 0, slots := 0, locals := 0 }) (xPc G (xK cI cJ cZ cO) sz [.ref (aH A), .int x] (wLn cI cJ A u)) (xQi (fun r => (∃ k, k < lSz u ∧ eN (lAt u k) = x ∧ (∀ i, i < k → eN (lAt u i) ≠ x) ∧ r = nI k) ∨ ((∀ i, i < lSz u → eN (lAt u i) ≠ x) ∧ r = -1))) 0 0 (fun _ => False) := by
  refine x_body (by decide) rfl (Nat.le_of_ble_eq_true rfl) ?_
  intro p e s m below meth c F hr hlk hnm hsz hw ls hl
  subst hsz
  have F : CallFix p m c cX0_placeOf 3 s _ wsX0_placeOf RX0 := F
  have hl : lv_has ls 3 [(0, .ref (aH A)), (1, .int x)] := hl
  have hw : xW G (xK cI cJ cZ cO) _ s.heap s [(aH A, .inr (0, [.ref (aO A), .ref (aN A), .ref (aC A), .ref (aK A), .ref (aT A), .ref (aG A), .ref (aF A), .int (nI (lSz u))])), (aO A, .inl (cI, 40, .inl (lO u))), (aN A, .inl (cI, 40, .inl (lNu u))), (aC A, .inl (cI, 40, .inl (lCk u))), (aK A, .inl (cJ, 40, .inr (.inl (lKe u)))), (aT A, .inl (cJ, 40, .inr (.inl (lTi u)))), (aG A, .inl (cJ, 40, .inr (.inl (lGa u)))), (aF A, .inl (cI, 40, .inl (lOf u)))] s.heap [] := hw
  have iX0 : ∀ w ∈ wsX00, w ∈ wsX0_placeOf := by decide +kernel
  refine lv_iconst (v := 0) F.1 F.2.1 dX0_placeOf_0 (by decide) ?_
  refine lv_istore_n (lv' := [(2, .int 0), (0, .ref (aH A)), (1, .int x)]) F.1 F.2.1 dX0_placeOf_1 rfl hl (by decide) rfl (fun ls hl => ?_)
  refine x_rec0 (α := Nat) (fun a9 => lSz u - a9) (fun a9 ls => lv_has ls 3 [(0, .ref (aH A)), (1, .int x), (2, .int (nI a9))] ∧ a9 ≤ lSz u ∧ ∀ j, j < a9 → eN (lAt u j) ≠ x) ?_ (0) ⟨lv_sub hl [1, 2, 0] rfl, Nat.zero_le _, x_upto0⟩
  rintro i ls ⟨hl, hi, hno⟩ ih
  have h40 := hok.1
  have hl : lv_has ls 3 [(0, .ref (aH A)), (1, .int x), (2, .int (nI i))] := hl
  refine lv_iload_n F.1 F.2.1 dX0_placeOf_2 rfl (lv_at hl 2 rfl) ?_
  refine lv_aload_n F.1 F.2.1 dX0_placeOf_3 rfl (lv_at hl 0 rfl) ?_
  refine x_get F hw iX0 0 rfl rfl 7 (by decide) rfl (List.mem_of_getElem? (i := 1) rfl) rfl dX0_placeOf_4 ?_
  refine lv_icmp_ge (tgt := 33) F.1 F.2.1 dX0_placeOf_7 (by decide) (fun c7 => ?_) (fun c7 => ?_)
  · refine lv_iconst (v := (-1)) F.1 F.2.1 dX0_placeOf_33 (by decide) ?_
    exact x_riret F hr hlk (Or.inr ⟨fun j hj => hno j (by have h9 := x_le (by omega) (by omega) c7; omega), rfl⟩) dX0_placeOf_34
  · have hlt : i < lSz u := x_nle (by omega) (by omega) c7
    refine lv_aload_n F.1 F.2.1 dX0_placeOf_10 rfl (lv_at hl 0 rfl) ?_
    refine x_get F hw iX0 0 rfl rfl 1 (by decide) rfl (List.mem_of_getElem? (i := 2) rfl) rfl dX0_placeOf_11 ?_
    refine lv_aload_n F.1 F.2.1 dX0_placeOf_14 rfl (lv_at hl 0 rfl) ?_
    refine x_get F hw iX0 0 rfl rfl 0 (by decide) rfl (List.mem_of_getElem? (i := 3) rfl) rfl dX0_placeOf_15 ?_
    refine lv_iload_n F.1 F.2.1 dX0_placeOf_18 rfl (lv_at hl 2 rfl) ?_
    refine x_ialdN F hw 1 0 rfl rfl i rfl (by omega) (by decide) dX0_placeOf_19 ?_
    refine x_iald F hw 2 0 rfl rfl (hok.2.1 _ (by omega)) dX0_placeOf_20 ?_
    refine lv_iload_n F.1 F.2.1 dX0_placeOf_21 rfl (lv_at hl 1 rfl) ?_
    refine lv_icmp_ne (tgt := 27) F.1 F.2.1 dX0_placeOf_22 (by decide) (fun c22 => ?_) (fun c22 => ?_)
    · refine lv_iinc (v := nI (i + 1)) (lv' := [(2, .int (nI (i + 1))), (0, .ref (aH A)), (1, .int x)]) F.1 F.2.1 dX0_placeOf_27 hl (k := 2) rfl (by rw [show Int32.ofInt 1 = 1 from rfl]; exact nI_1 _) (by decide) rfl (fun ls hl => ?_)
      refine lv_goto (tgt := 2) F.1 F.2.1 dX0_placeOf_30 (by decide) ?_
      exact ih (i + 1) _ (by omega) ⟨lv_sub hl [1, 2, 0] rfl, by omega, x_upto hno c22⟩
    · refine lv_iload_n F.1 F.2.1 dX0_placeOf_25 rfl (lv_at hl 2 rfl) ?_
      exact x_riret F hr hlk (Or.inl ⟨i, hlt, c22, hno, rfl⟩) dX0_placeOf_26

set_option maxHeartbeats 8000000 in
set_option maxRecDepth 100000 in
/-- headOf -/
theorem c_X0_headOf (l : Launch) (G : va_G) (cI cJ cZ cO : ClassId) (sz : Nat) (A : LnA) (u : LnR) (x : Int32) (hok : LnOk u) : Met l yX0_headOf wsX0_headOf ({ frames := 0, cells := 0, slots := 0, locals := 0 }) (xPc G (xK cI cJ cZ cO) sz [.ref (aH A), .int x] (wLn cI cJ A u)) (xQi (fun r => (∃ k, k < lSz u ∧ eC (lAt u k) = x ∧ (∀ i, i < k → eC (lAt u i) ≠ x) ∧ r = nI k) ∨ ((∀ i, i < lSz u → eC (lAt u i) ≠ x) ∧ r = -1))) 0 0 (fun _ => False) := by
  refine x_body (by decide) rfl (Nat.le_of_ble_eq_true rfl) ?_
  intro p e s m below meth c F hr hlk hnm hsz hw ls hl
  subst hsz
  have F : CallFix p m c cX0_headOf 3 s _ wsX0_headOf RX0 := F
  have hl : lv_has ls 3 [(0, .ref (aH A)), (1, .int x)] := hl
  have hw : xW G (xK cI cJ cZ cO) _ s.heap s [(aH A, .inr (0, [.ref (aO A), .ref (aN A), .ref (aC A), .ref (aK A), .ref (aT A), .ref (aG A), .ref (aF A), .int (nI (lSz u))])), (aO A, .inl (cI, 40, .inl (lO u))), (aN A, .inl (cI, 40, .inl (lNu u))), (aC A, .inl (cI, 40, .inl (lCk u))), (aK A, .inl (cJ, 40, .inr (.inl (lKe u)))), (aT A, .inl (cJ, 40, .inr (.inl (lTi u)))), (aG A, .inl (cJ, 40, .inr (.inl (lGa u)))), (aF A, .inl (cI, 40, .inl (lOf u)))] s.heap [] := hw
  have iX0 : ∀ w ∈ wsX00, w ∈ wsX0_headOf := by decide +kernel
  refine lv_iconst (v := 0) F.1 F.2.1 dX0_headOf_0 (by decide) ?_
  refine lv_istore_n (lv' := [(2, .int 0), (0, .ref (aH A)), (1, .int x)]) F.1 F.2.1 dX0_headOf_1 rfl hl (by decide) rfl (fun ls hl => ?_)
  refine x_rec0 (α := Nat) (fun a9 => lSz u - a9) (fun a9 ls => lv_has ls 3 [(0, .ref (aH A)), (1, .int x), (2, .int (nI a9))] ∧ a9 ≤ lSz u ∧ ∀ j, j < a9 → eC (lAt u j) ≠ x) ?_ (0) ⟨lv_sub hl [1, 2, 0] rfl, Nat.zero_le _, x_upto0⟩
  rintro i ls ⟨hl, hi, hno⟩ ih
  have h40 := hok.1
  have hl : lv_has ls 3 [(0, .ref (aH A)), (1, .int x), (2, .int (nI i))] := hl
  refine lv_iload_n F.1 F.2.1 dX0_headOf_2 rfl (lv_at hl 2 rfl) ?_
  refine lv_aload_n F.1 F.2.1 dX0_headOf_3 rfl (lv_at hl 0 rfl) ?_
  refine x_get F hw iX0 0 rfl rfl 7 (by decide) rfl (List.mem_of_getElem? (i := 1) rfl) rfl dX0_headOf_4 ?_
  refine lv_icmp_ge (tgt := 33) F.1 F.2.1 dX0_headOf_7 (by decide) (fun c7 => ?_) (fun c7 => ?_)
  · refine lv_iconst (v := (-1)) F.1 F.2.1 dX0_headOf_33 (by decide) ?_
    exact x_riret F hr hlk (Or.inr ⟨fun j hj => hno j (by have h9 := x_le (by omega) (by omega) c7; omega), rfl⟩) dX0_headOf_34
  · have hlt : i < lSz u := x_nle (by omega) (by omega) c7
    refine lv_aload_n F.1 F.2.1 dX0_headOf_10 rfl (lv_at hl 0 rfl) ?_
    refine x_get F hw iX0 0 rfl rfl 2 (by decide) rfl (List.mem_of_getElem? (i := 2) rfl) rfl dX0_headOf_11 ?_
    refine lv_aload_n F.1 F.2.1 dX0_headOf_14 rfl (lv_at hl 0 rfl) ?_
    refine x_get F hw iX0 0 rfl rfl 0 (by decide) rfl (List.mem_of_getElem? (i := 3) rfl) rfl dX0_headOf_15 ?_
    refine lv_iload_n F.1 F.2.1 dX0_headOf_18 rfl (lv_at hl 2 rfl) ?_
    refine x_ialdN F hw 1 0 rfl rfl i rfl (by omega) (by decide) dX0_headOf_19 ?_
    refine x_iald F hw 3 0 rfl rfl (hok.2.1 _ (by omega)) dX0_headOf_20 ?_
    refine lv_iload_n F.1 F.2.1 dX0_headOf_21 rfl (lv_at hl 1 rfl) ?_
    refine lv_icmp_ne (tgt := 27) F.1 F.2.1 dX0_headOf_22 (by decide) (fun c22 => ?_) (fun c22 => ?_)
    · refine lv_iinc (v := nI (i + 1)) (lv' := [(2, .int (nI (i + 1))), (0, .ref (aH A)), (1, .int x)]) F.1 F.2.1 dX0_headOf_27 hl (k := 2) rfl (by rw [show Int32.ofInt 1 = 1 from rfl]; exact nI_1 _) (by decide) rfl (fun ls hl => ?_)
      refine lv_goto (tgt := 2) F.1 F.2.1 dX0_headOf_30 (by decide) ?_
      exact ih (i + 1) _ (by omega) ⟨lv_sub hl [1, 2, 0] rfl, by omega, x_upto hno c22⟩
    · refine lv_iload_n F.1 F.2.1 dX0_headOf_25 rfl (lv_at hl 2 rfl) ?_
      exact x_riret F hr hlk (Or.inl ⟨i, hlt, c22, hno, rfl⟩) dX0_headOf_26

set_option maxHeartbeats 8000000 in
set_option maxRecDepth 100000 in
/-- goesAhead(slot, other) -/
theorem c_X0_goesAhead (l : Launch) (G : va_G) (cI cJ cZ cO : ClassId) (sz : Nat) (A : LnA) (u : LnR) (x y : Int32) (hx : vp_in x 40) (hy : vp_in y 40) : Met l yX0_goesAhead wsX0_goesAhead ({ frames := 0, cells := 0, slots := 0, locals := 0 }) (xPc G (xK cI cJ cZ cO) sz [.ref (aH A), .int x, .int y] (wLn cI cJ A u)) (xQi (fun r => r = if eLt (lEnt u x.toNatClampNeg) (lEnt u y.toNatClampNeg) = true then 1 else 0)) 0 0 (fun _ => False) := by
  refine x_body (by decide) rfl (Nat.le_of_ble_eq_true rfl) ?_
  intro p e s m below meth c F hr hlk hnm hsz hw ls hl
  subst hsz
  have F : CallFix p m c cX0_goesAhead 3 s _ wsX0_goesAhead RX0 := F
  have hl : lv_has ls 3 [(0, .ref (aH A)), (1, .int x), (2, .int y)] := hl
  have hw : xW G (xK cI cJ cZ cO) _ s.heap s [(aH A, .inr (0, [.ref (aO A), .ref (aN A), .ref (aC A), .ref (aK A), .ref (aT A), .ref (aG A), .ref (aF A), .int (nI (lSz u))])), (aO A, .inl (cI, 40, .inl (lO u))), (aN A, .inl (cI, 40, .inl (lNu u))), (aC A, .inl (cI, 40, .inl (lCk u))), (aK A, .inl (cJ, 40, .inr (.inl (lKe u)))), (aT A, .inl (cJ, 40, .inr (.inl (lTi u)))), (aG A, .inl (cJ, 40, .inr (.inl (lGa u)))), (aF A, .inl (cI, 40, .inl (lOf u)))] s.heap [] := hw
  have iX0 : ∀ w ∈ wsX00, w ∈ wsX0_goesAhead := by decide +kernel
  refine lv_aload_n F.1 F.2.1 dX0_goesAhead_0 rfl (lv_at hl 0 rfl) ?_
  refine x_get F hw iX0 0 rfl rfl 4 (by decide) rfl (List.mem_of_getElem? (i := 1) rfl) rfl dX0_goesAhead_1 ?_
  refine lv_iload_n F.1 F.2.1 dX0_goesAhead_4 rfl (lv_at hl 1 rfl) ?_
  refine x_lald F hw 5 1 rfl rfl (hx) dX0_goesAhead_5 ?_
  refine lv_aload_n F.1 F.2.1 dX0_goesAhead_6 rfl (lv_at hl 0 rfl) ?_
  refine x_get F hw iX0 0 rfl rfl 4 (by decide) rfl (List.mem_of_getElem? (i := 1) rfl) rfl dX0_goesAhead_7 ?_
  refine lv_iload_n F.1 F.2.1 dX0_goesAhead_10 rfl (lv_at hl 2 rfl) ?_
  refine x_lald F hw 5 1 rfl rfl (hy) dX0_goesAhead_11 ?_
  refine x_l_eq (tgt := 38) F dX0_goesAhead_12 dX0_goesAhead_13 (by decide) (fun c12 => ?_) (fun c12 => ?_)
  · refine lv_aload_n F.1 F.2.1 dX0_goesAhead_38 rfl (lv_at hl 0 rfl) ?_
    refine x_get F hw iX0 0 rfl rfl 3 (by decide) rfl (List.mem_of_getElem? (i := 2) rfl) rfl dX0_goesAhead_39 ?_
    refine lv_iload_n F.1 F.2.1 dX0_goesAhead_42 rfl (lv_at hl 1 rfl) ?_
    refine x_lald F hw 4 1 rfl rfl (hx) dX0_goesAhead_43 ?_
    refine lv_aload_n F.1 F.2.1 dX0_goesAhead_44 rfl (lv_at hl 0 rfl) ?_
    refine x_get F hw iX0 0 rfl rfl 3 (by decide) rfl (List.mem_of_getElem? (i := 2) rfl) rfl dX0_goesAhead_45 ?_
    refine lv_iload_n F.1 F.2.1 dX0_goesAhead_48 rfl (lv_at hl 2 rfl) ?_
    refine x_lald F hw 4 1 rfl rfl (hy) dX0_goesAhead_49 ?_
    refine x_l_eq (tgt := 76) F dX0_goesAhead_50 dX0_goesAhead_51 (by decide) (fun c50 => ?_) (fun c50 => ?_)
    · refine lv_aload_n F.1 F.2.1 dX0_goesAhead_76 rfl (lv_at hl 0 rfl) ?_
      refine x_get F hw iX0 0 rfl rfl 1 (by decide) rfl (List.mem_of_getElem? (i := 3) rfl) rfl dX0_goesAhead_77 ?_
      refine lv_iload_n F.1 F.2.1 dX0_goesAhead_80 rfl (lv_at hl 1 rfl) ?_
      refine x_iald F hw 2 0 rfl rfl (hx) dX0_goesAhead_81 ?_
      refine lv_aload_n F.1 F.2.1 dX0_goesAhead_82 rfl (lv_at hl 0 rfl) ?_
      refine x_get F hw iX0 0 rfl rfl 1 (by decide) rfl (List.mem_of_getElem? (i := 3) rfl) rfl dX0_goesAhead_83 ?_
      refine lv_iload_n F.1 F.2.1 dX0_goesAhead_86 rfl (lv_at hl 2 rfl) ?_
      refine x_iald F hw 2 0 rfl rfl (hy) dX0_goesAhead_87 ?_
      refine lv_icmp_ge (tgt := 95) F.1 F.2.1 dX0_goesAhead_88 (by decide) (fun c88 => ?_) (fun c88 => ?_)
      · refine lv_iconst (v := 0) F.1 F.2.1 dX0_goesAhead_95 (by decide) ?_
        exact x_rzret F hr hlk (rfl) (eLt_0 ((eLt_n c12 c50).trans (decide_eq_false (Int32.not_lt.mpr c88)))) dX0_goesAhead_96
      · refine lv_iconst (v := 1) F.1 F.2.1 dX0_goesAhead_91 (by decide) ?_
        refine lv_goto (tgt := 96) F.1 F.2.1 dX0_goesAhead_92 (by decide) ?_
        exact x_rzret F hr hlk (rfl) (eLt_1 ((eLt_n c12 c50).trans (decide_eq_true (Int32.not_le.mp c88)))) dX0_goesAhead_96
    · refine lv_aload_n F.1 F.2.1 dX0_goesAhead_54 rfl (lv_at hl 0 rfl) ?_
      refine x_get F hw iX0 0 rfl rfl 3 (by decide) rfl (List.mem_of_getElem? (i := 2) rfl) rfl dX0_goesAhead_55 ?_
      refine lv_iload_n F.1 F.2.1 dX0_goesAhead_58 rfl (lv_at hl 1 rfl) ?_
      refine x_lald F hw 4 1 rfl rfl (hx) dX0_goesAhead_59 ?_
      refine lv_aload_n F.1 F.2.1 dX0_goesAhead_60 rfl (lv_at hl 0 rfl) ?_
      refine x_get F hw iX0 0 rfl rfl 3 (by decide) rfl (List.mem_of_getElem? (i := 2) rfl) rfl dX0_goesAhead_61 ?_
      refine lv_iload_n F.1 F.2.1 dX0_goesAhead_64 rfl (lv_at hl 2 rfl) ?_
      refine x_lald F hw 4 1 rfl rfl (hy) dX0_goesAhead_65 ?_
      refine x_l_ge (tgt := 74) F dX0_goesAhead_66 dX0_goesAhead_67 (by decide) (fun c66 => ?_) (fun c66 => ?_)
      · refine lv_iconst (v := 0) F.1 F.2.1 dX0_goesAhead_74 (by decide) ?_
        exact x_rzret F hr hlk (rfl) (eLt_0 ((eLt_k c12 c50).trans (decide_eq_false (Int64.not_lt.mpr c66)))) dX0_goesAhead_75
      · refine lv_iconst (v := 1) F.1 F.2.1 dX0_goesAhead_70 (by decide) ?_
        refine lv_goto (tgt := 75) F.1 F.2.1 dX0_goesAhead_71 (by decide) ?_
        exact x_rzret F hr hlk (rfl) (eLt_1 ((eLt_k c12 c50).trans (decide_eq_true (Int64.not_le.mp c66)))) dX0_goesAhead_75
  · refine lv_aload_n F.1 F.2.1 dX0_goesAhead_16 rfl (lv_at hl 0 rfl) ?_
    refine x_get F hw iX0 0 rfl rfl 4 (by decide) rfl (List.mem_of_getElem? (i := 1) rfl) rfl dX0_goesAhead_17 ?_
    refine lv_iload_n F.1 F.2.1 dX0_goesAhead_20 rfl (lv_at hl 1 rfl) ?_
    refine x_lald F hw 5 1 rfl rfl (hx) dX0_goesAhead_21 ?_
    refine lv_aload_n F.1 F.2.1 dX0_goesAhead_22 rfl (lv_at hl 0 rfl) ?_
    refine x_get F hw iX0 0 rfl rfl 4 (by decide) rfl (List.mem_of_getElem? (i := 1) rfl) rfl dX0_goesAhead_23 ?_
    refine lv_iload_n F.1 F.2.1 dX0_goesAhead_26 rfl (lv_at hl 2 rfl) ?_
    refine x_lald F hw 5 1 rfl rfl (hy) dX0_goesAhead_27 ?_
    refine x_l_ge (tgt := 36) F dX0_goesAhead_28 dX0_goesAhead_29 (by decide) (fun c28 => ?_) (fun c28 => ?_)
    · refine lv_iconst (v := 0) F.1 F.2.1 dX0_goesAhead_36 (by decide) ?_
      exact x_rzret F hr hlk (rfl) (eLt_0 ((eLt_t c12).trans (decide_eq_false (Int64.not_lt.mpr c28)))) dX0_goesAhead_37
    · refine lv_iconst (v := 1) F.1 F.2.1 dX0_goesAhead_32 (by decide) ?_
      refine lv_goto (tgt := 37) F.1 F.2.1 dX0_goesAhead_33 (by decide) ?_
      exact x_rzret F hr hlk (rfl) (eLt_1 ((eLt_t c12).trans (decide_eq_true (Int64.not_le.mp c28)))) dX0_goesAhead_37

set_option maxHeartbeats 8000000 in
set_option maxRecDepth 100000 in
/-- countAheadOf(slot) -/
theorem c_X0_countAheadOf (l : Launch) (G : va_G) (cI cJ cZ cO : ClassId) (sz : Nat) (A : LnA) (u : LnR) (x : Int32) (hx : vp_in x 40) (hok : LnOk u) (k : Nat) (hk : k ≤ lSz u) (h1 : ∀ i, i < k → eLt (lAt u i) (lEnt u x.toNatClampNeg) = true) (h2 : ∀ i, k ≤ i → i < lSz u → eLt (lAt u i) (lEnt u x.toNatClampNeg) = false) : Met l yX0_countAheadOf wsX0_countAheadOf ({ frames := 1, cells := 0, slots := 0, locals := 22 }) (xPc G (xK cI cJ cZ cO) sz [.ref (aH A), .int x] (wLn cI cJ A u)) (xQi (fun r => r = nI k)) 0 0 (fun _ => False) := by
  refine x_body (by decide) rfl (Nat.le_of_ble_eq_true rfl) ?_
  intro p e s m below meth c F hr hlk hnm hsz hw ls hl
  subst hsz
  have F : CallFix p m c cX0_countAheadOf 5 s _ wsX0_countAheadOf RX0 := F
  have hl : lv_has ls 5 [(0, .ref (aH A)), (1, .int x)] := hl
  have hw : xW G (xK cI cJ cZ cO) _ s.heap s [(aH A, .inr (0, [.ref (aO A), .ref (aN A), .ref (aC A), .ref (aK A), .ref (aT A), .ref (aG A), .ref (aF A), .int (nI (lSz u))])), (aO A, .inl (cI, 40, .inl (lO u))), (aN A, .inl (cI, 40, .inl (lNu u))), (aC A, .inl (cI, 40, .inl (lCk u))), (aK A, .inl (cJ, 40, .inr (.inl (lKe u)))), (aT A, .inl (cJ, 40, .inr (.inl (lTi u)))), (aG A, .inl (cJ, 40, .inr (.inl (lGa u)))), (aF A, .inl (cI, 40, .inl (lOf u)))] s.heap [] := hw
  have iX0 : ∀ w ∈ wsX00, w ∈ wsX0_countAheadOf := by decide +kernel
  refine lv_iconst (v := 0) F.1 F.2.1 dX0_countAheadOf_0 (by decide) ?_
  refine lv_istore_n (lv' := [(2, .int 0), (0, .ref (aH A)), (1, .int x)]) F.1 F.2.1 dX0_countAheadOf_1 rfl hl (by decide) rfl (fun ls hl => ?_)
  refine lv_bipush (v := 32) F.1 F.2.1 dX0_countAheadOf_2 (by decide) ?_
  refine lv_istore_n (lv' := [(3, .int 32), (2, .int 0), (0, .ref (aH A)), (1, .int x)]) F.1 F.2.1 dX0_countAheadOf_4 rfl hl (by decide) rfl (fun ls hl => ?_)
  refine x_rec0 (α := Nat × Nat) (fun a9 => a9.1) (fun a9 ls => lv_has ls 5 [(0, .ref (aH A)), (1, .int x), (2, .int (nI a9.2)), (3, .int (nI a9.1))] ∧ ((a9.1 = 0 ∧ k < a9.2 + 1) ∨ (0 < a9.1 ∧ k < a9.2 + 2 * a9.1 ∧ (a9.1 = 1 ∨ a9.1 = 2 ∨ a9.1 = 4 ∨ a9.1 = 8 ∨ a9.1 = 16 ∨ a9.1 = 32))) ∧ a9.2 ≤ k) ?_ ((32, 0)) ⟨lv_sub hl [2, 3, 1, 0] rfl, Or.inr ⟨by decide, by have h40 := hok.1; simp only []; omega, by simp⟩, Nat.zero_le _⟩
  rintro ⟨d, a⟩ ls ⟨hl, hd, ha⟩ ih
  try dsimp only at hd ha
  have h40 := hok.1
  have hl : lv_has ls 5 [(0, .ref (aH A)), (1, .int x), (2, .int (nI a)), (3, .int (nI d))] := hl
  refine lv_iload_n F.1 F.2.1 dX0_countAheadOf_5 rfl (lv_at hl 3 rfl) ?_
  refine lv_if_le (tgt := 50) F.1 F.2.1 dX0_countAheadOf_6 (by decide) (fun c6 => ?_) (fun c6 => ?_)
  · refine lv_iload_n F.1 F.2.1 dX0_countAheadOf_50 rfl (lv_at hl 2 rfl) ?_
    exact x_riret F hr hlk (by have h9 := x_le (a := d) (b := 0) (by omega) (by omega) c6; exact congrArg nI (by omega)) dX0_countAheadOf_51
  · have hd0 : 0 < d := by have h9 : ¬ nI d ≤ nI 0 := c6; exact x_nle (by omega) (by omega) h9
    refine lv_iload_n F.1 F.2.1 dX0_countAheadOf_9 rfl (lv_at hl 2 rfl) ?_
    refine lv_iload_n F.1 F.2.1 dX0_countAheadOf_10 rfl (lv_at hl 3 rfl) ?_
    refine lv_iadd F.1 F.2.1 dX0_countAheadOf_11 ?_
    refine x_topi (v := nI (a + d)) ((nI_add a d).symm) ?_
    refine lv_istore (lv' := [(4, .int (nI (a + d))), (0, .ref (aH A)), (1, .int x), (2, .int (nI a)), (3, .int (nI d))]) F.1 F.2.1 dX0_countAheadOf_12 hl (by decide) rfl (fun ls hl => ?_)
    refine lv_iload F.1 F.2.1 dX0_countAheadOf_14 (lv_at hl 0 rfl) ?_
    refine lv_aload_n F.1 F.2.1 dX0_countAheadOf_16 rfl (lv_at hl 1 rfl) ?_
    refine x_get F hw iX0 0 rfl rfl 7 (by decide) rfl (List.mem_of_getElem? (i := 1) rfl) rfl dX0_countAheadOf_17 ?_
    refine lv_icmp_gt (tgt := 43) F.1 F.2.1 dX0_countAheadOf_20 (by decide) (fun c20 => ?_) (fun c20 => ?_)
    · have hka : k < a + d := by have h9 := x_lt (by omega) (by omega) c20; omega
      refine lv_iload_n F.1 F.2.1 dX0_countAheadOf_43 rfl (lv_at hl 4 rfl) ?_
      refine lv_iconst (v := 2) F.1 F.2.1 dX0_countAheadOf_44 (by decide) ?_
      refine lv_idiv F.1 F.2.1 dX0_countAheadOf_45 (by decide) ?_
      refine x_topi (v := nI (d / 2)) ((pk_div (by omega) (by decide) (by decide)).symm) ?_
      refine lv_istore_n (lv' := [(3, .int (nI (d / 2))), (4, .int (nI (a + d))), (0, .ref (aH A)), (1, .int x), (2, .int (nI a))]) F.1 F.2.1 dX0_countAheadOf_46 rfl hl (by decide) rfl (fun ls hl => ?_)
      refine lv_goto (tgt := 5) F.1 F.2.1 dX0_countAheadOf_47 (by decide) ?_
      exact ih ((d / 2, a)) _ (by simp only []; omega) ⟨lv_sub hl [2, 3, 4, 0] rfl, by simp only []; omega, by simp only []; omega⟩
    · have hle : a + d ≤ lSz u := x_nlt (by omega) (by omega) c20
      refine lv_aload_n F.1 F.2.1 dX0_countAheadOf_23 rfl (lv_at hl 1 rfl) ?_
      refine lv_aload_n F.1 F.2.1 dX0_countAheadOf_24 rfl (lv_at hl 1 rfl) ?_
      refine x_get F hw iX0 0 rfl rfl 0 (by decide) rfl (List.mem_of_getElem? (i := 2) rfl) rfl dX0_countAheadOf_25 ?_
      refine lv_iload F.1 F.2.1 dX0_countAheadOf_28 (lv_at hl 0 rfl) ?_
      refine lv_iconst (v := 1) F.1 F.2.1 dX0_countAheadOf_30 (by decide) ?_
      refine lv_isub F.1 F.2.1 dX0_countAheadOf_31 ?_
      refine x_topi (v := nI ((a + d) - 1)) ((pk_sub (a := a + d) (b := 1) (by omega)).symm) ?_
      refine x_ialdN F hw 1 0 rfl rfl ((a + d) - 1) rfl (by omega) (by decide) dX0_countAheadOf_32 ?_
      refine lv_iload_n F.1 F.2.1 dX0_countAheadOf_33 rfl (lv_at hl 2 rfl) ?_
      refine x_ri (va_runV (As := [.int (lO u ((a + d) - 1)), .int x]) (rest := []) F (c_X0_goesAhead l G cI cJ cZ cO (Array.size _) A u (lO u (a + d - 1)) x (hok.2.1 _ (by omega)) hx) (cwV 2 F.2.2.2.2 gX0_countAheadOf_X0_goesAhead rfl rfl rfl (by decide +kernel) ⟨Nat.le_of_ble_eq_true rfl, Nat.le_of_ble_eq_true rfl⟩) (x_preVW hw [0, 1, 2, 3, 4, 5, 6, 7] rfl (by decide) 0 rfl rfl) rfl rfl hl.1 rfl (lv_room (Nat.le_of_ble_eq_true rfl)) dX0_countAheadOf_34 ⟨Nat.le_of_ble_eq_true rfl, Nat.le_of_ble_eq_true rfl⟩) (fun r9 hr9 => ?_)
      refine lv_if_eq (tgt := 43) F.1 F.2.1 dX0_countAheadOf_37 (by decide) (fun c37 => ?_) (fun c37 => ?_)
      · have hka : k < a + d := by
          rcases Nat.lt_or_ge (a + d - 1) k with q | q
          · have h9 := h1 (a + d - 1) q
            have h8 : r9 = 1 := by rw [hr9]; exact if_pos h9
            rw [h8] at c37; exact absurd c37 (by decide)
          · omega
        refine lv_iload_n F.1 F.2.1 dX0_countAheadOf_43 rfl (lv_at hl 4 rfl) ?_
        refine lv_iconst (v := 2) F.1 F.2.1 dX0_countAheadOf_44 (by decide) ?_
        refine lv_idiv F.1 F.2.1 dX0_countAheadOf_45 (by decide) ?_
        refine x_topi (v := nI (d / 2)) ((pk_div (by omega) (by decide) (by decide)).symm) ?_
        refine lv_istore_n (lv' := [(3, .int (nI (d / 2))), (4, .int (nI (a + d))), (0, .ref (aH A)), (1, .int x), (2, .int (nI a))]) F.1 F.2.1 dX0_countAheadOf_46 rfl hl (by decide) rfl (fun ls hl => ?_)
        refine lv_goto (tgt := 5) F.1 F.2.1 dX0_countAheadOf_47 (by decide) ?_
        exact ih ((d / 2, a)) _ (by simp only []; omega) ⟨lv_sub hl [2, 3, 4, 0] rfl, by simp only []; omega, by simp only []; omega⟩
      · have hka : a + d ≤ k := by
          rcases Nat.lt_or_ge (a + d - 1) k with q | q
          · omega
          · have h9 := h2 (a + d - 1) q (by omega)
            have h8 : r9 = 0 := by rw [hr9]; exact if_neg (by rw [show eLt (lEnt u (lO u (a + d - 1)).toNatClampNeg) (lEnt u x.toNatClampNeg) = false from h9]; decide)
            exact absurd h8 c37
        refine lv_iload F.1 F.2.1 dX0_countAheadOf_40 (lv_at hl 0 rfl) ?_
        refine lv_istore_n (lv' := [(2, .int (nI (a + d))), (4, .int (nI (a + d))), (0, .ref (aH A)), (1, .int x), (3, .int (nI d))]) F.1 F.2.1 dX0_countAheadOf_42 rfl hl (by decide) rfl (fun ls hl => ?_)
        refine lv_iload_n F.1 F.2.1 dX0_countAheadOf_43 rfl (lv_at hl 4 rfl) ?_
        refine lv_iconst (v := 2) F.1 F.2.1 dX0_countAheadOf_44 (by decide) ?_
        refine lv_idiv F.1 F.2.1 dX0_countAheadOf_45 (by decide) ?_
        refine x_topi (v := nI (d / 2)) ((pk_div (by omega) (by decide) (by decide)).symm) ?_
        refine lv_istore_n (lv' := [(3, .int (nI (d / 2))), (2, .int (nI (a + d))), (4, .int (nI (a + d))), (0, .ref (aH A)), (1, .int x)]) F.1 F.2.1 dX0_countAheadOf_46 rfl hl (by decide) rfl (fun ls hl => ?_)
        refine lv_goto (tgt := 5) F.1 F.2.1 dX0_countAheadOf_47 (by decide) ?_
        exact ih ((d / 2, a + d)) _ (by simp only []; omega) ⟨lv_sub hl [3, 4, 1, 0] rfl, by simp only []; omega, by simp only []; omega⟩
