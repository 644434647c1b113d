set_option maxHeartbeats 8000000 in
set_option maxRecDepth 100000 in
/-- isFull() -/
theorem c_X0_isFull (l : Launch) (G : va_G) (cI cJ cZ cO : ClassId) (sz : Nat) (A : LnA) (u : LnR) (hn : lSz u ≤ 40) : Met l yX0_isFull wsX0_isFull ({ frames := 0, cells := 0, slots := 0, locals := 0 }) (xPc G (xK cI cJ cZ cO) sz [.ref (aH A)] (wLn cI cJ A u)) (xQi (fun r => r = if lSz u = 40 then 1 else 0)) 0 0 (fun _ => False) := by
  refine x_body (by decide) rfl (Nat.le_of_ble_eq_true rfl) ?_
  intro p e s m below meth c F hr hlk hnm hsz hw ls hl
  subst hsz
  have F : CallFix p m c cX0_isFull 1 s _ wsX0_isFull RX0 := F
  have hl : lv_has ls 1 [(0, .ref (aH A))] := hl
  have hw : xW G (xK cI cJ cZ cO) _ s.heap s [(aH A, .inr (0, [.ref (aO A), .ref (aN A), .ref (aC A), .ref (aK A), .ref (aT A), .ref (aG A), .ref (aF A), .int (nI (lSz u))])), (aO A, .inl (cI, 40, .inl (lO u))), (aN A, .inl (cI, 40, .inl (lNu u))), (aC A, .inl (cI, 40, .inl (lCk u))), (aK A, .inl (cJ, 40, .inr (.inl (lKe u)))), (aT A, .inl (cJ, 40, .inr (.inl (lTi u)))), (aG A, .inl (cJ, 40, .inr (.inl (lGa u)))), (aF A, .inl (cI, 40, .inl (lOf u)))] s.heap [] := hw
  have iX0 : ∀ w ∈ wsX00, w ∈ wsX0_isFull := by decide +kernel
  refine lv_aload_n F.1 F.2.1 dX0_isFull_0 rfl (lv_at hl 0 rfl) ?_
  refine x_get F hw iX0 0 rfl rfl 7 (by decide) rfl (List.mem_of_getElem? (i := 1) rfl) rfl dX0_isFull_1 ?_
  refine lv_bipush (v := 40) F.1 F.2.1 dX0_isFull_4 (by decide) ?_
  refine lv_icmp_lt (tgt := 13) F.1 F.2.1 dX0_isFull_6 (by decide) (fun c6 => ?_) (fun c6 => ?_)
  · refine lv_iconst (v := 0) F.1 F.2.1 dX0_isFull_13 (by decide) ?_
    exact x_rzret F hr hlk (rfl) (by rw [if_neg (fun h => by rw [h] at c6; exact absurd c6 (by decide))]) dX0_isFull_14
  · refine lv_iconst (v := 1) F.1 F.2.1 dX0_isFull_9 (by decide) ?_
    refine lv_goto (tgt := 14) F.1 F.2.1 dX0_isFull_10 (by decide) ?_
    exact x_rzret F hr hlk (rfl) (by rw [if_pos (by have h9 := (nI_ltI (a := lSz u) (b := 40) (by omega) (by omega)).mpr.mt c6; omega)]) dX0_isFull_14

set_option maxHeartbeats 8000000 in
set_option maxRecDepth 100000 in
/-- timeAt(place) -/
theorem c_X0_timeAt (l : Launch) (G : va_G) (cI cJ cZ cO : ClassId) (sz : Nat) (A : LnA) (u : LnR) (p9 : Nat) (hok : LnOk u) (hp : p9 < 40) : Met l yX0_timeAt wsX0_timeAt ({ frames := 0, cells := 0, slots := 0, locals := 0 }) (xPc G (xK cI cJ cZ cO) sz [.ref (aH A), .int (nI p9)] (wLn cI cJ A u)) (xQl (fun r => r = eT (lAt u p9))) 0 0 (fun _ => False) := by
  refine x_body (by decide) rfl (Nat.le_of_ble_eq_true rfl) ?_
  intro p e s m below meth c F hr hlk hnm hsz hw ls hl
  subst hsz
  have F : CallFix p m c cX0_timeAt 2 s _ wsX0_timeAt RX0 := F
  have hl : lv_has ls 2 [(0, .ref (aH A)), (1, .int (nI p9))] := hl
  have hw : xW G (xK cI cJ cZ cO) _ s.heap s [(aH A, .inr (0, [.ref (aO A), .ref (aN A), .ref (aC A), .ref (aK A), .ref (aT A), .ref (aG A), .ref (aF A), .int (nI (lSz u))])), (aO A, .inl (cI, 40, .inl (lO u))), (aN A, .inl (cI, 40, .inl (lNu u))), (aC A, .inl (cI, 40, .inl (lCk u))), (aK A, .inl (cJ, 40, .inr (.inl (lKe u)))), (aT A, .inl (cJ, 40, .inr (.inl (lTi u)))), (aG A, .inl (cJ, 40, .inr (.inl (lGa u)))), (aF A, .inl (cI, 40, .inl (lOf u)))] s.heap [] := hw
  have iX0 : ∀ w ∈ wsX00, w ∈ wsX0_timeAt := by decide +kernel
  refine lv_aload_n F.1 F.2.1 dX0_timeAt_0 rfl (lv_at hl 0 rfl) ?_
  refine x_get F hw iX0 0 rfl rfl 4 (by decide) rfl (List.mem_of_getElem? (i := 1) rfl) rfl dX0_timeAt_1 ?_
  refine lv_aload_n F.1 F.2.1 dX0_timeAt_4 rfl (lv_at hl 0 rfl) ?_
  refine x_get F hw iX0 0 rfl rfl 0 (by decide) rfl (List.mem_of_getElem? (i := 2) rfl) rfl dX0_timeAt_5 ?_
  refine lv_iload_n F.1 F.2.1 dX0_timeAt_8 rfl (lv_at hl 1 rfl) ?_
  refine x_ialdN F hw 1 0 rfl rfl p9 rfl (hp) (by decide) dX0_timeAt_9 ?_
  refine x_lald F hw 5 1 rfl rfl (hok.2.1 _ hp) dX0_timeAt_10 ?_
  exact x_rlret F hr hlk (rfl) dX0_timeAt_11

set_option maxHeartbeats 8000000 in
set_option maxRecDepth 100000 in
/-- placeOf -/
theorem c_X0_placeOf (l : Launch) (G : va_G) (cI cJ cZ cO : ClassId) (sz : Nat) (A : LnA) (u : LnR) (x : Int32) (hok : LnOk u) : Met l yX0_placeOf wsX0_placeOf ({ frames := 0, cells := 0, slots := 0, locals := 0 }) (xPc G (xK cI cJ cZ cO) sz [.ref (aH A), .int x] (wLn cI cJ A u)) (xQi (fun r => (∃ k, k < lSz u ∧ eN (lAt u k) = x ∧ (∀ i, i < k → eN (lAt u i) ≠ x) ∧ r = nI k) ∨ ((∀ i, i < lSz u → eN (lAt u i) ≠ x) ∧ r = -1))) 0 0 (fun _ => False) := by
  refine x_body (by decide) rfl (Nat.le_of_ble_eq_true rfl) ?_
  intro p e s m below meth c F hr hlk hnm hsz hw ls hl
  subst hsz
  have F : CallFix p m c cX0_placeOf 3 s _ wsX0_placeOf RX0 := F
  have hl : lv_has ls 3 [(0, .ref (aH A)), (1, .int x)] := hl
  have hw : xW G (xK cI cJ cZ cO) _ s.heap s [(aH A, .inr (0, [.ref (aO A), .ref (aN A), .ref (aC A), .ref (aK A), .ref (aT A), .ref (aG A), .ref (aF A), .int (nI (lSz u))])), (aO A, .inl (cI, 40, .inl (lO u))), (aN A, .inl (cI, 40, .inl (lNu u))), (aC A, .inl (cI, 40, .inl (lCk u))), (aK A, .inl (cJ, 40, .inr (.inl (lKe u)))), (aT A, .inl (cJ, 40, .inr (.inl (lTi u)))), (aG A, .inl (cJ, 40, .inr (.inl (lGa u)))), (aF A, .inl (cI, 40, .inl (lOf u)))] s.heap [] := hw
  have iX0 : ∀ w ∈ wsX00, w ∈ wsX0_placeOf := by decide +kernel
  refine lv_iconst (v := 0) F.1 F.2.1 dX0_placeOf_0 (by decide) ?_
  refine lv_istore_n (lv' := [(2, .int 0), (0, .ref (aH A)), (1, .int x)]) F.1 F.2.1 dX0_placeOf_1 rfl hl (by decide) rfl (fun ls hl => ?_)
  refine x_rec0 (α := Nat) (fun a9 => lSz u - a9) (fun a9 ls => lv_has ls 3 [(0, .ref (aH A)), (1, .int x), (2, .int (nI a9))] ∧ a9 ≤ lSz u ∧ ∀ j, j < a9 → eN (lAt u j) ≠ x) ?_ (0) ⟨lv_sub hl [1, 2, 0] rfl, Nat.zero_le _, x_upto0⟩
  rintro i ls ⟨hl, hi, hno⟩ ih
  have h40 := hok.1
  have hl : lv_has ls 3 [(0, .ref (aH A)), (1, .int x), (2, .int (nI i))] := hl
  refine lv_iload_n F.1 F.2.1 dX0_placeOf_2 rfl (lv_at hl 2 rfl) ?_
  refine lv_aload_n F.1 F.2.1 dX0_placeOf_3 rfl (lv_at hl 0 rfl) ?_
  refine x_get F hw iX0 0 rfl rfl 7 (by decide) rfl (List.mem_of_getElem? (i := 1) rfl) rfl dX0_placeOf_4 ?_
  refine lv_icmp_ge (tgt := 33) F.1 F.2.1 dX0_placeOf_7 (by decide) (fun c7 => ?_) (fun c7 => ?_)
  · refine lv_iconst (v := (-1)) F.1 F.2.1 dX0_placeOf_33 (by decide) ?_
    exact x_riret F hr hlk (Or.inr ⟨fun j hj => hno j (by have h9 := x_le (by omega) (by omega) c7; omega), rfl⟩) dX0_placeOf_34
  · have hlt : i < lSz u := x_nle (by omega) (by omega) c7
    refine lv_aload_n F.1 F.2.1 dX0_placeOf_10 rfl (lv_at hl 0 rfl) ?_
    refine x_get F hw iX0 0 rfl rfl 1 (by decide) rfl (List.mem_of_getElem? (i := 2) rfl) rfl dX0_placeOf_11 ?_
    refine lv_aload_n F.1 F.2.1 dX0_placeOf_14 rfl (lv_at hl 0 rfl) ?_
    refine x_get F hw iX0 0 rfl rfl 0 (by decide) rfl (List.mem_of_getElem? (i := 3) rfl) rfl dX0_placeOf_15 ?_
    refine lv_iload_n F.1 F.2.1 dX0_placeOf_18 rfl (lv_at hl 2 rfl) ?_
    refine x_ialdN F hw 1 0 rfl rfl i rfl (by omega) (by decide) dX0_placeOf_19 ?_
    refine x_iald F hw 2 0 rfl rfl (hok.2.1 _ (by omega)) dX0_placeOf_20 ?_
    refine lv_iload_n F.1 F.2.1 dX0_placeOf_21 rfl (lv_at hl 1 rfl) ?_
    refine lv_icmp_ne (tgt := 27) F.1 F.2.1 dX0_placeOf_22 (by decide) (fun c22 => ?_) (fun c22 => ?_)
    · refine lv_iinc (v := nI (i + 1)) (lv' := [(2, .int (nI (i + 1))), (0, .ref (aH A)), (1, .int x)]) F.1 F.2.1 dX0_placeOf_27 hl (k := 2) rfl (by rw [show Int32.ofInt 1 = 1 from rfl]; exact nI_1 _) (by decide) rfl (fun ls hl => ?_)
      refine lv_goto (tgt := 2) F.1 F.2.1 dX0_placeOf_30 (by decide) ?_
      exact ih (i + 1) _ (by omega) ⟨lv_sub hl [1, 2, 0] rfl, by omega, x_upto hno c22⟩
    · refine lv_iload_n F.1 F.2.1 dX0_placeOf_25 rfl (lv_at hl 2 rfl) ?_
      exact x_riret F hr hlk (Or.inl ⟨i, hlt, by simpa using c22, hno, rfl⟩) dX0_placeOf_26

set_option maxHeartbeats 8000000 in
set_option maxRecDepth 100000 in
/-- headOf -/
theorem c_X0_headOf (l : Launch) (G : va_G) (cI cJ cZ cO : ClassId) (sz : Nat) (A : LnA) (u : LnR) (x : Int32) (hok : LnOk u) : Met l yX0_headOf wsX0_headOf ({ frames := 0, cells := 0, slots := 0, locals := 0 }) (xPc G (xK cI cJ cZ cO) sz [.ref (aH A), .int x] (wLn cI cJ A u)) (xQi (fun r => (∃ k, k < lSz u ∧ eC (lAt u k) = x ∧ (∀ i, i < k → eC (lAt u i) ≠ x) ∧ r = nI k) ∨ ((∀ i, i < lSz u → eC (lAt u i) ≠ x) ∧ r = -1))) 0 0 (fun _ => False) := by
  refine x_body (by decide) rfl (Nat.le_of_ble_eq_true rfl) ?_
  intro p e s m below meth c F hr hlk hnm hsz hw ls hl
  subst hsz
  have F : CallFix p m c cX0_headOf 3 s _ wsX0_headOf RX0 := F
  have hl : lv_has ls 3 [(0, .ref (aH A)), (1, .int x)] := hl
  have hw : xW G (xK cI cJ cZ cO) _ s.heap s [(aH A, .inr (0, [.ref (aO A), .ref (aN A), .ref (aC A), .ref (aK A), .ref (aT A), .ref (aG A), .ref (aF A), .int (nI (lSz u))])), (aO A, .inl (cI, 40, .inl (lO u))), (aN A, .inl (cI, 40, .inl (lNu u))), (aC A, .inl (cI, 40, .inl (lCk u))), (aK A, .inl (cJ, 40, .inr (.inl (lKe u)))), (aT A, .inl (cJ, 40, .inr (.inl (lTi u)))), (aG A, .inl (cJ, 40, .inr (.inl (lGa u)))), (aF A, .inl (cI, 40, .inl (lOf u)))] s.heap [] := hw
  have iX0 : ∀ w ∈ wsX00, w ∈ wsX0_headOf := by decide +kernel
  refine lv_iconst (v := 0) F.1 F.2.1 dX0_headOf_0 (by decide) ?_
  refine lv_istore_n (lv' := [(2, .int 0), (0, .ref (aH A)), (1, .int x)]) F.1 F.2.1 dX0_headOf_1 rfl hl (by decide) rfl (fun ls hl => ?_)
  refine x_rec0 (α := Nat) (fun a9 => lSz u - a9) (fun a9 ls => lv_has ls 3 [(0, .ref (aH A)), (1, .int x), (2, .int (nI a9))] ∧ a9 ≤ lSz u ∧ ∀ j, j < a9 → eC (lAt u j) ≠ x) ?_ (0) ⟨lv_sub hl [1, 2, 0] rfl, Nat.zero_le _, x_upto0⟩
  rintro i ls ⟨hl, hi, hno⟩ ih
  have h40 := hok.1
  have hl : lv_has ls 3 [(0, .ref (aH A)), (1, .int x), (2, .int (nI i))] := hl
  refine lv_iload_n F.1 F.2.1 dX0_headOf_2 rfl (lv_at hl 2 rfl) ?_
  refine lv_aload_n F.1 F.2.1 dX0_headOf_3 rfl (lv_at hl 0 rfl) ?_
  refine x_get F hw iX0 0 rfl rfl 7 (by decide) rfl (List.mem_of_getElem? (i := 1) rfl) rfl dX0_headOf_4 ?_
  refine lv_icmp_ge (tgt := 33) F.1 F.2.1 dX0_headOf_7 (by decide) (fun c7 => ?_) (fun c7 => ?_)
  · refine lv_iconst (v := (-1)) F.1 F.2.1 dX0_headOf_33 (by decide) ?_
    exact x_riret F hr hlk (Or.inr ⟨fun j hj => hno j (by have h9 := x_le (by omega) (by omega) c7; omega), rfl⟩) dX0_headOf_34
  · have hlt : i < lSz u := x_nle (by omega) (by omega) c7
    refine lv_aload_n F.1 F.2.1 dX0_headOf_10 rfl (lv_at hl 0 rfl) ?_
    refine x_get F hw iX0 0 rfl rfl 2 (by decide) rfl (List.mem_of_getElem? (i := 2) rfl) rfl dX0_headOf_11 ?_
    refine lv_aload_n F.1 F.2.1 dX0_headOf_14 rfl (lv_at hl 0 rfl) ?_
    refine x_get F hw iX0 0 rfl rfl 0 (by decide) rfl (List.mem_of_getElem? (i := 3) rfl) rfl dX0_headOf_15 ?_
    refine lv_iload_n F.1 F.2.1 dX0_headOf_18 rfl (lv_at hl 2 rfl) ?_
    refine x_ialdN F hw 1 0 rfl rfl i rfl (by omega) (by decide) dX0_headOf_19 ?_
    refine x_iald F hw 3 0 rfl rfl (hok.2.1 _ (by omega)) dX0_headOf_20 ?_
    refine lv_iload_n F.1 F.2.1 dX0_headOf_21 rfl (lv_at hl 1 rfl) ?_
    refine lv_icmp_ne (tgt := 27) F.1 F.2.1 dX0_headOf_22 (by decide) (fun c22 => ?_) (fun c22 => ?_)
    · refine lv_iinc (v := nI (i + 1)) (lv' := [(2, .int (nI (i + 1))), (0, .ref (aH A)), (1, .int x)]) F.1 F.2.1 dX0_headOf_27 hl (k := 2) rfl (by rw [show Int32.ofInt 1 = 1 from rfl]; exact nI_1 _) (by decide) rfl (fun ls hl => ?_)
      refine lv_goto (tgt := 2) F.1 F.2.1 dX0_headOf_30 (by decide) ?_
      exact ih (i + 1) _ (by omega) ⟨lv_sub hl [1, 2, 0] rfl, by omega, x_upto hno c22⟩
    · refine lv_iload_n F.1 F.2.1 dX0_headOf_25 rfl (lv_at hl 2 rfl) ?_
      exact x_riret F hr hlk (Or.inl ⟨i, hlt, by simpa using c22, hno, rfl⟩) dX0_headOf_26
