set_option maxHeartbeats 8000000 in
set_option maxRecDepth 100000 in
/-- leave(place) -/
theorem c_X0_leave (l : Launch) (G : va_G) (cI cJ cZ cO : ClassId) (sz : Nat) (A : LnA) (u : LnR) (p9 : Nat) (hok : LnOk u) (hp : p9 < lSz u) : Met l yX0_leave wsX0_leave ({ frames := 1, cells := 0, slots := 0, locals := 40 }) (xPc G (xK cI cJ cZ cO) sz [.ref (aH A), .int (nI p9)] (wLn cI cJ A u)) (va_Qv (fun u2 => u2 = lLeave u p9) (xB G (xK cI cJ cZ cO) (wLn cI cJ A u) sz (fun u9 : LnR => wLn cI cJ A u9)) (va_A (wLn cI cJ A u) sz)) 0 0 (va_A (wLn cI cJ A u) sz) := by
  refine x_body (by decide) rfl (Nat.le_of_ble_eq_true rfl) ?_
  intro p e s m below meth c F hr hlk hnm hsz hw ls hl
  subst hsz
  have F : CallFix p m c cX0_leave 3 s _ wsX0_leave RX0 := F
  have hl : lv_has ls 3 [(0, .ref (aH A)), (1, .int (nI p9))] := hl
  have hw : xW G (xK cI cJ cZ cO) _ s.heap s [(aH A, .inr (0, [.ref (aO A), .ref (aN A), .ref (aC A), .ref (aK A), .ref (aT A), .ref (aG A), .ref (aF A), .int (nI (lSz u))])), (aO A, .inl (cI, 40, .inl (lO u))), (aN A, .inl (cI, 40, .inl (lNu u))), (aC A, .inl (cI, 40, .inl (lCk u))), (aK A, .inl (cJ, 40, .inr (.inl (lKe u)))), (aT A, .inl (cJ, 40, .inr (.inl (lTi u)))), (aG A, .inl (cJ, 40, .inr (.inl (lGa u)))), (aF A, .inl (cI, 40, .inl (lOf u)))] s.heap [] := hw
  have iX0 : ∀ w ∈ wsX00, w ∈ wsX0_leave := by decide +kernel
  have h40 := hok.1
  refine lv_aload_n F.1 F.2.1 dX0_leave_0 rfl (lv_at hl 0 rfl) ?_
  refine x_get F hw iX0 0 rfl rfl 0 (by decide) rfl (List.mem_of_getElem? (i := 1) rfl) rfl dX0_leave_1 ?_
  refine lv_iload_n F.1 F.2.1 dX0_leave_4 rfl (lv_at hl 1 rfl) ?_
  refine x_ialdN F hw 1 0 rfl rfl p9 rfl (by omega) (by decide) dX0_leave_5 ?_
  refine lv_istore_n (lv' := [(2, .int (lO u p9)), (0, .ref (aH A)), (1, .int (nI p9))]) F.1 F.2.1 dX0_leave_6 rfl hl (by decide) rfl (fun ls hl => ?_)
  refine lv_aload_n F.1 F.2.1 dX0_leave_7 rfl (lv_at hl 1 rfl) ?_
  refine x_get F hw iX0 0 rfl rfl 0 (by decide) rfl (List.mem_of_getElem? (i := 1) rfl) rfl dX0_leave_8 ?_
  refine lv_iload_n F.1 F.2.1 dX0_leave_11 rfl (lv_at hl 2 rfl) ?_
  refine lv_iconst (v := 1) F.1 F.2.1 dX0_leave_12 (by decide) ?_
  refine lv_iadd F.1 F.2.1 dX0_leave_13 ?_
  refine x_topi (v := nI (p9 + 1)) ((nI_add p9 1).symm) ?_
  refine lv_aload_n F.1 F.2.1 dX0_leave_14 rfl (lv_at hl 1 rfl) ?_
  refine x_get F hw iX0 0 rfl rfl 0 (by decide) rfl (List.mem_of_getElem? (i := 1) rfl) rfl dX0_leave_15 ?_
  refine lv_iload_n F.1 F.2.1 dX0_leave_18 rfl (lv_at hl 2 rfl) ?_
  refine lv_aload_n F.1 F.2.1 dX0_leave_19 rfl (lv_at hl 1 rfl) ?_
  refine x_get F hw iX0 0 rfl rfl 7 (by decide) rfl (List.mem_of_getElem? (i := 2) rfl) rfl dX0_leave_20 ?_
  refine lv_iload_n F.1 F.2.1 dX0_leave_23 rfl (lv_at hl 2 rfl) ?_
  refine lv_isub F.1 F.2.1 dX0_leave_24 ?_
  refine x_topi (v := nI ((lSz u) - p9)) ((pk_sub (a := lSz u) (b := p9) (by omega)).symm) ?_
  refine lv_iconst (v := 1) F.1 F.2.1 dX0_leave_25 (by decide) ?_
  refine lv_isub F.1 F.2.1 dX0_leave_26 ?_
  refine x_topi (v := nI (((lSz u) - p9) - 1)) ((pk_sub (a := (lSz u) - p9) (b := 1) (by omega)).symm) ?_
  refine x_copyi F hw (List.mem_of_getElem? (i := 3) rfl) (List.mem_of_getElem? (i := 4) rfl) (List.mem_of_getElem? (i := 5) rfl) (List.mem_of_getElem? (i := 6) rfl) 1 1 0 rfl rfl rfl rfl (sp := p9 + 1) (dp := p9) (n := ((lSz u) - p9) - 1) rfl rfl rfl (by omega) (by omega) (by decide) (by decide) hl.1 (Nat.le_of_ble_eq_true rfl) (Nat.le_of_ble_eq_true rfl) dX0_leave_27 (fun H locs hw => ?_)
  have hw : xW G (xK cI cJ cZ cO) _ s.heap s [(aH A, .inr (0, [.ref (aO A), .ref (aN A), .ref (aC A), .ref (aK A), .ref (aT A), .ref (aG A), .ref (aF A), .int (nI (lSz u))])), (aO A, .inl (cI, 40, .inl (va_cpy (lO u) (lO u) (p9 + 1) p9 (((lSz u) - p9) - 1)))), (aN A, .inl (cI, 40, .inl (lNu u))), (aC A, .inl (cI, 40, .inl (lCk u))), (aK A, .inl (cJ, 40, .inr (.inl (lKe u)))), (aT A, .inl (cJ, 40, .inr (.inl (lTi u)))), (aG A, .inl (cJ, 40, .inr (.inl (lGa u)))), (aF A, .inl (cI, 40, .inl (lOf u)))] H _ := hw
  refine lv_aload_n F.1 F.2.1 dX0_leave_30 rfl (lv_at hl 1 rfl) ?_
  refine lv_dup F.1 F.2.1 dX0_leave_31 rfl ?_
  refine x_get F hw iX0 0 rfl rfl 7 (by decide) rfl (List.mem_of_getElem? (i := 2) rfl) rfl dX0_leave_32 ?_
  refine lv_iconst (v := 1) F.1 F.2.1 dX0_leave_35 (by decide) ?_
  refine lv_isub F.1 F.2.1 dX0_leave_36 ?_
  refine x_topi (v := nI ((lSz u) - 1)) ((pk_sub (a := lSz u) (b := 1) (by omega)).symm) ?_
  refine x_put F hw iX0 tyX0 tyX0_ok nmX0 0 rfl rfl 7 (by decide) rfl (List.mem_of_getElem? (i := 2) rfl) (rfl) (rfl) (Nat.le_of_ble_eq_true rfl) dX0_leave_37 (fun H locs hw => ?_)
  have hw : xW G (xK cI cJ cZ cO) _ s.heap s [(aH A, .inr (0, [.ref (aO A), .ref (aN A), .ref (aC A), .ref (aK A), .ref (aT A), .ref (aG A), .ref (aF A), .int (nI ((lSz u) - 1))])), (aO A, .inl (cI, 40, .inl (va_cpy (lO u) (lO u) (p9 + 1) p9 (((lSz u) - p9) - 1)))), (aN A, .inl (cI, 40, .inl (lNu u))), (aC A, .inl (cI, 40, .inl (lCk u))), (aK A, .inl (cJ, 40, .inr (.inl (lKe u)))), (aT A, .inl (cJ, 40, .inr (.inl (lTi u)))), (aG A, .inl (cJ, 40, .inr (.inl (lGa u)))), (aF A, .inl (cI, 40, .inl (lOf u)))] H _ := hw
  refine lv_aload_n F.1 F.2.1 dX0_leave_40 rfl (lv_at hl 1 rfl) ?_
  refine x_get F hw iX0 0 rfl rfl 0 (by decide) rfl (List.mem_of_getElem? (i := 1) rfl) rfl dX0_leave_41 ?_
  refine lv_aload_n F.1 F.2.1 dX0_leave_44 rfl (lv_at hl 1 rfl) ?_
  refine x_get F hw iX0 0 rfl rfl 7 (by decide) rfl (List.mem_of_getElem? (i := 2) rfl) rfl dX0_leave_45 ?_
  refine lv_iload_n F.1 F.2.1 dX0_leave_48 rfl (lv_at hl 0 rfl) ?_
  refine x_iastN F hw 1 0 rfl rfl ((lSz u) - 1) rfl (by omega) (by decide) dX0_leave_49 (fun H locs hw => ?_)
  have hw : xW G (xK cI cJ cZ cO) _ s.heap s [(aH A, .inr (0, [.ref (aO A), .ref (aN A), .ref (aC A), .ref (aK A), .ref (aT A), .ref (aG A), .ref (aF A), .int (nI ((lSz u) - 1))])), (aO A, .inl (cI, 40, .inl (upd (va_cpy (lO u) (lO u) (p9 + 1) p9 (((lSz u) - p9) - 1)) ((lSz u) - 1) (lO u p9)))), (aN A, .inl (cI, 40, .inl (lNu u))), (aC A, .inl (cI, 40, .inl (lCk u))), (aK A, .inl (cJ, 40, .inr (.inl (lKe u)))), (aT A, .inl (cJ, 40, .inr (.inl (lTi u)))), (aG A, .inl (cJ, 40, .inr (.inl (lGa u)))), (aF A, .inl (cI, 40, .inl (lOf u)))] H _ := hw
  exact x_vret (f := fun u9 : LnR => wLn cI cJ A u9) (lLeave u p9) F hr hlk hw (rfl) dX0_leave_50

set_option maxHeartbeats 8000000 in
set_option maxRecDepth 100000 in
/-- sortInFirstFree() -/
theorem c_X0_sortInFirstFree (l : Launch) (G : va_G) (cI cJ cZ cO : ClassId) (sz : Nat) (A : LnA) (u : LnR) (k : Nat) (hok : LnOk u) (hn : lSz u < 40) (hk : k ≤ lSz u) (h1 : ∀ i, i < k → eLt (lAt u i) (lAt u (lSz u)) = true) (h2 : ∀ i, k ≤ i → i < lSz u → eLt (lAt u i) (lAt u (lSz u)) = false) : Met l yX0_sortInFirstFree wsX0_sortInFirstFree ({ frames := 2, cells := 0, slots := 0, locals := 46 }) (xPc G (xK cI cJ cZ cO) sz [.ref (aH A)] (wLn cI cJ A u)) (va_Qv (fun u2 => u2 = lSort u k) (xB G (xK cI cJ cZ cO) (wLn cI cJ A u) sz (fun u9 : LnR => wLn cI cJ A u9)) (va_A (wLn cI cJ A u) sz)) 0 0 (va_A (wLn cI cJ A u) sz) := by
  refine x_body (by decide) rfl (Nat.le_of_ble_eq_true rfl) ?_
  intro p e s m below meth c F hr hlk hnm hsz hw ls hl
  subst hsz
  have F : CallFix p m c cX0_sortInFirstFree 3 s _ wsX0_sortInFirstFree RX0 := F
  have hl : lv_has ls 3 [(0, .ref (aH A))] := hl
  have hw : xW G (xK cI cJ cZ cO) _ s.heap s [(aH A, .inr (0, [.ref (aO A), .ref (aN A), .ref (aC A), .ref (aK A), .ref (aT A), .ref (aG A), .ref (aF A), .int (nI (lSz u))])), (aO A, .inl (cI, 40, .inl (lO u))), (aN A, .inl (cI, 40, .inl (lNu u))), (aC A, .inl (cI, 40, .inl (lCk u))), (aK A, .inl (cJ, 40, .inr (.inl (lKe u)))), (aT A, .inl (cJ, 40, .inr (.inl (lTi u)))), (aG A, .inl (cJ, 40, .inr (.inl (lGa u)))), (aF A, .inl (cI, 40, .inl (lOf u)))] s.heap [] := hw
  have iX0 : ∀ w ∈ wsX00, w ∈ wsX0_sortInFirstFree := by decide +kernel
  refine lv_aload_n F.1 F.2.1 dX0_sortInFirstFree_0 rfl (lv_at hl 0 rfl) ?_
  refine x_get F hw iX0 0 rfl rfl 0 (by decide) rfl (List.mem_of_getElem? (i := 1) rfl) rfl dX0_sortInFirstFree_1 ?_
  refine lv_aload_n F.1 F.2.1 dX0_sortInFirstFree_4 rfl (lv_at hl 0 rfl) ?_
  refine x_get F hw iX0 0 rfl rfl 7 (by decide) rfl (List.mem_of_getElem? (i := 2) rfl) rfl dX0_sortInFirstFree_5 ?_
  refine x_ialdN F hw 1 0 rfl rfl (lSz u) rfl (by omega) (by decide) dX0_sortInFirstFree_8 ?_
  refine lv_istore_n (lv' := [(1, .int (lO u (lSz u))), (0, .ref (aH A))]) F.1 F.2.1 dX0_sortInFirstFree_9 rfl hl (by decide) rfl (fun ls hl => ?_)
  refine lv_aload_n F.1 F.2.1 dX0_sortInFirstFree_10 rfl (lv_at hl 1 rfl) ?_
  refine lv_iload_n F.1 F.2.1 dX0_sortInFirstFree_11 rfl (lv_at hl 0 rfl) ?_
  refine x_ri (va_runV (As := [.int (lO u (lSz u))]) (rest := []) F (c_X0_countAheadOf l G cI cJ cZ cO (Array.size _) A u (lO u (lSz u)) (hok.2.1 _ hn) hok k hk h1 h2) (cwV 1 F.2.2.2.2 gX0_sortInFirstFree_X0_countAheadOf rfl rfl rfl (by decide +kernel) ⟨Nat.le_of_ble_eq_true rfl, Nat.le_of_ble_eq_true rfl⟩) (x_preVW hw [0, 1, 2, 3, 4, 5, 6, 7] rfl (by decide) 0 rfl rfl) rfl rfl hl.1 rfl (lv_room (Nat.le_of_ble_eq_true rfl)) dX0_sortInFirstFree_12 ⟨Nat.le_of_ble_eq_true rfl, Nat.le_of_ble_eq_true rfl⟩) (fun r9 hr9 => ?_)
  subst hr9
  refine lv_istore_n (lv' := [(2, .int (nI k)), (1, .int (lO u (lSz u))), (0, .ref (aH A))]) F.1 F.2.1 dX0_sortInFirstFree_15 rfl hl (by decide) rfl (fun ls hl => ?_)
  refine lv_aload_n F.1 F.2.1 dX0_sortInFirstFree_16 rfl (lv_at hl 2 rfl) ?_
  refine x_get F hw iX0 0 rfl rfl 0 (by decide) rfl (List.mem_of_getElem? (i := 1) rfl) rfl dX0_sortInFirstFree_17 ?_
  refine lv_iload_n F.1 F.2.1 dX0_sortInFirstFree_20 rfl (lv_at hl 0 rfl) ?_
  refine lv_aload_n F.1 F.2.1 dX0_sortInFirstFree_21 rfl (lv_at hl 2 rfl) ?_
  refine x_get F hw iX0 0 rfl rfl 0 (by decide) rfl (List.mem_of_getElem? (i := 1) rfl) rfl dX0_sortInFirstFree_22 ?_
  refine lv_iload_n F.1 F.2.1 dX0_sortInFirstFree_25 rfl (lv_at hl 0 rfl) ?_
  refine lv_iconst (v := 1) F.1 F.2.1 dX0_sortInFirstFree_26 (by decide) ?_
  refine lv_iadd F.1 F.2.1 dX0_sortInFirstFree_27 ?_
  refine x_topi (v := nI (k + 1)) ((nI_add k 1).symm) ?_
  refine lv_aload_n F.1 F.2.1 dX0_sortInFirstFree_28 rfl (lv_at hl 2 rfl) ?_
  refine x_get F hw iX0 0 rfl rfl 7 (by decide) rfl (List.mem_of_getElem? (i := 2) rfl) rfl dX0_sortInFirstFree_29 ?_
  refine lv_iload_n F.1 F.2.1 dX0_sortInFirstFree_32 rfl (lv_at hl 0 rfl) ?_
  refine lv_isub F.1 F.2.1 dX0_sortInFirstFree_33 ?_
  refine x_topi (v := nI ((lSz u) - k)) ((pk_sub (a := lSz u) (b := k) (by omega)).symm) ?_
  refine x_copyi F hw (List.mem_of_getElem? (i := 3) rfl) (List.mem_of_getElem? (i := 4) rfl) (List.mem_of_getElem? (i := 5) rfl) (List.mem_of_getElem? (i := 6) rfl) 1 1 0 rfl rfl rfl rfl (sp := k) (dp := k + 1) (n := (lSz u) - k) rfl rfl rfl (by omega) (by omega) (by decide) (by decide) hl.1 (Nat.le_of_ble_eq_true rfl) (Nat.le_of_ble_eq_true rfl) dX0_sortInFirstFree_34 (fun H locs hw => ?_)
  have hw : xW G (xK cI cJ cZ cO) _ s.heap s [(aH A, .inr (0, [.ref (aO A), .ref (aN A), .ref (aC A), .ref (aK A), .ref (aT A), .ref (aG A), .ref (aF A), .int (nI (lSz u))])), (aO A, .inl (cI, 40, .inl (va_cpy (lO u) (lO u) k (k + 1) ((lSz u) - k)))), (aN A, .inl (cI, 40, .inl (lNu u))), (aC A, .inl (cI, 40, .inl (lCk u))), (aK A, .inl (cJ, 40, .inr (.inl (lKe u)))), (aT A, .inl (cJ, 40, .inr (.inl (lTi u)))), (aG A, .inl (cJ, 40, .inr (.inl (lGa u)))), (aF A, .inl (cI, 40, .inl (lOf u)))] H _ := hw
  refine lv_aload_n F.1 F.2.1 dX0_sortInFirstFree_37 rfl (lv_at hl 2 rfl) ?_
  refine x_get F hw iX0 0 rfl rfl 0 (by decide) rfl (List.mem_of_getElem? (i := 1) rfl) rfl dX0_sortInFirstFree_38 ?_
  refine lv_iload_n F.1 F.2.1 dX0_sortInFirstFree_41 rfl (lv_at hl 0 rfl) ?_
  refine lv_iload_n F.1 F.2.1 dX0_sortInFirstFree_42 rfl (lv_at hl 1 rfl) ?_
  refine x_iastN F hw 1 0 rfl rfl k rfl (by omega) (by decide) dX0_sortInFirstFree_43 (fun H locs hw => ?_)
  have hw : xW G (xK cI cJ cZ cO) _ s.heap s [(aH A, .inr (0, [.ref (aO A), .ref (aN A), .ref (aC A), .ref (aK A), .ref (aT A), .ref (aG A), .ref (aF A), .int (nI (lSz u))])), (aO A, .inl (cI, 40, .inl (upd (va_cpy (lO u) (lO u) k (k + 1) ((lSz u) - k)) k (lO u (lSz u))))), (aN A, .inl (cI, 40, .inl (lNu u))), (aC A, .inl (cI, 40, .inl (lCk u))), (aK A, .inl (cJ, 40, .inr (.inl (lKe u)))), (aT A, .inl (cJ, 40, .inr (.inl (lTi u)))), (aG A, .inl (cJ, 40, .inr (.inl (lGa u)))), (aF A, .inl (cI, 40, .inl (lOf u)))] H _ := hw
  refine lv_aload_n F.1 F.2.1 dX0_sortInFirstFree_44 rfl (lv_at hl 2 rfl) ?_
  refine lv_dup F.1 F.2.1 dX0_sortInFirstFree_45 rfl ?_
  refine x_get F hw iX0 0 rfl rfl 7 (by decide) rfl (List.mem_of_getElem? (i := 2) rfl) rfl dX0_sortInFirstFree_46 ?_
  refine lv_iconst (v := 1) F.1 F.2.1 dX0_sortInFirstFree_49 (by decide) ?_
  refine lv_iadd F.1 F.2.1 dX0_sortInFirstFree_50 ?_
  refine x_topi (v := nI ((lSz u) + 1)) ((nI_add (lSz u) 1).symm) ?_
  refine x_put F hw iX0 tyX0 tyX0_ok nmX0 0 rfl rfl 7 (by decide) rfl (List.mem_of_getElem? (i := 2) rfl) (rfl) (rfl) (Nat.le_of_ble_eq_true rfl) dX0_sortInFirstFree_51 (fun H locs hw => ?_)
  have hw : xW G (xK cI cJ cZ cO) _ s.heap s [(aH A, .inr (0, [.ref (aO A), .ref (aN A), .ref (aC A), .ref (aK A), .ref (aT A), .ref (aG A), .ref (aF A), .int (nI ((lSz u) + 1))])), (aO A, .inl (cI, 40, .inl (upd (va_cpy (lO u) (lO u) k (k + 1) ((lSz u) - k)) k (lO u (lSz u))))), (aN A, .inl (cI, 40, .inl (lNu u))), (aC A, .inl (cI, 40, .inl (lCk u))), (aK A, .inl (cJ, 40, .inr (.inl (lKe u)))), (aT A, .inl (cJ, 40, .inr (.inl (lTi u)))), (aG A, .inl (cJ, 40, .inr (.inl (lGa u)))), (aF A, .inl (cI, 40, .inl (lOf u)))] H _ := hw
  exact x_vret (f := fun u9 : LnR => wLn cI cJ A u9) (lSort u k) F hr hlk hw (rfl) dX0_sortInFirstFree_54

set_option maxHeartbeats 8000000 in
set_option maxRecDepth 100000 in
/-- enter(..) -/
theorem c_X0_enter (l : Launch) (G : va_G) (cI cJ cZ cO : ClassId) (sz : Nat) (A : LnA) (u : LnR) (a : Ent) (k : Nat) (hok : LnOk u) (hn : lSz u < 40) (hk : k ≤ lSz u) (h1 : ∀ i, i < k → eLt (lAt u i) a = true) (h2 : ∀ i, k ≤ i → i < lSz u → eLt (lAt u i) a = false) : Met l yX0_enter wsX0_enter ({ frames := 3, cells := 0, slots := 0, locals := 68 }) (xPc G (xK cI cJ cZ cO) sz [.ref (aH A), .int (eN a), .int (eC a), .long (eK a), .long (eT a), .long (eG a), .int (eO a)] (wLn cI cJ A u)) (va_Qv (fun u2 => u2 = lSort (lPut u a) k) (xB G (xK cI cJ cZ cO) (wLn cI cJ A u) sz (fun u9 : LnR => wLn cI cJ A u9)) (va_A (wLn cI cJ A u) sz)) 0 0 (va_A (wLn cI cJ A u) sz) := by
  refine x_body (by decide) rfl (Nat.le_of_ble_eq_true rfl) ?_
  intro p e s m below meth c F hr hlk hnm hsz hw ls hl
  subst hsz
  have F : CallFix p m c cX0_enter 11 s _ wsX0_enter RX0 := F
  have hl : lv_has ls 11 [(0, .ref (aH A)), (1, .int (eN a)), (2, .int (eC a)), (3, .long (eK a)), (5, .long (eT a)), (7, .long (eG a)), (9, .int (eO a))] := hl
  have hw : xW G (xK cI cJ cZ cO) _ s.heap s [(aH A, .inr (0, [.ref (aO A), .ref (aN A), .ref (aC A), .ref (aK A), .ref (aT A), .ref (aG A), .ref (aF A), .int (nI (lSz u))])), (aO A, .inl (cI, 40, .inl (lO u))), (aN A, .inl (cI, 40, .inl (lNu u))), (aC A, .inl (cI, 40, .inl (lCk u))), (aK A, .inl (cJ, 40, .inr (.inl (lKe u)))), (aT A, .inl (cJ, 40, .inr (.inl (lTi u)))), (aG A, .inl (cJ, 40, .inr (.inl (lGa u)))), (aF A, .inl (cI, 40, .inl (lOf u)))] s.heap [] := hw
  have iX0 : ∀ w ∈ wsX00, w ∈ wsX0_enter := by decide +kernel
  refine lv_aload_n F.1 F.2.1 dX0_enter_0 rfl (lv_at hl 0 rfl) ?_
  refine x_get F hw iX0 0 rfl rfl 0 (by decide) rfl (List.mem_of_getElem? (i := 1) rfl) rfl dX0_enter_1 ?_
  refine lv_aload_n F.1 F.2.1 dX0_enter_4 rfl (lv_at hl 0 rfl) ?_
  refine x_get F hw iX0 0 rfl rfl 7 (by decide) rfl (List.mem_of_getElem? (i := 2) rfl) rfl dX0_enter_5 ?_
  refine x_ialdN F hw 1 0 rfl rfl (lSz u) rfl (by omega) (by decide) dX0_enter_8 ?_
  refine lv_istore (lv' := [(10, .int (lO u (lSz u))), (0, .ref (aH A)), (1, .int (eN a)), (2, .int (eC a)), (3, .long (eK a)), (5, .long (eT a)), (7, .long (eG a)), (9, .int (eO a))]) F.1 F.2.1 dX0_enter_9 hl (by decide) rfl (fun ls hl => ?_)
  refine lv_aload_n F.1 F.2.1 dX0_enter_11 rfl (lv_at hl 1 rfl) ?_
  refine x_get F hw iX0 0 rfl rfl 1 (by decide) rfl (List.mem_of_getElem? (i := 3) rfl) rfl dX0_enter_12 ?_
  refine lv_iload F.1 F.2.1 dX0_enter_15 (lv_at hl 0 rfl) ?_
  refine lv_iload_n F.1 F.2.1 dX0_enter_17 rfl (lv_at hl 2 rfl) ?_
  refine x_iast F hw 2 0 rfl rfl (hok.2.1 _ hn) dX0_enter_18 (fun H locs hw => ?_)
  have hw : xW G (xK cI cJ cZ cO) _ s.heap s [(aH A, .inr (0, [.ref (aO A), .ref (aN A), .ref (aC A), .ref (aK A), .ref (aT A), .ref (aG A), .ref (aF A), .int (nI (lSz u))])), (aO A, .inl (cI, 40, .inl (lO u))), (aN A, .inl (cI, 40, .inl (upd (lNu u) (lO u (lSz u)).toNatClampNeg (eN a)))), (aC A, .inl (cI, 40, .inl (lCk u))), (aK A, .inl (cJ, 40, .inr (.inl (lKe u)))), (aT A, .inl (cJ, 40, .inr (.inl (lTi u)))), (aG A, .inl (cJ, 40, .inr (.inl (lGa u)))), (aF A, .inl (cI, 40, .inl (lOf u)))] H _ := hw
  refine lv_aload_n F.1 F.2.1 dX0_enter_19 rfl (lv_at hl 1 rfl) ?_
  refine x_get F hw iX0 0 rfl rfl 2 (by decide) rfl (List.mem_of_getElem? (i := 4) rfl) rfl dX0_enter_20 ?_
  refine lv_iload F.1 F.2.1 dX0_enter_23 (lv_at hl 0 rfl) ?_
  refine lv_iload_n F.1 F.2.1 dX0_enter_25 rfl (lv_at hl 3 rfl) ?_
  refine x_iast F hw 3 0 rfl rfl (hok.2.1 _ hn) dX0_enter_26 (fun H locs hw => ?_)
  have hw : xW G (xK cI cJ cZ cO) _ s.heap s [(aH A, .inr (0, [.ref (aO A), .ref (aN A), .ref (aC A), .ref (aK A), .ref (aT A), .ref (aG A), .ref (aF A), .int (nI (lSz u))])), (aO A, .inl (cI, 40, .inl (lO u))), (aN A, .inl (cI, 40, .inl (upd (lNu u) (lO u (lSz u)).toNatClampNeg (eN a)))), (aC A, .inl (cI, 40, .inl (upd (lCk u) (lO u (lSz u)).toNatClampNeg (eC a)))), (aK A, .inl (cJ, 40, .inr (.inl (lKe u)))), (aT A, .inl (cJ, 40, .inr (.inl (lTi u)))), (aG A, .inl (cJ, 40, .inr (.inl (lGa u)))), (aF A, .inl (cI, 40, .inl (lOf u)))] H _ := hw
  refine lv_aload_n F.1 F.2.1 dX0_enter_27 rfl (lv_at hl 1 rfl) ?_
  refine x_get F hw iX0 0 rfl rfl 3 (by decide) rfl (List.mem_of_getElem? (i := 5) rfl) rfl dX0_enter_28 ?_
  refine lv_iload F.1 F.2.1 dX0_enter_31 (lv_at hl 0 rfl) ?_
  refine lv_lload_n F.1 F.2.1 dX0_enter_33 rfl (lv_at hl 4 rfl) ?_
  refine x_last F hw 4 1 rfl rfl (hok.2.1 _ hn) dX0_enter_34 (fun H locs hw => ?_)
  have hw : xW G (xK cI cJ cZ cO) _ s.heap s [(aH A, .inr (0, [.ref (aO A), .ref (aN A), .ref (aC A), .ref (aK A), .ref (aT A), .ref (aG A), .ref (aF A), .int (nI (lSz u))])), (aO A, .inl (cI, 40, .inl (lO u))), (aN A, .inl (cI, 40, .inl (upd (lNu u) (lO u (lSz u)).toNatClampNeg (eN a)))), (aC A, .inl (cI, 40, .inl (upd (lCk u) (lO u (lSz u)).toNatClampNeg (eC a)))), (aK A, .inl (cJ, 40, .inr (.inl (vp_updL (lKe u) (lO u (lSz u)).toNatClampNeg (eK a))))), (aT A, .inl (cJ, 40, .inr (.inl (lTi u)))), (aG A, .inl (cJ, 40, .inr (.inl (lGa u)))), (aF A, .inl (cI, 40, .inl (lOf u)))] H _ := hw
  refine lv_aload_n F.1 F.2.1 dX0_enter_35 rfl (lv_at hl 1 rfl) ?_
  refine x_get F hw iX0 0 rfl rfl 4 (by decide) rfl (List.mem_of_getElem? (i := 6) rfl) rfl dX0_enter_36 ?_
  refine lv_iload F.1 F.2.1 dX0_enter_39 (lv_at hl 0 rfl) ?_
  refine lv_lload F.1 F.2.1 dX0_enter_41 (lv_at hl 5 rfl) ?_
  refine x_last F hw 5 1 rfl rfl (hok.2.1 _ hn) dX0_enter_43 (fun H locs hw => ?_)
  have hw : xW G (xK cI cJ cZ cO) _ s.heap s [(aH A, .inr (0, [.ref (aO A), .ref (aN A), .ref (aC A), .ref (aK A), .ref (aT A), .ref (aG A), .ref (aF A), .int (nI (lSz u))])), (aO A, .inl (cI, 40, .inl (lO u))), (aN A, .inl (cI, 40, .inl (upd (lNu u) (lO u (lSz u)).toNatClampNeg (eN a)))), (aC A, .inl (cI, 40, .inl (upd (lCk u) (lO u (lSz u)).toNatClampNeg (eC a)))), (aK A, .inl (cJ, 40, .inr (.inl (vp_updL (lKe u) (lO u (lSz u)).toNatClampNeg (eK a))))), (aT A, .inl (cJ, 40, .inr (.inl (vp_updL (lTi u) (lO u (lSz u)).toNatClampNeg (eT a))))), (aG A, .inl (cJ, 40, .inr (.inl (lGa u)))), (aF A, .inl (cI, 40, .inl (lOf u)))] H _ := hw
  refine lv_aload_n F.1 F.2.1 dX0_enter_44 rfl (lv_at hl 1 rfl) ?_
  refine x_get F hw iX0 0 rfl rfl 5 (by decide) rfl (List.mem_of_getElem? (i := 7) rfl) rfl dX0_enter_45 ?_
  refine lv_iload F.1 F.2.1 dX0_enter_48 (lv_at hl 0 rfl) ?_
  refine lv_lload F.1 F.2.1 dX0_enter_50 (lv_at hl 6 rfl) ?_
  refine x_last F hw 6 1 rfl rfl (hok.2.1 _ hn) dX0_enter_52 (fun H locs hw => ?_)
  have hw : xW G (xK cI cJ cZ cO) _ s.heap s [(aH A, .inr (0, [.ref (aO A), .ref (aN A), .ref (aC A), .ref (aK A), .ref (aT A), .ref (aG A), .ref (aF A), .int (nI (lSz u))])), (aO A, .inl (cI, 40, .inl (lO u))), (aN A, .inl (cI, 40, .inl (upd (lNu u) (lO u (lSz u)).toNatClampNeg (eN a)))), (aC A, .inl (cI, 40, .inl (upd (lCk u) (lO u (lSz u)).toNatClampNeg (eC a)))), (aK A, .inl (cJ, 40, .inr (.inl (vp_updL (lKe u) (lO u (lSz u)).toNatClampNeg (eK a))))), (aT A, .inl (cJ, 40, .inr (.inl (vp_updL (lTi u) (lO u (lSz u)).toNatClampNeg (eT a))))), (aG A, .inl (cJ, 40, .inr (.inl (vp_updL (lGa u) (lO u (lSz u)).toNatClampNeg (eG a))))), (aF A, .inl (cI, 40, .inl (lOf u)))] H _ := hw
  refine lv_aload_n F.1 F.2.1 dX0_enter_53 rfl (lv_at hl 1 rfl) ?_
  refine x_get F hw iX0 0 rfl rfl 6 (by decide) rfl (List.mem_of_getElem? (i := 8) rfl) rfl dX0_enter_54 ?_
  refine lv_iload F.1 F.2.1 dX0_enter_57 (lv_at hl 0 rfl) ?_
  refine lv_iload F.1 F.2.1 dX0_enter_59 (lv_at hl 7 rfl) ?_
  refine x_iast F hw 7 0 rfl rfl (hok.2.1 _ hn) dX0_enter_61 (fun H locs hw => ?_)
  have hw : xW G (xK cI cJ cZ cO) _ s.heap s [(aH A, .inr (0, [.ref (aO A), .ref (aN A), .ref (aC A), .ref (aK A), .ref (aT A), .ref (aG A), .ref (aF A), .int (nI (lSz u))])), (aO A, .inl (cI, 40, .inl (lO u))), (aN A, .inl (cI, 40, .inl (upd (lNu u) (lO u (lSz u)).toNatClampNeg (eN a)))), (aC A, .inl (cI, 40, .inl (upd (lCk u) (lO u (lSz u)).toNatClampNeg (eC a)))), (aK A, .inl (cJ, 40, .inr (.inl (vp_updL (lKe u) (lO u (lSz u)).toNatClampNeg (eK a))))), (aT A, .inl (cJ, 40, .inr (.inl (vp_updL (lTi u) (lO u (lSz u)).toNatClampNeg (eT a))))), (aG A, .inl (cJ, 40, .inr (.inl (vp_updL (lGa u) (lO u (lSz u)).toNatClampNeg (eG a))))), (aF A, .inl (cI, 40, .inl (upd (lOf u) (lO u (lSz u)).toNatClampNeg (eO a))))] H _ := hw
  have hw : xW G (xK cI cJ cZ cO) _ s.heap s [(aH A, .inr (0, [.ref (aO A), .ref (aN A), .ref (aC A), .ref (aK A), .ref (aT A), .ref (aG A), .ref (aF A), .int (nI (lSz (lPut u a)))])), (aO A, .inl (cI, 40, .inl (lO (lPut u a)))), (aN A, .inl (cI, 40, .inl (lNu (lPut u a)))), (aC A, .inl (cI, 40, .inl (lCk (lPut u a)))), (aK A, .inl (cJ, 40, .inr (.inl (lKe (lPut u a))))), (aT A, .inl (cJ, 40, .inr (.inl (lTi (lPut u a))))), (aG A, .inl (cJ, 40, .inr (.inl (lGa (lPut u a))))), (aF A, .inl (cI, 40, .inl (lOf (lPut u a))))] H _ := hw
  refine lv_aload_n F.1 F.2.1 dX0_enter_62 rfl (lv_at hl 1 rfl) ?_
  refine x_wv (wr := []) (va_runV (As := []) (rest := []) F (c_X0_sortInFirstFree l G cI cJ cZ cO (Array.size _) A (lPut u a) k (lPut_ok hok a) hn hk (fun i hi => by rw [lPut_at hok hn a (by omega), show lSz (lPut u a) = lSz u from rfl, lPut_new]; exact h1 i hi) (fun i hi hi2 => by rw [lPut_at hok hn a hi2, show lSz (lPut u a) = lSz u from rfl, lPut_new]; exact h2 i hi hi2)) (cwV 0 F.2.2.2.2 gX0_enter_X0_sortInFirstFree rfl rfl rfl (by decide +kernel) ⟨Nat.le_of_ble_eq_true rfl, Nat.le_of_ble_eq_true rfl⟩) (x_preVW hw [0, 1, 2, 3, 4, 5, 6, 7] rfl (by decide) 0 rfl rfl) rfl rfl hl.1 rfl (lv_room (Nat.le_of_ble_eq_true rfl)) dX0_enter_63 ⟨Nat.le_of_ble_eq_true rfl, Nat.le_of_ble_eq_true rfl⟩) hw [0, 1, 2, 3, 4, 5, 6, 7] [] rfl rfl (by decide) (by decide) (fun u3 H locs hu3 hw => ?_)
  have hw : xW G (xK cI cJ cZ cO) _ s.heap s [(aH A, .inr (0, [.ref (aO A), .ref (aN A), .ref (aC A), .ref (aK A), .ref (aT A), .ref (aG A), .ref (aF A), .int (nI (lSz u3))])), (aO A, .inl (cI, 40, .inl (lO u3))), (aN A, .inl (cI, 40, .inl (lNu u3))), (aC A, .inl (cI, 40, .inl (lCk u3))), (aK A, .inl (cJ, 40, .inr (.inl (lKe u3)))), (aT A, .inl (cJ, 40, .inr (.inl (lTi u3)))), (aG A, .inl (cJ, 40, .inr (.inl (lGa u3)))), (aF A, .inl (cI, 40, .inl (lOf u3)))] H _ := hw
  subst hu3
  exact x_vret (f := fun u9 : LnR => wLn cI cJ A u9) (lSort (lPut u a) k) F hr hlk hw (rfl) dX0_enter_66

set_option maxHeartbeats 8000000 in
set_option maxRecDepth 100000 in
/-- retime(place, time) -/
theorem c_X0_retime (l : Launch) (G : va_G) (cI cJ cZ cO : ClassId) (sz : Nat) (A : LnA) (u : LnR) (p9 : Nat) (t : Int64) (k : Nat) (hok : LnOk u) (hp : p9 < lSz u) (hk : k < lSz u) (h1 : ∀ i, i < k → eLt (lAt (lLeave u p9) i) (eSetT (lAt u p9) t) = true) (h2 : ∀ i, k ≤ i → i < lSz u - 1 → eLt (lAt (lLeave u p9) i) (eSetT (lAt u p9) t) = false) : Met l yX0_retime wsX0_retime ({ frames := 3, cells := 0, slots := 0, locals := 68 }) (xPc G (xK cI cJ cZ cO) sz [.ref (aH A), .int (nI p9), .long t] (wLn cI cJ A u)) (va_Qv (fun u2 => u2 = lSort (lPutT (lLeave u p9) t) k) (xB G (xK cI cJ cZ cO) (wLn cI cJ A u) sz (fun u9 : LnR => wLn cI cJ A u9)) (va_A (wLn cI cJ A u) sz)) 0 0 (va_A (wLn cI cJ A u) sz) := by
  refine x_body (by decide) rfl (Nat.le_of_ble_eq_true rfl) ?_
  intro p e s m below meth c F hr hlk hnm hsz hw ls hl
  subst hsz
  have F : CallFix p m c cX0_retime 4 s _ wsX0_retime RX0 := F
  have hl : lv_has ls 4 [(0, .ref (aH A)), (1, .int (nI p9)), (2, .long t)] := hl
  have hw : xW G (xK cI cJ cZ cO) _ s.heap s [(aH A, .inr (0, [.ref (aO A), .ref (aN A), .ref (aC A), .ref (aK A), .ref (aT A), .ref (aG A), .ref (aF A), .int (nI (lSz u))])), (aO A, .inl (cI, 40, .inl (lO u))), (aN A, .inl (cI, 40, .inl (lNu u))), (aC A, .inl (cI, 40, .inl (lCk u))), (aK A, .inl (cJ, 40, .inr (.inl (lKe u)))), (aT A, .inl (cJ, 40, .inr (.inl (lTi u)))), (aG A, .inl (cJ, 40, .inr (.inl (lGa u)))), (aF A, .inl (cI, 40, .inl (lOf u)))] s.heap [] := hw
  have iX0 : ∀ w ∈ wsX00, w ∈ wsX0_retime := by decide +kernel
  have h40 := hok.1
  have hok2 := lLeave_ok hok hp
  have hz : lSz (lLeave u p9) = lSz u - 1 := rfl
  have hnew : lAt (lLeave u p9) (lSz (lLeave u p9)) = lAt u p9 := by show lEnt u (lO (lLeave u p9) (lSz (lLeave u p9))).toNatClampNeg = _; rw [lLeave_sl hp]; rfl
  refine lv_aload_n F.1 F.2.1 dX0_retime_0 rfl (lv_at hl 0 rfl) ?_
  refine lv_iload_n F.1 F.2.1 dX0_retime_1 rfl (lv_at hl 1 rfl) ?_
  refine x_wv (wr := []) (va_runV (As := [.int (nI p9)]) (rest := []) F (c_X0_leave l G cI cJ cZ cO (Array.size _) A u p9 hok hp) (cwV 1 F.2.2.2.2 gX0_retime_X0_leave rfl rfl rfl (by decide +kernel) ⟨Nat.le_of_ble_eq_true rfl, Nat.le_of_ble_eq_true rfl⟩) (x_preVW hw [0, 1, 2, 3, 4, 5, 6, 7] rfl (by decide) 0 rfl rfl) rfl rfl hl.1 rfl (lv_room (Nat.le_of_ble_eq_true rfl)) dX0_retime_2 ⟨Nat.le_of_ble_eq_true rfl, Nat.le_of_ble_eq_true rfl⟩) hw [0, 1, 2, 3, 4, 5, 6, 7] [] rfl rfl (by decide) (by decide) (fun u3 H locs hu3 hw => ?_)
  have hw : xW G (xK cI cJ cZ cO) _ s.heap s [(aH A, .inr (0, [.ref (aO A), .ref (aN A), .ref (aC A), .ref (aK A), .ref (aT A), .ref (aG A), .ref (aF A), .int (nI (lSz u3))])), (aO A, .inl (cI, 40, .inl (lO u3))), (aN A, .inl (cI, 40, .inl (lNu u3))), (aC A, .inl (cI, 40, .inl (lCk u3))), (aK A, .inl (cJ, 40, .inr (.inl (lKe u3)))), (aT A, .inl (cJ, 40, .inr (.inl (lTi u3)))), (aG A, .inl (cJ, 40, .inr (.inl (lGa u3)))), (aF A, .inl (cI, 40, .inl (lOf u3)))] H _ := hw
  subst hu3
  have hw : xW G (xK cI cJ cZ cO) _ s.heap s [(aH A, .inr (0, [.ref (aO A), .ref (aN A), .ref (aC A), .ref (aK A), .ref (aT A), .ref (aG A), .ref (aF A), .int (nI (lSz (lLeave u p9)))])), (aO A, .inl (cI, 40, .inl (lO (lLeave u p9)))), (aN A, .inl (cI, 40, .inl (lNu (lLeave u p9)))), (aC A, .inl (cI, 40, .inl (lCk (lLeave u p9)))), (aK A, .inl (cJ, 40, .inr (.inl (lKe (lLeave u p9))))), (aT A, .inl (cJ, 40, .inr (.inl (lTi (lLeave u p9))))), (aG A, .inl (cJ, 40, .inr (.inl (lGa (lLeave u p9))))), (aF A, .inl (cI, 40, .inl (lOf (lLeave u p9))))] H _ := hw
  refine lv_aload_n F.1 F.2.1 dX0_retime_5 rfl (lv_at hl 0 rfl) ?_
  refine x_get F hw iX0 0 rfl rfl 4 (by decide) rfl (List.mem_of_getElem? (i := 1) rfl) rfl dX0_retime_6 ?_
  refine lv_aload_n F.1 F.2.1 dX0_retime_9 rfl (lv_at hl 0 rfl) ?_
  refine x_get F hw iX0 0 rfl rfl 0 (by decide) rfl (List.mem_of_getElem? (i := 2) rfl) rfl dX0_retime_10 ?_
  refine lv_aload_n F.1 F.2.1 dX0_retime_13 rfl (lv_at hl 0 rfl) ?_
  refine x_get F hw iX0 0 rfl rfl 7 (by decide) rfl (List.mem_of_getElem? (i := 3) rfl) rfl dX0_retime_14 ?_
  refine x_ialdN F hw 1 0 rfl rfl (lSz (lLeave u p9)) rfl (by omega) (by decide) dX0_retime_17 ?_
  refine lv_lload_n F.1 F.2.1 dX0_retime_18 rfl (lv_at hl 2 rfl) ?_
  refine x_last F hw 5 1 rfl rfl (hok2.2.1 _ (by omega)) dX0_retime_19 (fun H locs hw => ?_)
  have hw : xW G (xK cI cJ cZ cO) _ s.heap s [(aH A, .inr (0, [.ref (aO A), .ref (aN A), .ref (aC A), .ref (aK A), .ref (aT A), .ref (aG A), .ref (aF A), .int (nI (lSz (lLeave u p9)))])), (aO A, .inl (cI, 40, .inl (lO (lLeave u p9)))), (aN A, .inl (cI, 40, .inl (lNu (lLeave u p9)))), (aC A, .inl (cI, 40, .inl (lCk (lLeave u p9)))), (aK A, .inl (cJ, 40, .inr (.inl (lKe (lLeave u p9))))), (aT A, .inl (cJ, 40, .inr (.inl (vp_updL (lTi (lLeave u p9)) (lO (lLeave u p9) (lSz (lLeave u p9))).toNatClampNeg t)))), (aG A, .inl (cJ, 40, .inr (.inl (lGa (lLeave u p9))))), (aF A, .inl (cI, 40, .inl (lOf (lLeave u p9))))] H _ := hw
  have hw : xW G (xK cI cJ cZ cO) _ s.heap s [(aH A, .inr (0, [.ref (aO A), .ref (aN A), .ref (aC A), .ref (aK A), .ref (aT A), .ref (aG A), .ref (aF A), .int (nI (lSz (lPutT (lLeave u p9) t)))])), (aO A, .inl (cI, 40, .inl (lO (lPutT (lLeave u p9) t)))), (aN A, .inl (cI, 40, .inl (lNu (lPutT (lLeave u p9) t)))), (aC A, .inl (cI, 40, .inl (lCk (lPutT (lLeave u p9) t)))), (aK A, .inl (cJ, 40, .inr (.inl (lKe (lPutT (lLeave u p9) t))))), (aT A, .inl (cJ, 40, .inr (.inl (lTi (lPutT (lLeave u p9) t))))), (aG A, .inl (cJ, 40, .inr (.inl (lGa (lPutT (lLeave u p9) t))))), (aF A, .inl (cI, 40, .inl (lOf (lPutT (lLeave u p9) t))))] H _ := hw
  refine lv_aload_n F.1 F.2.1 dX0_retime_20 rfl (lv_at hl 0 rfl) ?_
  refine x_wv (wr := []) (va_runV (As := []) (rest := []) F (c_X0_sortInFirstFree l G cI cJ cZ cO (Array.size H) A (lPutT (lLeave u p9) t) k (lPutT_ok hok2 t) (show lSz u - 1 < 40 by omega) (show k ≤ lSz u - 1 by omega) (fun i hi => by rw [lPutT_at hok2 (by omega) t (by omega), show lSz (lPutT (lLeave u p9) t) = lSz (lLeave u p9) from rfl, lPutT_new, hnew]; exact h1 i hi) (fun i hi hi2 => by rw [lPutT_at hok2 (by omega) t hi2, show lSz (lPutT (lLeave u p9) t) = lSz (lLeave u p9) from rfl, lPutT_new, hnew]; exact h2 i hi hi2)) (cwV 0 F.2.2.2.2 gX0_retime_X0_sortInFirstFree rfl rfl rfl (by decide +kernel) ⟨Nat.le_of_ble_eq_true rfl, Nat.le_of_ble_eq_true rfl⟩) (x_preVW hw [0, 1, 2, 3, 4, 5, 6, 7] rfl (by decide) 0 rfl rfl) rfl rfl hl.1 rfl (lv_room (Nat.le_of_ble_eq_true rfl)) dX0_retime_21 ⟨Nat.le_of_ble_eq_true rfl, Nat.le_of_ble_eq_true rfl⟩) hw [0, 1, 2, 3, 4, 5, 6, 7] [] rfl rfl (by decide) (by decide) (fun u4 H locs hu4 hw => ?_)
  have hw : xW G (xK cI cJ cZ cO) _ s.heap s [(aH A, .inr (0, [.ref (aO A), .ref (aN A), .ref (aC A), .ref (aK A), .ref (aT A), .ref (aG A), .ref (aF A), .int (nI (lSz u4))])), (aO A, .inl (cI, 40, .inl (lO u4))), (aN A, .inl (cI, 40, .inl (lNu u4))), (aC A, .inl (cI, 40, .inl (lCk u4))), (aK A, .inl (cJ, 40, .inr (.inl (lKe u4)))), (aT A, .inl (cJ, 40, .inr (.inl (lTi u4)))), (aG A, .inl (cJ, 40, .inr (.inl (lGa u4)))), (aF A, .inl (cI, 40, .inl (lOf u4)))] H _ := hw
  subst hu4
  exact x_vret (f := fun u9 : LnR => wLn cI cJ A u9) (lSort (lPutT (lLeave u p9) t) k) F hr hlk hw (rfl) dX0_retime_24

set_option maxHeartbeats 8000000 in
set_option maxRecDepth 100000 in
/-- setAgain(place, number) -/
theorem c_X0_setAgain (l : Launch) (G : va_G) (cI cJ cZ cO : ClassId) (sz : Nat) (A : LnA) (u : LnR) (p9 : Nat) (x : Int32) (k : Nat) (hok : LnOk u) (hp : p9 < lSz u) (hk : k < lSz u) (h1 : ∀ i, i < k → eLt (lAt (lLeave u p9) i) (eAgain (lAt u p9) x) = true) (h2 : ∀ i, k ≤ i → i < lSz u - 1 → eLt (lAt (lLeave u p9) i) (eAgain (lAt u p9) x) = false) : Met l yX0_setAgain wsX0_setAgain ({ frames := 3, cells := 0, slots := 0, locals := 68 }) (xPc G (xK cI cJ cZ cO) sz [.ref (aH A), .int (nI p9), .int x] (wLn cI cJ A u)) (va_Qv (fun u2 => u2 = lSort (lAgain (lLeave u p9) x) k) (xB G (xK cI cJ cZ cO) (wLn cI cJ A u) sz (fun u9 : LnR => wLn cI cJ A u9)) (va_A (wLn cI cJ A u) sz)) 0 0 (va_A (wLn cI cJ A u) sz) := by
  refine x_body (by decide) rfl (Nat.le_of_ble_eq_true rfl) ?_
  intro p e s m below meth c F hr hlk hnm hsz hw ls hl
  subst hsz
  have F : CallFix p m c cX0_setAgain 4 s _ wsX0_setAgain RX0 := F
  have hl : lv_has ls 4 [(0, .ref (aH A)), (1, .int (nI p9)), (2, .int x)] := hl
  have hw : xW G (xK cI cJ cZ cO) _ s.heap s [(aH A, .inr (0, [.ref (aO A), .ref (aN A), .ref (aC A), .ref (aK A), .ref (aT A), .ref (aG A), .ref (aF A), .int (nI (lSz u))])), (aO A, .inl (cI, 40, .inl (lO u))), (aN A, .inl (cI, 40, .inl (lNu u))), (aC A, .inl (cI, 40, .inl (lCk u))), (aK A, .inl (cJ, 40, .inr (.inl (lKe u)))), (aT A, .inl (cJ, 40, .inr (.inl (lTi u)))), (aG A, .inl (cJ, 40, .inr (.inl (lGa u)))), (aF A, .inl (cI, 40, .inl (lOf u)))] s.heap [] := hw
  have iX0 : ∀ w ∈ wsX00, w ∈ wsX0_setAgain := by decide +kernel
  have h40 := hok.1
  have hok2 := lLeave_ok hok hp
  have hz : lSz (lLeave u p9) = lSz u - 1 := rfl
  have hnew : lAt (lLeave u p9) (lSz (lLeave u p9)) = lAt u p9 := by show lEnt u (lO (lLeave u p9) (lSz (lLeave u p9))).toNatClampNeg = _; rw [lLeave_sl hp]; rfl
  refine lv_aload_n F.1 F.2.1 dX0_setAgain_0 rfl (lv_at hl 0 rfl) ?_
  refine lv_iload_n F.1 F.2.1 dX0_setAgain_1 rfl (lv_at hl 1 rfl) ?_
  refine x_wv (wr := []) (va_runV (As := [.int (nI p9)]) (rest := []) F (c_X0_leave l G cI cJ cZ cO (Array.size _) A u p9 hok hp) (cwV 1 F.2.2.2.2 gX0_setAgain_X0_leave rfl rfl rfl (by decide +kernel) ⟨Nat.le_of_ble_eq_true rfl, Nat.le_of_ble_eq_true rfl⟩) (x_preVW hw [0, 1, 2, 3, 4, 5, 6, 7] rfl (by decide) 0 rfl rfl) rfl rfl hl.1 rfl (lv_room (Nat.le_of_ble_eq_true rfl)) dX0_setAgain_2 ⟨Nat.le_of_ble_eq_true rfl, Nat.le_of_ble_eq_true rfl⟩) hw [0, 1, 2, 3, 4, 5, 6, 7] [] rfl rfl (by decide) (by decide) (fun u3 H locs hu3 hw => ?_)
  have hw : xW G (xK cI cJ cZ cO) _ s.heap s [(aH A, .inr (0, [.ref (aO A), .ref (aN A), .ref (aC A), .ref (aK A), .ref (aT A), .ref (aG A), .ref (aF A), .int (nI (lSz u3))])), (aO A, .inl (cI, 40, .inl (lO u3))), (aN A, .inl (cI, 40, .inl (lNu u3))), (aC A, .inl (cI, 40, .inl (lCk u3))), (aK A, .inl (cJ, 40, .inr (.inl (lKe u3)))), (aT A, .inl (cJ, 40, .inr (.inl (lTi u3)))), (aG A, .inl (cJ, 40, .inr (.inl (lGa u3)))), (aF A, .inl (cI, 40, .inl (lOf u3)))] H _ := hw
  subst hu3
  have hw : xW G (xK cI cJ cZ cO) _ s.heap s [(aH A, .inr (0, [.ref (aO A), .ref (aN A), .ref (aC A), .ref (aK A), .ref (aT A), .ref (aG A), .ref (aF A), .int (nI (lSz (lLeave u p9)))])), (aO A, .inl (cI, 40, .inl (lO (lLeave u p9)))), (aN A, .inl (cI, 40, .inl (lNu (lLeave u p9)))), (aC A, .inl (cI, 40, .inl (lCk (lLeave u p9)))), (aK A, .inl (cJ, 40, .inr (.inl (lKe (lLeave u p9))))), (aT A, .inl (cJ, 40, .inr (.inl (lTi (lLeave u p9))))), (aG A, .inl (cJ, 40, .inr (.inl (lGa (lLeave u p9))))), (aF A, .inl (cI, 40, .inl (lOf (lLeave u p9))))] H _ := hw
  refine lv_aload_n F.1 F.2.1 dX0_setAgain_5 rfl (lv_at hl 0 rfl) ?_
  refine x_get F hw iX0 0 rfl rfl 0 (by decide) rfl (List.mem_of_getElem? (i := 1) rfl) rfl dX0_setAgain_6 ?_
  refine lv_aload_n F.1 F.2.1 dX0_setAgain_9 rfl (lv_at hl 0 rfl) ?_
  refine x_get F hw iX0 0 rfl rfl 7 (by decide) rfl (List.mem_of_getElem? (i := 2) rfl) rfl dX0_setAgain_10 ?_
  refine x_ialdN F hw 1 0 rfl rfl (lSz (lLeave u p9)) rfl (by omega) (by decide) dX0_setAgain_13 ?_
  refine lv_istore_n (lv' := [(3, .int (lO (lLeave u p9) (lSz (lLeave u p9)))), (0, .ref (aH A)), (1, .int (nI p9)), (2, .int x)]) F.1 F.2.1 dX0_setAgain_14 rfl hl (by decide) rfl (fun ls hl => ?_)
  refine lv_aload_n F.1 F.2.1 dX0_setAgain_15 rfl (lv_at hl 1 rfl) ?_
  refine x_get F hw iX0 0 rfl rfl 1 (by decide) rfl (List.mem_of_getElem? (i := 3) rfl) rfl dX0_setAgain_16 ?_
  refine lv_iload_n F.1 F.2.1 dX0_setAgain_19 rfl (lv_at hl 0 rfl) ?_
  refine lv_iload_n F.1 F.2.1 dX0_setAgain_20 rfl (lv_at hl 3 rfl) ?_
  refine x_iast F hw 2 0 rfl rfl (hok2.2.1 _ (by omega)) dX0_setAgain_21 (fun H locs hw => ?_)
  have hw : xW G (xK cI cJ cZ cO) _ s.heap s [(aH A, .inr (0, [.ref (aO A), .ref (aN A), .ref (aC A), .ref (aK A), .ref (aT A), .ref (aG A), .ref (aF A), .int (nI (lSz (lLeave u p9)))])), (aO A, .inl (cI, 40, .inl (lO (lLeave u p9)))), (aN A, .inl (cI, 40, .inl (upd (lNu (lLeave u p9)) (lO (lLeave u p9) (lSz (lLeave u p9))).toNatClampNeg x))), (aC A, .inl (cI, 40, .inl (lCk (lLeave u p9)))), (aK A, .inl (cJ, 40, .inr (.inl (lKe (lLeave u p9))))), (aT A, .inl (cJ, 40, .inr (.inl (lTi (lLeave u p9))))), (aG A, .inl (cJ, 40, .inr (.inl (lGa (lLeave u p9))))), (aF A, .inl (cI, 40, .inl (lOf (lLeave u p9))))] H _ := hw
  refine lv_aload_n F.1 F.2.1 dX0_setAgain_22 rfl (lv_at hl 1 rfl) ?_
  refine x_get F hw iX0 0 rfl rfl 4 (by decide) rfl (List.mem_of_getElem? (i := 4) rfl) rfl dX0_setAgain_23 ?_
  refine lv_iload_n F.1 F.2.1 dX0_setAgain_26 rfl (lv_at hl 0 rfl) ?_
  refine lv_dup2_11 F.1 F.2.1 dX0_setAgain_27 rfl rfl ?_
  refine x_lald F hw 5 1 rfl rfl (hok2.2.1 _ (by omega)) dX0_setAgain_28 ?_
  refine lv_aload_n F.1 F.2.1 dX0_setAgain_29 rfl (lv_at hl 1 rfl) ?_
  refine x_get F hw iX0 0 rfl rfl 5 (by decide) rfl (List.mem_of_getElem? (i := 5) rfl) rfl dX0_setAgain_30 ?_
  refine lv_iload_n F.1 F.2.1 dX0_setAgain_33 rfl (lv_at hl 0 rfl) ?_
  refine x_lald F hw 6 1 rfl rfl (hok2.2.1 _ (by omega)) dX0_setAgain_34 ?_
  refine lv_ladd F.1 F.2.1 dX0_setAgain_35 ?_
  refine x_last F hw 5 1 rfl rfl (hok2.2.1 _ (by omega)) dX0_setAgain_36 (fun H locs hw => ?_)
  have hw : xW G (xK cI cJ cZ cO) _ s.heap s [(aH A, .inr (0, [.ref (aO A), .ref (aN A), .ref (aC A), .ref (aK A), .ref (aT A), .ref (aG A), .ref (aF A), .int (nI (lSz (lLeave u p9)))])), (aO A, .inl (cI, 40, .inl (lO (lLeave u p9)))), (aN A, .inl (cI, 40, .inl (upd (lNu (lLeave u p9)) (lO (lLeave u p9) (lSz (lLeave u p9))).toNatClampNeg x))), (aC A, .inl (cI, 40, .inl (lCk (lLeave u p9)))), (aK A, .inl (cJ, 40, .inr (.inl (lKe (lLeave u p9))))), (aT A, .inl (cJ, 40, .inr (.inl (vp_updL (lTi (lLeave u p9)) (lO (lLeave u p9) (lSz (lLeave u p9))).toNatClampNeg ((lTi (lLeave u p9) (lO (lLeave u p9) (lSz (lLeave u p9))).toNatClampNeg) + (lGa (lLeave u p9) (lO (lLeave u p9) (lSz (lLeave u p9))).toNatClampNeg)))))), (aG A, .inl (cJ, 40, .inr (.inl (lGa (lLeave u p9))))), (aF A, .inl (cI, 40, .inl (lOf (lLeave u p9))))] H _ := hw
  refine lv_aload_n F.1 F.2.1 dX0_setAgain_37 rfl (lv_at hl 1 rfl) ?_
  refine x_get F hw iX0 0 rfl rfl 6 (by decide) rfl (List.mem_of_getElem? (i := 6) rfl) rfl dX0_setAgain_38 ?_
  refine lv_iload_n F.1 F.2.1 dX0_setAgain_41 rfl (lv_at hl 0 rfl) ?_
  refine lv_dup2_11 F.1 F.2.1 dX0_setAgain_42 rfl rfl ?_
  refine x_iald F hw 7 0 rfl rfl (hok2.2.1 _ (by omega)) dX0_setAgain_43 ?_
  refine lv_iconst (v := 1) F.1 F.2.1 dX0_setAgain_44 (by decide) ?_
  refine lv_isub F.1 F.2.1 dX0_setAgain_45 ?_
  refine x_iast F hw 7 0 rfl rfl (hok2.2.1 _ (by omega)) dX0_setAgain_46 (fun H locs hw => ?_)
  have hw : xW G (xK cI cJ cZ cO) _ s.heap s [(aH A, .inr (0, [.ref (aO A), .ref (aN A), .ref (aC A), .ref (aK A), .ref (aT A), .ref (aG A), .ref (aF A), .int (nI (lSz (lLeave u p9)))])), (aO A, .inl (cI, 40, .inl (lO (lLeave u p9)))), (aN A, .inl (cI, 40, .inl (upd (lNu (lLeave u p9)) (lO (lLeave u p9) (lSz (lLeave u p9))).toNatClampNeg x))), (aC A, .inl (cI, 40, .inl (lCk (lLeave u p9)))), (aK A, .inl (cJ, 40, .inr (.inl (lKe (lLeave u p9))))), (aT A, .inl (cJ, 40, .inr (.inl (vp_updL (lTi (lLeave u p9)) (lO (lLeave u p9) (lSz (lLeave u p9))).toNatClampNeg ((lTi (lLeave u p9) (lO (lLeave u p9) (lSz (lLeave u p9))).toNatClampNeg) + (lGa (lLeave u p9) (lO (lLeave u p9) (lSz (lLeave u p9))).toNatClampNeg)))))), (aG A, .inl (cJ, 40, .inr (.inl (lGa (lLeave u p9))))), (aF A, .inl (cI, 40, .inl (upd (lOf (lLeave u p9)) (lO (lLeave u p9) (lSz (lLeave u p9))).toNatClampNeg ((lOf (lLeave u p9) (lO (lLeave u p9) (lSz (lLeave u p9))).toNatClampNeg) - 1))))] H _ := hw
  have hw : xW G (xK cI cJ cZ cO) _ s.heap s [(aH A, .inr (0, [.ref (aO A), .ref (aN A), .ref (aC A), .ref (aK A), .ref (aT A), .ref (aG A), .ref (aF A), .int (nI (lSz (lAgain (lLeave u p9) x)))])), (aO A, .inl (cI, 40, .inl (lO (lAgain (lLeave u p9) x)))), (aN A, .inl (cI, 40, .inl (lNu (lAgain (lLeave u p9) x)))), (aC A, .inl (cI, 40, .inl (lCk (lAgain (lLeave u p9) x)))), (aK A, .inl (cJ, 40, .inr (.inl (lKe (lAgain (lLeave u p9) x))))), (aT A, .inl (cJ, 40, .inr (.inl (lTi (lAgain (lLeave u p9) x))))), (aG A, .inl (cJ, 40, .inr (.inl (lGa (lAgain (lLeave u p9) x))))), (aF A, .inl (cI, 40, .inl (lOf (lAgain (lLeave u p9) x))))] H _ := hw
  refine lv_aload_n F.1 F.2.1 dX0_setAgain_47 rfl (lv_at hl 1 rfl) ?_
  refine x_wv (wr := []) (va_runV (As := []) (rest := []) F (c_X0_sortInFirstFree l G cI cJ cZ cO (Array.size H) A (lAgain (lLeave u p9) x) k (lAgain_ok hok2 x) (show lSz u - 1 < 40 by omega) (show k ≤ lSz u - 1 by omega) (fun i hi => by rw [lAgain_at hok2 (by omega) x (by omega), show lSz (lAgain (lLeave u p9) x) = lSz (lLeave u p9) from rfl, lAgain_new, hnew]; exact h1 i hi) (fun i hi hi2 => by rw [lAgain_at hok2 (by omega) x hi2, show lSz (lAgain (lLeave u p9) x) = lSz (lLeave u p9) from rfl, lAgain_new, hnew]; exact h2 i hi hi2)) (cwV 0 F.2.2.2.2 gX0_setAgain_X0_sortInFirstFree rfl rfl rfl (by decide +kernel) ⟨Nat.le_of_ble_eq_true rfl, Nat.le_of_ble_eq_true rfl⟩) (x_preVW hw [0, 1, 2, 3, 4, 5, 6, 7] rfl (by decide) 0 rfl rfl) rfl rfl hl.1 rfl (lv_room (Nat.le_of_ble_eq_true rfl)) dX0_setAgain_48 ⟨Nat.le_of_ble_eq_true rfl, Nat.le_of_ble_eq_true rfl⟩) hw [0, 1, 2, 3, 4, 5, 6, 7] [] rfl rfl (by decide) (by decide) (fun u4 H locs hu4 hw => ?_)
  have hw : xW G (xK cI cJ cZ cO) _ s.heap s [(aH A, .inr (0, [.ref (aO A), .ref (aN A), .ref (aC A), .ref (aK A), .ref (aT A), .ref (aG A), .ref (aF A), .int (nI (lSz u4))])), (aO A, .inl (cI, 40, .inl (lO u4))), (aN A, .inl (cI, 40, .inl (lNu u4))), (aC A, .inl (cI, 40, .inl (lCk u4))), (aK A, .inl (cJ, 40, .inr (.inl (lKe u4)))), (aT A, .inl (cJ, 40, .inr (.inl (lTi u4)))), (aG A, .inl (cJ, 40, .inr (.inl (lGa u4)))), (aF A, .inl (cI, 40, .inl (lOf u4)))] H _ := hw
  subst hu4
  exact x_vret (f := fun u9 : LnR => wLn cI cJ A u9) (lSort (lAgain (lLeave u p9) x) k) F hr hlk hw (rfl) dX0_setAgain_51

set_option maxHeartbeats 8000000 in
set_option maxRecDepth 100000 in
/-- dueOf(clock, until) -/
theorem c_X0_dueOf (l : Launch) (G : va_G) (cI cJ cZ cO : ClassId) (sz : Nat) (A : LnA) (u : LnR) (x : Int32) (t : Int64) (hok : LnOk u) : Met l yX0_dueOf wsX0_dueOf ({ frames := 1, cells := 0, slots := 0, locals := 22 }) (xPc G (xK cI cJ cZ cO) sz [.ref (aH A), .int x, .long t] (wLn cI cJ A u)) (xQi (fun r => (∃ k, k < lSz u ∧ eC (lAt u k) = x ∧ (∀ i, i < k → eC (lAt u i) ≠ x) ∧ eT (lAt u k) ≤ t ∧ r = nI k) ∨ ((∀ k, k < lSz u → eC (lAt u k) = x → (∀ i, i < k → eC (lAt u i) ≠ x) → ¬ eT (lAt u k) ≤ t) ∧ r = -1))) 0 0 (fun _ => False) := by
  refine x_body (by decide) rfl (Nat.le_of_ble_eq_true rfl) ?_
  intro p e s m below meth c F hr hlk hnm hsz hw ls hl
  subst hsz
  have F : CallFix p m c cX0_dueOf 5 s _ wsX0_dueOf RX0 := F
  have hl : lv_has ls 5 [(0, .ref (aH A)), (1, .int x), (2, .long t)] := hl
  have hw : xW G (xK cI cJ cZ cO) _ s.heap s [(aH A, .inr (0, [.ref (aO A), .ref (aN A), .ref (aC A), .ref (aK A), .ref (aT A), .ref (aG A), .ref (aF A), .int (nI (lSz u))])), (aO A, .inl (cI, 40, .inl (lO u))), (aN A, .inl (cI, 40, .inl (lNu u))), (aC A, .inl (cI, 40, .inl (lCk u))), (aK A, .inl (cJ, 40, .inr (.inl (lKe u)))), (aT A, .inl (cJ, 40, .inr (.inl (lTi u)))), (aG A, .inl (cJ, 40, .inr (.inl (lGa u)))), (aF A, .inl (cI, 40, .inl (lOf u)))] s.heap [] := hw
  refine lv_aload_n F.1 F.2.1 dX0_dueOf_0 rfl (lv_at hl 0 rfl) ?_
  refine lv_iload_n F.1 F.2.1 dX0_dueOf_1 rfl (lv_at hl 1 rfl) ?_
  refine x_ri (va_runV (As := [.int x]) (rest := []) F (c_X0_headOf l G cI cJ cZ cO (Array.size _) A u x hok) (cwV 1 F.2.2.2.2 gX0_dueOf_X0_headOf rfl rfl rfl (by decide +kernel) ⟨Nat.le_of_ble_eq_true rfl, Nat.le_of_ble_eq_true rfl⟩) (x_preVW hw [0, 1, 2, 3, 4, 5, 6, 7] rfl (by decide) 0 rfl rfl) rfl rfl hl.1 rfl (lv_room (Nat.le_of_ble_eq_true rfl)) dX0_dueOf_2 ⟨Nat.le_of_ble_eq_true rfl, Nat.le_of_ble_eq_true rfl⟩) (fun r9 hr9 => ?_)
  refine lv_istore (lv' := [(4, .int r9), (0, .ref (aH A)), (1, .int x), (2, .long t)]) F.1 F.2.1 dX0_dueOf_5 hl (by decide) rfl (fun ls hl => ?_)
  refine lv_iload F.1 F.2.1 dX0_dueOf_7 (lv_at hl 0 rfl) ?_
  refine lv_iconst (v := (-1)) F.1 F.2.1 dX0_dueOf_9 (by decide) ?_
  refine lv_icmp_eq (tgt := 29) F.1 F.2.1 dX0_dueOf_10 (by decide) (fun c10 => ?_) (fun c10 => ?_)
  · refine lv_iconst (v := (-1)) F.1 F.2.1 dX0_dueOf_29 (by decide) ?_
    exact x_riret F hr hlk (Or.inr ⟨fun k hk hc hn h => by
        rcases hr9 with ⟨k2, hk2, -, -, e2⟩ | h9
        · have h40 := hok.1
          rw [e2] at c10
          exact absurd c10 (by have h8 := nI_pos' (n := k2) (by omega); intro e3; rw [e3] at h8; exact absurd h8 (by decide))
        · exact absurd hc (h9.1 k hk), rfl⟩) dX0_dueOf_30
  · obtain ⟨k9, hk9, hc9, hn9, rfl⟩ : ∃ k, k < lSz u ∧ eC (lAt u k) = x ∧ (∀ i, i < k → eC (lAt u i) ≠ x) ∧ r9 = nI k := by
      rcases hr9 with h | h
      · exact h
      · exact absurd h.2 c10
    have h40 := hok.1
    refine lv_aload_n F.1 F.2.1 dX0_dueOf_13 rfl (lv_at hl 1 rfl) ?_
    refine lv_iload F.1 F.2.1 dX0_dueOf_14 (lv_at hl 0 rfl) ?_
    refine x_rl (va_runV (As := [.int (nI k9)]) (rest := []) F (c_X0_timeAt l G cI cJ cZ cO (Array.size _) A u k9 hok (by omega)) (cwV 1 F.2.2.2.2 gX0_dueOf_X0_timeAt rfl rfl rfl (by decide +kernel) ⟨Nat.le_of_ble_eq_true rfl, Nat.le_of_ble_eq_true rfl⟩) (x_preVW hw [0, 1, 2, 3, 4, 5, 6, 7] rfl (by decide) 0 rfl rfl) rfl rfl hl.1 rfl (lv_room (Nat.le_of_ble_eq_true rfl)) dX0_dueOf_16 ⟨Nat.le_of_ble_eq_true rfl, Nat.le_of_ble_eq_true rfl⟩) (fun r8 hr8 => ?_)
    subst hr8
    refine lv_lload_n F.1 F.2.1 dX0_dueOf_19 rfl (lv_at hl 3 rfl) ?_
    refine x_l_gt (tgt := 29) F dX0_dueOf_20 dX0_dueOf_21 (by decide) (fun c20 => ?_) (fun c20 => ?_)
    · refine lv_iconst (v := (-1)) F.1 F.2.1 dX0_dueOf_29 (by decide) ?_
      exact x_riret F hr hlk (Or.inr ⟨fun k hk hc hn h => by
        have e9 : k = k9 := by
          rcases Nat.lt_trichotomy k k9 with q | q | q
          · exact absurd hc (hn9 k q)
          · exact q
          · exact absurd hc9 (hn k9 q)
        rw [e9] at h; exact absurd h (Int64.not_le.mpr c20), rfl⟩) dX0_dueOf_30
    · refine lv_iload F.1 F.2.1 dX0_dueOf_24 (lv_at hl 0 rfl) ?_
      refine lv_goto (tgt := 30) F.1 F.2.1 dX0_dueOf_26 (by decide) ?_
      exact x_riret F hr hlk (Or.inl ⟨k9, hk9, hc9, hn9, Int64.not_lt.mp c20, rfl⟩) dX0_dueOf_30
