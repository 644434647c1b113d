set_option maxHeartbeats 8000000 in
set_option maxRecDepth 100000 in
/-- a new log -/
theorem c_X1_init (l : Launch) (G : va_G) (cI cJ cZ cO : ClassId) (sz : Nat) (h : Nat) : Met l yX1_init wsX1_init ({ frames := 1, cells := 5, slots := 325, locals := 12 }) (xPc G (xK cI cJ cZ cO) sz [.ref h] ([(h, .inr (1, [.null, .null, .null, .null, .null, .int 0]))])) (va_Qv (fun u2 => gL u2 = 65 ∧ gN u2 = 0) (xB G (xK cI cJ cZ cO) ([(h, .inr (1, [.null, .null, .null, .null, .null, .int 0]))]) sz (fun u9 : LgR => wLg cI cJ h u9)) (va_A ([(h, .inr (1, [.null, .null, .null, .null, .null, .int 0]))]) sz)) 5 325 (va_A ([(h, .inr (1, [.null, .null, .null, .null, .null, .int 0]))]) sz) := by
  refine x_body (by decide) rfl (Nat.le_of_ble_eq_true rfl) ?_
  intro p e s m below meth c F hr hlk hnm hsz hw ls hl
  subst hsz
  have F : CallFix p m c cX1_init 1 s _ wsX1_init RX1 := F
  have hl : lv_has ls 1 [(0, .ref h)] := hl
  have hw : xW G (xK cI cJ cZ cO) _ s.heap s [(h, .inr (1, [.null, .null, .null, .null, .null, .int 0]))] s.heap [] := hw
  have iX1 : ∀ w ∈ wsX10, w ∈ wsX1_init := by decide +kernel
  refine lv_aload_n F.1 F.2.1 dX1_init_0 rfl (lv_at hl 0 rfl) ?_
  refine W.objInit F.1 F.2.1 F.2.2.2.1 (F.2.2.2.2 _ (List.mem_of_getElem? (i := 1) rfl)) (F.2.2.2.2 _ (List.mem_of_getElem? (i := 2) rfl)) (F.2.2.2.2 _ (List.mem_of_getElem? (i := 3) rfl)) rfl (by rw [F.2.2.1]; exact hl.1) rfl dX1_init_1 (Nat.le_of_ble_eq_true rfl) (Nat.le_of_ble_eq_true rfl) ?_
  refine W.eq (g2 := F0 m 4 ls []) rfl ?_
  refine lv_aload_n F.1 F.2.1 dX1_init_4 rfl (lv_at hl 0 rfl) ?_
  refine lv_bipush (v := 65) F.1 F.2.1 dX1_init_5 (by decide) ?_
  refine x_newa F hw (t := .int) (a0 := (65, .inl (fun _ => 0))) (List.mem_of_getElem? (i := 4) rfl) rfl 0 rfl (fun _ => rfl) (by decide) (by decide) (by decide) (Nat.le_of_ble_eq_true rfl) (Nat.le_of_ble_eq_true rfl) dX1_init_7 (fun q1 H hw => ?_)
  have hw : xW G (xK cI cJ cZ cO) _ s.heap s [(h, .inr (1, [.null, .null, .null, .null, .null, .int 0])), (q1, .inl (cI, 65, .inl (fun _ => 0)))] H _ := hw
  refine x_put F hw iX1 tyX1 tyX1_ok nmX1 0 rfl rfl 0 (by decide) rfl (List.mem_of_getElem? (i := 5) rfl) (rfl) (rfl) (Nat.le_of_ble_eq_true rfl) dX1_init_9 (fun H locs hw => ?_)
  have hw : xW G (xK cI cJ cZ cO) _ s.heap s [(h, .inr (1, [.ref q1, .null, .null, .null, .null, .int 0])), (q1, .inl (cI, 65, .inl (fun _ => 0)))] H _ := hw
  refine lv_aload_n F.1 F.2.1 dX1_init_12 rfl (lv_at hl 0 rfl) ?_
  refine lv_bipush (v := 65) F.1 F.2.1 dX1_init_13 (by decide) ?_
  refine x_newa F hw (t := .int) (a0 := (65, .inl (fun _ => 0))) (List.mem_of_getElem? (i := 4) rfl) rfl 0 rfl (fun _ => rfl) (by decide) (by decide) (by decide) (Nat.le_of_ble_eq_true rfl) (Nat.le_of_ble_eq_true rfl) dX1_init_15 (fun q2 H hw => ?_)
  have hw : xW G (xK cI cJ cZ cO) _ s.heap s [(h, .inr (1, [.ref q1, .null, .null, .null, .null, .int 0])), (q1, .inl (cI, 65, .inl (fun _ => 0))), (q2, .inl (cI, 65, .inl (fun _ => 0)))] H _ := hw
  refine x_put F hw iX1 tyX1 tyX1_ok nmX1 0 rfl rfl 1 (by decide) rfl (List.mem_of_getElem? (i := 6) rfl) (rfl) (rfl) (Nat.le_of_ble_eq_true rfl) dX1_init_17 (fun H locs hw => ?_)
  have hw : xW G (xK cI cJ cZ cO) _ s.heap s [(h, .inr (1, [.ref q1, .ref q2, .null, .null, .null, .int 0])), (q1, .inl (cI, 65, .inl (fun _ => 0))), (q2, .inl (cI, 65, .inl (fun _ => 0)))] H _ := hw
  refine lv_aload_n F.1 F.2.1 dX1_init_20 rfl (lv_at hl 0 rfl) ?_
  refine lv_bipush (v := 65) F.1 F.2.1 dX1_init_21 (by decide) ?_
  refine x_newa F hw (t := .long) (a0 := (65, .inr (.inl (fun _ => 0)))) (List.mem_of_getElem? (i := 7) rfl) rfl 1 rfl (fun _ => rfl) (by decide) (by decide) (by decide) (Nat.le_of_ble_eq_true rfl) (Nat.le_of_ble_eq_true rfl) dX1_init_23 (fun q3 H hw => ?_)
  have hw : xW G (xK cI cJ cZ cO) _ s.heap s [(h, .inr (1, [.ref q1, .ref q2, .null, .null, .null, .int 0])), (q1, .inl (cI, 65, .inl (fun _ => 0))), (q2, .inl (cI, 65, .inl (fun _ => 0))), (q3, .inl (cJ, 65, .inr (.inl (fun _ => 0))))] H _ := hw
  refine x_put F hw iX1 tyX1 tyX1_ok nmX1 0 rfl rfl 2 (by decide) rfl (List.mem_of_getElem? (i := 8) rfl) (rfl) (rfl) (Nat.le_of_ble_eq_true rfl) dX1_init_25 (fun H locs hw => ?_)
  have hw : xW G (xK cI cJ cZ cO) _ s.heap s [(h, .inr (1, [.ref q1, .ref q2, .ref q3, .null, .null, .int 0])), (q1, .inl (cI, 65, .inl (fun _ => 0))), (q2, .inl (cI, 65, .inl (fun _ => 0))), (q3, .inl (cJ, 65, .inr (.inl (fun _ => 0))))] H _ := hw
  refine lv_aload_n F.1 F.2.1 dX1_init_28 rfl (lv_at hl 0 rfl) ?_
  refine lv_bipush (v := 65) F.1 F.2.1 dX1_init_29 (by decide) ?_
  refine x_newa F hw (t := .long) (a0 := (65, .inr (.inl (fun _ => 0)))) (List.mem_of_getElem? (i := 7) rfl) rfl 1 rfl (fun _ => rfl) (by decide) (by decide) (by decide) (Nat.le_of_ble_eq_true rfl) (Nat.le_of_ble_eq_true rfl) dX1_init_31 (fun q4 H hw => ?_)
  have hw : xW G (xK cI cJ cZ cO) _ s.heap s [(h, .inr (1, [.ref q1, .ref q2, .ref q3, .null, .null, .int 0])), (q1, .inl (cI, 65, .inl (fun _ => 0))), (q2, .inl (cI, 65, .inl (fun _ => 0))), (q3, .inl (cJ, 65, .inr (.inl (fun _ => 0)))), (q4, .inl (cJ, 65, .inr (.inl (fun _ => 0))))] H _ := hw
  refine x_put F hw iX1 tyX1 tyX1_ok nmX1 0 rfl rfl 3 (by decide) rfl (List.mem_of_getElem? (i := 9) rfl) (rfl) (rfl) (Nat.le_of_ble_eq_true rfl) dX1_init_33 (fun H locs hw => ?_)
  have hw : xW G (xK cI cJ cZ cO) _ s.heap s [(h, .inr (1, [.ref q1, .ref q2, .ref q3, .ref q4, .null, .int 0])), (q1, .inl (cI, 65, .inl (fun _ => 0))), (q2, .inl (cI, 65, .inl (fun _ => 0))), (q3, .inl (cJ, 65, .inr (.inl (fun _ => 0)))), (q4, .inl (cJ, 65, .inr (.inl (fun _ => 0))))] H _ := hw
  refine lv_aload_n F.1 F.2.1 dX1_init_36 rfl (lv_at hl 0 rfl) ?_
  refine lv_bipush (v := 65) F.1 F.2.1 dX1_init_37 (by decide) ?_
  refine x_newa F hw (t := .int) (a0 := (65, .inl (fun _ => 0))) (List.mem_of_getElem? (i := 4) rfl) rfl 0 rfl (fun _ => rfl) (by decide) (by decide) (by decide) (Nat.le_of_ble_eq_true rfl) (Nat.le_of_ble_eq_true rfl) dX1_init_39 (fun q5 H hw => ?_)
  have hw : xW G (xK cI cJ cZ cO) _ s.heap s [(h, .inr (1, [.ref q1, .ref q2, .ref q3, .ref q4, .null, .int 0])), (q1, .inl (cI, 65, .inl (fun _ => 0))), (q2, .inl (cI, 65, .inl (fun _ => 0))), (q3, .inl (cJ, 65, .inr (.inl (fun _ => 0)))), (q4, .inl (cJ, 65, .inr (.inl (fun _ => 0)))), (q5, .inl (cI, 65, .inl (fun _ => 0)))] H _ := hw
  refine x_put F hw iX1 tyX1 tyX1_ok nmX1 0 rfl rfl 4 (by decide) rfl (List.mem_of_getElem? (i := 10) rfl) (rfl) (rfl) (Nat.le_of_ble_eq_true rfl) dX1_init_41 (fun H locs hw => ?_)
  have hw : xW G (xK cI cJ cZ cO) _ s.heap s [(h, .inr (1, [.ref q1, .ref q2, .ref q3, .ref q4, .ref q5, .int 0])), (q1, .inl (cI, 65, .inl (fun _ => 0))), (q2, .inl (cI, 65, .inl (fun _ => 0))), (q3, .inl (cJ, 65, .inr (.inl (fun _ => 0)))), (q4, .inl (cJ, 65, .inr (.inl (fun _ => 0)))), (q5, .inl (cI, 65, .inl (fun _ => 0)))] H _ := hw
  refine W.widen (k := 5) (n := 325) (by omega) (by omega) ?_
  exact x_vret (f := fun u9 : LgR => wLg cI cJ h u9) (q1, q2, q3, q4, q5, 65, fun _ => 0, fun _ => 0, fun _ => 0, fun _ => 0, fun _ => 0, 0) F hr hlk hw (⟨rfl, rfl⟩) dX1_init_44
