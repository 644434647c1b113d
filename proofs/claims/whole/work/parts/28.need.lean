set_option maxHeartbeats 8000000 in
set_option maxRecDepth 100000 in
/-- needClock -/
theorem c_X3_needClock (l : Launch) (G : va_G) (cI cJ cZ cO : ClassId) (sz : Nat) (hst : l.stackTraces = false) (x : Int32) : vx_Met l yX3_needClock wsX3_needClock ({ frames := 6, cells := 1, slots := 6, locals := 82 }) (xPe G (xK cI cJ cZ cO) sz [.int x] ([])) (xQv (cClk x)) (xXC (fun E => E = xIA ∧ ¬ cClk x)) 1 6 (fun _ => False) := by
  refine x_bodyX (by decide) rfl (Nat.le_of_ble_eq_true rfl) ?_
  intro p e s m below meth c F hr hlk hnm hsz hw hE hout ls hl
  subst hsz
  have F : CallFix p m c cX3_needClock 1 s _ wsX3_needClock RX3 := F
  have hl : lv_has ls 1 [(0, .int x)] := hl
  have hw : xW G (xK cI cJ cZ cO) _ s.heap s [] s.heap [] := hw
  refine lv_iload_n F.1 F.2.1 dX3_needClock_0 rfl (lv_at hl 0 rfl) ?_
  refine lv_if_lt (tgt := 9) F.1 F.2.1 dX3_needClock_1 (by decide) (fun c1 => ?_) (fun c1 => ?_)
  · exact x_thr F hw hE hst fit_IA bad_IA ot_IA (fun w h => List.mem_cons_of_mem _ (List.mem_append_right _ h)) (List.mem_of_getElem? (i := 1) rfl) (List.mem_of_getElem? (i := 2) rfl) (is := 213) (tx := "no such clock") (by decide) hl.1 dX3_needClock_9 dX3_needClock_12 dX3_needClock_13 dX3_needClock_15 dX3_needClock_18 hout hlk (Nat.le_of_ble_eq_true rfl) (Nat.le_of_ble_eq_true rfl) (Nat.le_of_ble_eq_true rfl) (Nat.le_of_ble_eq_true rfl) (⟨rfl, fun h => h.1 c1⟩) (Nat.le_of_ble_eq_true rfl) (Nat.le_of_ble_eq_true rfl)
  · refine lv_iload_n F.1 F.2.1 dX3_needClock_4 rfl (lv_at hl 0 rfl) ?_
    refine lv_iconst (v := 2) F.1 F.2.1 dX3_needClock_5 (by decide) ?_
    refine lv_icmp_lt (tgt := 19) F.1 F.2.1 dX3_needClock_6 (by decide) (fun c6 => ?_) (fun c6 => ?_)
    · refine vx_ret ?_
      refine W.widen (k := 1) (n := 6) (by omega) (by omega) ?_
      exact x_rvret F hr hlk (⟨c1, c6⟩) dX3_needClock_19
    · exact x_thr F hw hE hst fit_IA bad_IA ot_IA (fun w h => List.mem_cons_of_mem _ (List.mem_append_right _ h)) (List.mem_of_getElem? (i := 1) rfl) (List.mem_of_getElem? (i := 2) rfl) (is := 213) (tx := "no such clock") (by decide) hl.1 dX3_needClock_9 dX3_needClock_12 dX3_needClock_13 dX3_needClock_15 dX3_needClock_18 hout hlk (Nat.le_of_ble_eq_true rfl) (Nat.le_of_ble_eq_true rfl) (Nat.le_of_ble_eq_true rfl) (Nat.le_of_ble_eq_true rfl) (⟨rfl, fun h => c6 h.2⟩) (Nat.le_of_ble_eq_true rfl) (Nat.le_of_ble_eq_true rfl)

set_option maxHeartbeats 8000000 in
set_option maxRecDepth 100000 in
/-- needTime -/
theorem c_X3_needTime (l : Launch) (G : va_G) (cI cJ cZ cO : ClassId) (sz : Nat) (hst : l.stackTraces = false) (x : Int64) : vx_Met l yX3_needTime wsX3_needTime ({ frames := 6, cells := 1, slots := 6, locals := 82 }) (xPe G (xK cI cJ cZ cO) sz [.long x] ([])) (xQv (gTim x)) (xXC (fun E => E = xIA ∧ ¬ gTim x)) 1 6 (fun _ => False) := by
  refine x_bodyX (by decide) rfl (Nat.le_of_ble_eq_true rfl) ?_
  intro p e s m below meth c F hr hlk hnm hsz hw hE hout ls hl
  subst hsz
  have F : CallFix p m c cX3_needTime 2 s _ wsX3_needTime RX3 := F
  have hl : lv_has ls 2 [(0, .long x)] := hl
  have hw : xW G (xK cI cJ cZ cO) _ s.heap s [] s.heap [] := hw
  refine lv_lload_n F.1 F.2.1 dX3_needTime_0 rfl (lv_at hl 0 rfl) ?_
  refine lv_lconst (v := 0) F.1 F.2.1 dX3_needTime_1 (by decide) ?_
  refine x_l_lt (tgt := 14) F dX3_needTime_2 dX3_needTime_3 (by decide) (fun c2 => ?_) (fun c2 => ?_)
  · exact x_thr F hw hE hst fit_IA bad_IA ot_IA (fun w h => List.mem_cons_of_mem _ (List.mem_append_right _ h)) (List.mem_of_getElem? (i := 1) rfl) (List.mem_of_getElem? (i := 2) rfl) (is := 217) (tx := "no such time") (by decide) hl.1 dX3_needTime_14 dX3_needTime_17 dX3_needTime_18 dX3_needTime_20 dX3_needTime_23 hout hlk (Nat.le_of_ble_eq_true rfl) (Nat.le_of_ble_eq_true rfl) (Nat.le_of_ble_eq_true rfl) (Nat.le_of_ble_eq_true rfl) (⟨rfl, fun h => Int64.not_le.mpr c2 h.1⟩) (Nat.le_of_ble_eq_true rfl) (Nat.le_of_ble_eq_true rfl)
  · refine lv_lload_n F.1 F.2.1 dX3_needTime_6 rfl (lv_at hl 0 rfl) ?_
    refine lv_ldc2 (v := 1000000000000) F.1 F.2.1 F.2.2.2.1 (F.2.2.2.2 _ (List.mem_of_getElem? (i := 3) rfl)) dX3_needTime_7 ?_
    refine x_l_le (tgt := 24) F dX3_needTime_10 dX3_needTime_11 (by decide) (fun c10 => ?_) (fun c10 => ?_)
    · refine vx_ret ?_
      refine W.widen (k := 1) (n := 6) (by omega) (by omega) ?_
      exact x_rvret F hr hlk (⟨Int64.not_lt.mp c2, c10⟩) dX3_needTime_24
    · exact x_thr F hw hE hst fit_IA bad_IA ot_IA (fun w h => List.mem_cons_of_mem _ (List.mem_append_right _ h)) (List.mem_of_getElem? (i := 1) rfl) (List.mem_of_getElem? (i := 2) rfl) (is := 217) (tx := "no such time") (by decide) hl.1 dX3_needTime_14 dX3_needTime_17 dX3_needTime_18 dX3_needTime_20 dX3_needTime_23 hout hlk (Nat.le_of_ble_eq_true rfl) (Nat.le_of_ble_eq_true rfl) (Nat.le_of_ble_eq_true rfl) (Nat.le_of_ble_eq_true rfl) (⟨rfl, fun h => c10 h.2⟩) (Nat.le_of_ble_eq_true rfl) (Nat.le_of_ble_eq_true rfl)

set_option maxHeartbeats 8000000 in
set_option maxRecDepth 100000 in
/-- needWhat -/
theorem c_X3_needWhat (l : Launch) (G : va_G) (cI cJ cZ cO : ClassId) (sz : Nat) (hst : l.stackTraces = false) (x y : Int32) : vx_Met l yX3_needWhat wsX3_needWhat ({ frames := 6, cells := 1, slots := 6, locals := 82 }) (xPe G (xK cI cJ cZ cO) sz [.int x, .int y] ([])) (xQv (¬ x < 0 ∧ x ≤ y)) (xXC (fun E => E = xIA ∧ ¬ (¬ x < 0 ∧ x ≤ y))) 1 6 (fun _ => False) := by
  refine x_bodyX (by decide) rfl (Nat.le_of_ble_eq_true rfl) ?_
  intro p e s m below meth c F hr hlk hnm hsz hw hE hout ls hl
  subst hsz
  have F : CallFix p m c cX3_needWhat 2 s _ wsX3_needWhat RX3 := F
  have hl : lv_has ls 2 [(0, .int x), (1, .int y)] := hl
  have hw : xW G (xK cI cJ cZ cO) _ s.heap s [] s.heap [] := hw
  refine lv_iload_n F.1 F.2.1 dX3_needWhat_0 rfl (lv_at hl 0 rfl) ?_
  refine lv_if_lt (tgt := 9) F.1 F.2.1 dX3_needWhat_1 (by decide) (fun c1 => ?_) (fun c1 => ?_)
  · exact x_thr F hw hE hst fit_IA bad_IA ot_IA (fun w h => List.mem_cons_of_mem _ (List.mem_append_right _ h)) (List.mem_of_getElem? (i := 1) rfl) (List.mem_of_getElem? (i := 2) rfl) (is := 219) (tx := "no such what") (by decide) hl.1 dX3_needWhat_9 dX3_needWhat_12 dX3_needWhat_13 dX3_needWhat_15 dX3_needWhat_18 hout hlk (Nat.le_of_ble_eq_true rfl) (Nat.le_of_ble_eq_true rfl) (Nat.le_of_ble_eq_true rfl) (Nat.le_of_ble_eq_true rfl) (⟨rfl, fun h => h.1 c1⟩) (Nat.le_of_ble_eq_true rfl) (Nat.le_of_ble_eq_true rfl)
  · refine lv_iload_n F.1 F.2.1 dX3_needWhat_4 rfl (lv_at hl 0 rfl) ?_
    refine lv_iload_n F.1 F.2.1 dX3_needWhat_5 rfl (lv_at hl 1 rfl) ?_
    refine lv_icmp_le (tgt := 19) F.1 F.2.1 dX3_needWhat_6 (by decide) (fun c6 => ?_) (fun c6 => ?_)
    · refine vx_ret ?_
      refine W.widen (k := 1) (n := 6) (by omega) (by omega) ?_
      exact x_rvret F hr hlk (⟨c1, c6⟩) dX3_needWhat_19
    · exact x_thr F hw hE hst fit_IA bad_IA ot_IA (fun w h => List.mem_cons_of_mem _ (List.mem_append_right _ h)) (List.mem_of_getElem? (i := 1) rfl) (List.mem_of_getElem? (i := 2) rfl) (is := 219) (tx := "no such what") (by decide) hl.1 dX3_needWhat_9 dX3_needWhat_12 dX3_needWhat_13 dX3_needWhat_15 dX3_needWhat_18 hout hlk (Nat.le_of_ble_eq_true rfl) (Nat.le_of_ble_eq_true rfl) (Nat.le_of_ble_eq_true rfl) (Nat.le_of_ble_eq_true rfl) (⟨rfl, fun h => c6 h.2⟩) (Nat.le_of_ble_eq_true rfl) (Nat.le_of_ble_eq_true rfl)

set_option maxHeartbeats 8000000 in
set_option maxRecDepth 100000 in
/-- needTasks -/
theorem c_X3_needTasks (l : Launch) (G : va_G) (cI cJ cZ cO : ClassId) (sz : Nat) (hst : l.stackTraces = false) (x : Int32) : vx_Met l yX3_needTasks wsX3_needTasks ({ frames := 6, cells := 1, slots := 6, locals := 82 }) (xPe G (xK cI cJ cZ cO) sz [.int x] ([])) (xQv (¬ x < 1 ∧ x ≤ 128)) (xXC (fun E => E = xIA ∧ ¬ (¬ x < 1 ∧ x ≤ 128))) 1 6 (fun _ => False) := by
  refine x_bodyX (by decide) rfl (Nat.le_of_ble_eq_true rfl) ?_
  intro p e s m below meth c F hr hlk hnm hsz hw hE hout ls hl
  subst hsz
  have F : CallFix p m c cX3_needTasks 1 s _ wsX3_needTasks RX3 := F
  have hl : lv_has ls 1 [(0, .int x)] := hl
  have hw : xW G (xK cI cJ cZ cO) _ s.heap s [] s.heap [] := hw
  refine lv_iload_n F.1 F.2.1 dX3_needTasks_0 rfl (lv_at hl 0 rfl) ?_
  refine lv_iconst (v := 1) F.1 F.2.1 dX3_needTasks_1 (by decide) ?_
  refine lv_icmp_lt (tgt := 12) F.1 F.2.1 dX3_needTasks_2 (by decide) (fun c2 => ?_) (fun c2 => ?_)
  · exact x_thr F hw hE hst fit_IA bad_IA ot_IA (fun w h => List.mem_cons_of_mem _ (List.mem_append_right _ h)) (List.mem_of_getElem? (i := 1) rfl) (List.mem_of_getElem? (i := 2) rfl) (is := 221) (tx := "not so many tasks") (by decide) hl.1 dX3_needTasks_12 dX3_needTasks_15 dX3_needTasks_16 dX3_needTasks_18 dX3_needTasks_21 hout hlk (Nat.le_of_ble_eq_true rfl) (Nat.le_of_ble_eq_true rfl) (Nat.le_of_ble_eq_true rfl) (Nat.le_of_ble_eq_true rfl) (⟨rfl, fun h => h.1 c2⟩) (Nat.le_of_ble_eq_true rfl) (Nat.le_of_ble_eq_true rfl)
  · refine lv_iload_n F.1 F.2.1 dX3_needTasks_5 rfl (lv_at hl 0 rfl) ?_
    refine lv_sipush (v := 128) F.1 F.2.1 dX3_needTasks_6 (by decide) ?_
    refine lv_icmp_le (tgt := 22) F.1 F.2.1 dX3_needTasks_9 (by decide) (fun c9 => ?_) (fun c9 => ?_)
    · refine vx_ret ?_
      refine W.widen (k := 1) (n := 6) (by omega) (by omega) ?_
      exact x_rvret F hr hlk (⟨c2, c9⟩) dX3_needTasks_22
    · exact x_thr F hw hE hst fit_IA bad_IA ot_IA (fun w h => List.mem_cons_of_mem _ (List.mem_append_right _ h)) (List.mem_of_getElem? (i := 1) rfl) (List.mem_of_getElem? (i := 2) rfl) (is := 221) (tx := "not so many tasks") (by decide) hl.1 dX3_needTasks_12 dX3_needTasks_15 dX3_needTasks_16 dX3_needTasks_18 dX3_needTasks_21 hout hlk (Nat.le_of_ble_eq_true rfl) (Nat.le_of_ble_eq_true rfl) (Nat.le_of_ble_eq_true rfl) (Nat.le_of_ble_eq_true rfl) (⟨rfl, fun h => c9 h.2⟩) (Nat.le_of_ble_eq_true rfl) (Nat.le_of_ble_eq_true rfl)

set_option maxHeartbeats 8000000 in
set_option maxRecDepth 100000 in
/-- taskOf -/
theorem c_X3_taskOf (l : Launch) (G : va_G) (cI cJ cZ cO : ClassId) (sz : Nat) (k : Int64) (n : Int32) : Met l yX3_taskOf wsX3_taskOf ({ frames := 1, cells := 0, slots := 0, locals := 25 }) (xPc G (xK cI cJ cZ cO) sz [.long k, .int n] ([])) (xQi (fun r => r = cTask k n)) 0 0 (fun _ => False) := by
  refine x_body (by decide) rfl (Nat.le_of_ble_eq_true rfl) ?_
  intro p e s m below meth c F hr hlk hnm hsz hw ls hl
  subst hsz
  have F : CallFix p m c cX3_taskOf 4 s _ wsX3_taskOf RX3 := F
  have hl : lv_has ls 4 [(0, .long k), (2, .int n)] := hl
  have hw : xW G (xK cI cJ cZ cO) _ s.heap s [] s.heap [] := hw
  refine lv_lload_n F.1 F.2.1 dX3_taskOf_0 rfl (lv_at hl 0 rfl) ?_
  refine lv_ldc2 (v := 128) F.1 F.2.1 F.2.2.2.1 (F.2.2.2.2 _ (List.mem_of_getElem? (i := 1) rfl)) dX3_taskOf_1 ?_
  refine x_rl (va_runS (As := [.long k, .long 128]) (rest := []) F (c_J9_floorMod_f86c9 l G cI cJ cZ cO (Array.size _) k) (va_cwS 2 F.2.2.2.2 gX3_taskOf_J9_floorMod_f86c9 rfl rfl rfl (by decide +kernel) ⟨Nat.le_of_ble_eq_true rfl, Nat.le_of_ble_eq_true rfl⟩) (x_preSW hw [] rfl (by decide)) rfl rfl hl.1 rfl (lv_room (Nat.le_of_ble_eq_true rfl)) dX3_taskOf_4 ⟨Nat.le_of_ble_eq_true rfl, Nat.le_of_ble_eq_true rfl⟩) (fun r4 hr4 => ?_)
  subst hr4
  refine lv_l2i (v := (cMod k).toInt32) F.1 F.2.1 dX3_taskOf_7 rfl ?_
  refine lv_istore_n (lv' := [(3, .int ((cMod k).toInt32)), (0, .long k), (2, .int n)]) F.1 F.2.1 dX3_taskOf_8 rfl hl (by decide) rfl (fun ls hl => ?_)
  refine lv_iload_n F.1 F.2.1 dX3_taskOf_9 rfl (lv_at hl 0 rfl) ?_
  refine lv_iload_n F.1 F.2.1 dX3_taskOf_10 rfl (lv_at hl 2 rfl) ?_
  refine lv_imul F.1 F.2.1 dX3_taskOf_11 ?_
  refine lv_sipush (v := 128) F.1 F.2.1 dX3_taskOf_12 (by decide) ?_
  refine lv_idiv F.1 F.2.1 dX3_taskOf_15 (by decide) ?_
  exact x_riret F hr hlk (rfl) dX3_taskOf_16
