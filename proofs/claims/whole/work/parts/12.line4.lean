set_option maxHeartbeats 8000000 in
set_option maxRecDepth 100000 in
/-- countBetween(..) -/
theorem c_X0_countBetween (l : Launch) (G : va_G) (cI cJ cZ cO : ClassId) (sz : Nat) (A : LnA) (u : LnR) (x : Int32) (y t1 t2 : Int64) (hok : LnOk u) : Met l yX0_countBetween wsX0_countBetween ({ frames := 0, cells := 0, slots := 0, locals := 0 }) (xPc G (xK cI cJ cZ cO) sz [.ref (aH A), .int x, .long y, .long t1, .long t2] (wLn cI cJ A u)) (xQi (fun r => r = nI (cnt (fun j9 => eBet x y t1 t2 (lAt u j9)) (lSz u)))) 0 0 (fun _ => False) := by
  refine x_body (by decide) rfl (Nat.le_of_ble_eq_true rfl) ?_
  intro p e s m below meth c F hr hlk hnm hsz hw ls hl
  subst hsz
  have F : CallFix p m c cX0_countBetween 12 s _ wsX0_countBetween RX0 := F
  have hl : lv_has ls 12 [(0, .ref (aH A)), (1, .int x), (2, .long y), (4, .long t1), (6, .long t2)] := hl
  have hw : xW G (xK cI cJ cZ cO) _ s.heap s [(aH A, .inr (0, [.ref (aO A), .ref (aN A), .ref (aC A), .ref (aK A), .ref (aT A), .ref (aG A), .ref (aF A), .int (nI (lSz u))])), (aO A, .inl (cI, 40, .inl (lO u))), (aN A, .inl (cI, 40, .inl (lNu u))), (aC A, .inl (cI, 40, .inl (lCk u))), (aK A, .inl (cJ, 40, .inr (.inl (lKe u)))), (aT A, .inl (cJ, 40, .inr (.inl (lTi u)))), (aG A, .inl (cJ, 40, .inr (.inl (lGa u)))), (aF A, .inl (cI, 40, .inl (lOf u)))] s.heap [] := hw
  have iX0 : ∀ w ∈ wsX00, w ∈ wsX0_countBetween := by decide +kernel
  refine lv_iconst (v := 0) F.1 F.2.1 dX0_countBetween_0 (by decide) ?_
  refine lv_istore (lv' := [(8, .int 0), (0, .ref (aH A)), (1, .int x), (2, .long y), (4, .long t1), (6, .long t2)]) F.1 F.2.1 dX0_countBetween_1 hl (by decide) rfl (fun ls hl => ?_)
  refine lv_iconst (v := 0) F.1 F.2.1 dX0_countBetween_3 (by decide) ?_
  refine lv_istore (lv' := [(9, .int 0), (8, .int 0), (0, .ref (aH A)), (1, .int x), (2, .long y), (4, .long t1), (6, .long t2)]) F.1 F.2.1 dX0_countBetween_4 hl (by decide) rfl (fun ls hl => ?_)
  refine x_rec0 (α := Nat × Nat) (fun a9 => lSz u - a9.1) (fun a9 ls => lv_has ls 12 [(0, .ref (aH A)), (1, .int x), (2, .long y), (4, .long t1), (6, .long t2), (8, .int (nI a9.2)), (9, .int (nI a9.1))] ∧ a9.1 ≤ lSz u ∧ a9.2 = cnt (fun j9 => eBet x y t1 t2 (lAt u j9)) a9.1) ?_ ((0, 0)) ⟨lv_sub hl [2, 3, 4, 5, 6, 1, 0] rfl, Nat.zero_le _, rfl⟩
  rintro ⟨i, n⟩ ls ⟨hl, hi, hn⟩ ih
  try dsimp only at hi hn
  have h40 := hok.1
  have hl : lv_has ls 12 [(0, .ref (aH A)), (1, .int x), (2, .long y), (4, .long t1), (6, .long t2), (8, .int (nI n)), (9, .int (nI i))] := hl
  refine lv_iload F.1 F.2.1 dX0_countBetween_6 (lv_at hl 6 rfl) ?_
  refine lv_aload_n F.1 F.2.1 dX0_countBetween_8 rfl (lv_at hl 0 rfl) ?_
  refine x_get F hw iX0 0 rfl rfl 7 (by decide) rfl (List.mem_of_getElem? (i := 1) rfl) rfl dX0_countBetween_9 ?_
  refine lv_icmp_ge (tgt := 94) F.1 F.2.1 dX0_countBetween_12 (by decide) (fun c12 => ?_) (fun c12 => ?_)
  · refine lv_iload F.1 F.2.1 dX0_countBetween_94 (lv_at hl 5 rfl) ?_
    exact x_riret F hr hlk (by have h9 := x_le (by omega) (by omega) c12; rw [hn, show i = lSz u by omega]) dX0_countBetween_96
  · have hlt : i < lSz u := x_nle (by omega) (by omega) c12
    refine lv_aload_n F.1 F.2.1 dX0_countBetween_15 rfl (lv_at hl 0 rfl) ?_
    refine x_get F hw iX0 0 rfl rfl 0 (by decide) rfl (List.mem_of_getElem? (i := 2) rfl) rfl dX0_countBetween_16 ?_
    refine lv_iload F.1 F.2.1 dX0_countBetween_19 (lv_at hl 6 rfl) ?_
    refine x_ialdN F hw 1 0 rfl rfl i rfl (by omega) (by decide) dX0_countBetween_21 ?_
    refine lv_istore (lv' := [(10, .int (lO u i)), (0, .ref (aH A)), (1, .int x), (2, .long y), (4, .long t1), (6, .long t2), (8, .int (nI n)), (9, .int (nI i))]) F.1 F.2.1 dX0_countBetween_22 hl (by decide) rfl (fun ls hl => ?_)
    refine lv_aload_n F.1 F.2.1 dX0_countBetween_24 rfl (lv_at hl 1 rfl) ?_
    refine x_get F hw iX0 0 rfl rfl 4 (by decide) rfl (List.mem_of_getElem? (i := 3) rfl) rfl dX0_countBetween_25 ?_
    refine lv_iload F.1 F.2.1 dX0_countBetween_28 (lv_at hl 0 rfl) ?_
    refine x_lald F hw 5 1 rfl rfl (hok.2.1 _ (by omega)) dX0_countBetween_30 ?_
    refine lv_lload F.1 F.2.1 dX0_countBetween_31 (lv_at hl 4 rfl) ?_
    refine x_l_lt (tgt := 54) F dX0_countBetween_33 dX0_countBetween_34 (by decide) (fun c33 => ?_) (fun c33 => ?_)
    · refine lv_iconst (v := 0) F.1 F.2.1 dX0_countBetween_54 (by decide) ?_
      refine lv_istore (lv' := [(11, .int 0), (10, .int (lO u i)), (0, .ref (aH A)), (1, .int x), (2, .long y), (4, .long t1), (6, .long t2), (8, .int (nI n)), (9, .int (nI i))]) F.1 F.2.1 dX0_countBetween_55 hl (by decide) rfl (fun ls hl => ?_)
      refine lv_iload F.1 F.2.1 dX0_countBetween_57 (lv_at hl 0 rfl) ?_
      refine lv_if_eq (tgt := 88) F.1 F.2.1 dX0_countBetween_59 (by decide) (fun c59 => ?_) (fun c59 => ?_)
      rotate_left
      · exact (c59 (by decide)).elim
      refine lv_iinc (v := nI (i + 1)) (lv' := [(9, .int (nI (i + 1))), (11, .int 0), (10, .int (lO u i)), (0, .ref (aH A)), (1, .int x), (2, .long y), (4, .long t1), (6, .long t2), (8, .int (nI n))]) F.1 F.2.1 dX0_countBetween_88 hl (k := 8) rfl (by rw [show Int32.ofInt 1 = 1 from rfl]; exact nI_1 _) (by decide) rfl (fun ls hl => ?_)
      refine lv_goto (tgt := 6) F.1 F.2.1 dX0_countBetween_91 (by decide) ?_
      exact ih ((i + 1, n)) _ (by simp only []; omega) ⟨lv_sub hl [3, 4, 5, 6, 7, 8, 0] rfl, by omega, by rw [cnt_0 (P := fun j9 => eBet x y t1 t2 (lAt u j9)) (eBet_a c33), hn]⟩
    · refine lv_aload_n F.1 F.2.1 dX0_countBetween_37 rfl (lv_at hl 1 rfl) ?_
      refine x_get F hw iX0 0 rfl rfl 4 (by decide) rfl (List.mem_of_getElem? (i := 3) rfl) rfl dX0_countBetween_38 ?_
      refine lv_iload F.1 F.2.1 dX0_countBetween_41 (lv_at hl 0 rfl) ?_
      refine x_lald F hw 5 1 rfl rfl (hok.2.1 _ (by omega)) dX0_countBetween_43 ?_
      refine lv_lload F.1 F.2.1 dX0_countBetween_44 (lv_at hl 5 rfl) ?_
      refine x_l_gt (tgt := 54) F dX0_countBetween_46 dX0_countBetween_47 (by decide) (fun c46 => ?_) (fun c46 => ?_)
      · refine lv_iconst (v := 0) F.1 F.2.1 dX0_countBetween_54 (by decide) ?_
        refine lv_istore (lv' := [(11, .int 0), (10, .int (lO u i)), (0, .ref (aH A)), (1, .int x), (2, .long y), (4, .long t1), (6, .long t2), (8, .int (nI n)), (9, .int (nI i))]) F.1 F.2.1 dX0_countBetween_55 hl (by decide) rfl (fun ls hl => ?_)
        refine lv_iload F.1 F.2.1 dX0_countBetween_57 (lv_at hl 0 rfl) ?_
        refine lv_if_eq (tgt := 88) F.1 F.2.1 dX0_countBetween_59 (by decide) (fun c59 => ?_) (fun c59 => ?_)
        rotate_left
        · exact (c59 (by decide)).elim
        refine lv_iinc (v := nI (i + 1)) (lv' := [(9, .int (nI (i + 1))), (11, .int 0), (10, .int (lO u i)), (0, .ref (aH A)), (1, .int x), (2, .long y), (4, .long t1), (6, .long t2), (8, .int (nI n))]) F.1 F.2.1 dX0_countBetween_88 hl (k := 8) rfl (by rw [show Int32.ofInt 1 = 1 from rfl]; exact nI_1 _) (by decide) rfl (fun ls hl => ?_)
        refine lv_goto (tgt := 6) F.1 F.2.1 dX0_countBetween_91 (by decide) ?_
        exact ih ((i + 1, n)) _ (by simp only []; omega) ⟨lv_sub hl [3, 4, 5, 6, 7, 8, 0] rfl, by omega, by rw [cnt_0 (P := fun j9 => eBet x y t1 t2 (lAt u j9)) (eBet_b c46), hn]⟩
      · refine lv_iconst (v := 1) F.1 F.2.1 dX0_countBetween_50 (by decide) ?_
        refine lv_goto (tgt := 55) F.1 F.2.1 dX0_countBetween_51 (by decide) ?_
        refine lv_istore (lv' := [(11, .int 1), (10, .int (lO u i)), (0, .ref (aH A)), (1, .int x), (2, .long y), (4, .long t1), (6, .long t2), (8, .int (nI n)), (9, .int (nI i))]) F.1 F.2.1 dX0_countBetween_55 hl (by decide) rfl (fun ls hl => ?_)
        refine lv_iload F.1 F.2.1 dX0_countBetween_57 (lv_at hl 0 rfl) ?_
        refine lv_if_eq (tgt := 88) F.1 F.2.1 dX0_countBetween_59 (by decide) (fun c59 => ?_) (fun c59 => ?_)
        · exact absurd c59 (by decide)
        refine lv_aload_n F.1 F.2.1 dX0_countBetween_62 rfl (lv_at hl 2 rfl) ?_
        refine x_get F hw iX0 0 rfl rfl 2 (by decide) rfl (List.mem_of_getElem? (i := 4) rfl) rfl dX0_countBetween_63 ?_
        refine lv_iload F.1 F.2.1 dX0_countBetween_66 (lv_at hl 1 rfl) ?_
        refine x_iald F hw 3 0 rfl rfl (hok.2.1 _ (by omega)) dX0_countBetween_68 ?_
        refine lv_iload_n F.1 F.2.1 dX0_countBetween_69 rfl (lv_at hl 3 rfl) ?_
        refine lv_icmp_ne (tgt := 88) F.1 F.2.1 dX0_countBetween_70 (by decide) (fun c70 => ?_) (fun c70 => ?_)
        · refine lv_iinc (v := nI (i + 1)) (lv' := [(9, .int (nI (i + 1))), (11, .int 1), (10, .int (lO u i)), (0, .ref (aH A)), (1, .int x), (2, .long y), (4, .long t1), (6, .long t2), (8, .int (nI n))]) F.1 F.2.1 dX0_countBetween_88 hl (k := 8) rfl (by rw [show Int32.ofInt 1 = 1 from rfl]; exact nI_1 _) (by decide) rfl (fun ls hl => ?_)
          refine lv_goto (tgt := 6) F.1 F.2.1 dX0_countBetween_91 (by decide) ?_
          exact ih ((i + 1, n)) _ (by simp only []; omega) ⟨lv_sub hl [3, 4, 5, 6, 7, 8, 0] rfl, by omega, by rw [cnt_0 (P := fun j9 => eBet x y t1 t2 (lAt u j9)) (eBet_c c70), hn]⟩
        · refine lv_aload_n F.1 F.2.1 dX0_countBetween_73 rfl (lv_at hl 2 rfl) ?_
          refine x_get F hw iX0 0 rfl rfl 3 (by decide) rfl (List.mem_of_getElem? (i := 5) rfl) rfl dX0_countBetween_74 ?_
          refine lv_iload F.1 F.2.1 dX0_countBetween_77 (lv_at hl 1 rfl) ?_
          refine x_lald F hw 4 1 rfl rfl (hok.2.1 _ (by omega)) dX0_countBetween_79 ?_
          refine lv_lload_n F.1 F.2.1 dX0_countBetween_80 rfl (lv_at hl 4 rfl) ?_
          refine x_l_ne (tgt := 88) F dX0_countBetween_81 dX0_countBetween_82 (by decide) (fun c81 => ?_) (fun c81 => ?_)
          · refine lv_iinc (v := nI (i + 1)) (lv' := [(9, .int (nI (i + 1))), (11, .int 1), (10, .int (lO u i)), (0, .ref (aH A)), (1, .int x), (2, .long y), (4, .long t1), (6, .long t2), (8, .int (nI n))]) F.1 F.2.1 dX0_countBetween_88 hl (k := 8) rfl (by rw [show Int32.ofInt 1 = 1 from rfl]; exact nI_1 _) (by decide) rfl (fun ls hl => ?_)
            refine lv_goto (tgt := 6) F.1 F.2.1 dX0_countBetween_91 (by decide) ?_
            exact ih ((i + 1, n)) _ (by simp only []; omega) ⟨lv_sub hl [3, 4, 5, 6, 7, 8, 0] rfl, by omega, by rw [cnt_0 (P := fun j9 => eBet x y t1 t2 (lAt u j9)) (eBet_d c81), hn]⟩
          · refine lv_iinc (v := nI (n + 1)) (lv' := [(8, .int (nI (n + 1))), (11, .int 1), (10, .int (lO u i)), (0, .ref (aH A)), (1, .int x), (2, .long y), (4, .long t1), (6, .long t2), (9, .int (nI i))]) F.1 F.2.1 dX0_countBetween_85 hl (k := 7) rfl (by rw [show Int32.ofInt 1 = 1 from rfl]; exact nI_1 _) (by decide) rfl (fun ls hl => ?_)
            refine lv_iinc (v := nI (i + 1)) (lv' := [(9, .int (nI (i + 1))), (8, .int (nI (n + 1))), (11, .int 1), (10, .int (lO u i)), (0, .ref (aH A)), (1, .int x), (2, .long y), (4, .long t1), (6, .long t2)]) F.1 F.2.1 dX0_countBetween_88 hl (k := 8) rfl (by rw [show Int32.ofInt 1 = 1 from rfl]; exact nI_1 _) (by decide) rfl (fun ls hl => ?_)
            refine lv_goto (tgt := 6) F.1 F.2.1 dX0_countBetween_91 (by decide) ?_
            exact ih ((i + 1, n + 1)) _ (by simp only []; omega) ⟨lv_sub hl [4, 5, 6, 7, 8, 1, 0] rfl, by omega, by rw [cnt_1 (P := fun j9 => eBet x y t1 t2 (lAt u j9)) (eBet_1 c33 c46 c70 c81), hn]⟩

set_option maxHeartbeats 8000000 in
set_option maxRecDepth 100000 in
/-- copyFrom(other) -/
theorem c_X0_copyFrom (l : Launch) (G : va_G) (cI cJ cZ cO : ClassId) (sz : Nat) (A B : LnA) (u v : LnR) : Met l yX0_copyFrom wsX0_copyFrom ({ frames := 1, cells := 0, slots := 0, locals := 40 }) (xPc G (xK cI cJ cZ cO) sz [.ref (aH A), .ref (aH B)] (wLn cI cJ A u ++ wLn cI cJ B v)) (va_Qv (fun u2 => u2 = lCopy u v) (xB G (xK cI cJ cZ cO) (wLn cI cJ A u ++ wLn cI cJ B v) sz (fun u9 : LnR => wLn cI cJ A u9 ++ wLn cI cJ B v)) (va_A (wLn cI cJ A u ++ wLn cI cJ B v) sz)) 0 0 (va_A (wLn cI cJ A u ++ wLn cI cJ B v) sz) := by
  refine x_body (by decide) rfl (Nat.le_of_ble_eq_true rfl) ?_
  intro p e s m below meth c F hr hlk hnm hsz hw ls hl
  subst hsz
  have F : CallFix p m c cX0_copyFrom 2 s _ wsX0_copyFrom RX0 := F
  have hl : lv_has ls 2 [(0, .ref (aH A)), (1, .ref (aH B))] := hl
  have hw : xW G (xK cI cJ cZ cO) _ s.heap s [(aH A, .inr (0, [.ref (aO A), .ref (aN A), .ref (aC A), .ref (aK A), .ref (aT A), .ref (aG A), .ref (aF A), .int (nI (lSz u))])), (aO A, .inl (cI, 40, .inl (lO u))), (aN A, .inl (cI, 40, .inl (lNu u))), (aC A, .inl (cI, 40, .inl (lCk u))), (aK A, .inl (cJ, 40, .inr (.inl (lKe u)))), (aT A, .inl (cJ, 40, .inr (.inl (lTi u)))), (aG A, .inl (cJ, 40, .inr (.inl (lGa u)))), (aF A, .inl (cI, 40, .inl (lOf u))), (aH B, .inr (0, [.ref (aO B), .ref (aN B), .ref (aC B), .ref (aK B), .ref (aT B), .ref (aG B), .ref (aF B), .int (nI (lSz v))])), (aO B, .inl (cI, 40, .inl (lO v))), (aN B, .inl (cI, 40, .inl (lNu v))), (aC B, .inl (cI, 40, .inl (lCk v))), (aK B, .inl (cJ, 40, .inr (.inl (lKe v)))), (aT B, .inl (cJ, 40, .inr (.inl (lTi v)))), (aG B, .inl (cJ, 40, .inr (.inl (lGa v)))), (aF B, .inl (cI, 40, .inl (lOf v)))] s.heap [] := hw
  have iX0 : ∀ w ∈ wsX00, w ∈ wsX0_copyFrom := by decide +kernel
  refine lv_aload_n F.1 F.2.1 dX0_copyFrom_0 rfl (lv_at hl 1 rfl) ?_
  refine x_get F hw iX0 8 rfl rfl 0 (by decide) rfl (List.mem_of_getElem? (i := 1) rfl) rfl dX0_copyFrom_1 ?_
  refine lv_iconst (v := 0) F.1 F.2.1 dX0_copyFrom_4 (by decide) ?_
  refine lv_aload_n F.1 F.2.1 dX0_copyFrom_5 rfl (lv_at hl 0 rfl) ?_
  refine x_get F hw iX0 0 rfl rfl 0 (by decide) rfl (List.mem_of_getElem? (i := 1) rfl) rfl dX0_copyFrom_6 ?_
  refine lv_iconst (v := 0) F.1 F.2.1 dX0_copyFrom_9 (by decide) ?_
  refine lv_bipush (v := 40) F.1 F.2.1 dX0_copyFrom_10 (by decide) ?_
  refine x_copyi F hw (List.mem_of_getElem? (i := 2) rfl) (List.mem_of_getElem? (i := 3) rfl) (List.mem_of_getElem? (i := 4) rfl) (List.mem_of_getElem? (i := 5) rfl) 9 1 0 rfl rfl rfl rfl (sp := 0) (dp := 0) (n := 40) rfl rfl rfl (by omega) (by omega) (by decide) (by decide) hl.1 (Nat.le_of_ble_eq_true rfl) (Nat.le_of_ble_eq_true rfl) dX0_copyFrom_12 (fun H locs hw => ?_)
  have hw : xW G (xK cI cJ cZ cO) _ s.heap s [(aH A, .inr (0, [.ref (aO A), .ref (aN A), .ref (aC A), .ref (aK A), .ref (aT A), .ref (aG A), .ref (aF A), .int (nI (lSz u))])), (aO A, .inl (cI, 40, .inl (va_cpy (lO v) (lO u) 0 0 40))), (aN A, .inl (cI, 40, .inl (lNu u))), (aC A, .inl (cI, 40, .inl (lCk u))), (aK A, .inl (cJ, 40, .inr (.inl (lKe u)))), (aT A, .inl (cJ, 40, .inr (.inl (lTi u)))), (aG A, .inl (cJ, 40, .inr (.inl (lGa u)))), (aF A, .inl (cI, 40, .inl (lOf u))), (aH B, .inr (0, [.ref (aO B), .ref (aN B), .ref (aC B), .ref (aK B), .ref (aT B), .ref (aG B), .ref (aF B), .int (nI (lSz v))])), (aO B, .inl (cI, 40, .inl (lO v))), (aN B, .inl (cI, 40, .inl (lNu v))), (aC B, .inl (cI, 40, .inl (lCk v))), (aK B, .inl (cJ, 40, .inr (.inl (lKe v)))), (aT B, .inl (cJ, 40, .inr (.inl (lTi v)))), (aG B, .inl (cJ, 40, .inr (.inl (lGa v)))), (aF B, .inl (cI, 40, .inl (lOf v)))] H _ := hw
  refine lv_aload_n F.1 F.2.1 dX0_copyFrom_15 rfl (lv_at hl 1 rfl) ?_
  refine x_get F hw iX0 8 rfl rfl 1 (by decide) rfl (List.mem_of_getElem? (i := 6) rfl) rfl dX0_copyFrom_16 ?_
  refine lv_iconst (v := 0) F.1 F.2.1 dX0_copyFrom_19 (by decide) ?_
  refine lv_aload_n F.1 F.2.1 dX0_copyFrom_20 rfl (lv_at hl 0 rfl) ?_
  refine x_get F hw iX0 0 rfl rfl 1 (by decide) rfl (List.mem_of_getElem? (i := 6) rfl) rfl dX0_copyFrom_21 ?_
  refine lv_iconst (v := 0) F.1 F.2.1 dX0_copyFrom_24 (by decide) ?_
  refine lv_bipush (v := 40) F.1 F.2.1 dX0_copyFrom_25 (by decide) ?_
  refine x_copyi F hw (List.mem_of_getElem? (i := 2) rfl) (List.mem_of_getElem? (i := 3) rfl) (List.mem_of_getElem? (i := 4) rfl) (List.mem_of_getElem? (i := 5) rfl) 10 2 0 rfl rfl rfl rfl (sp := 0) (dp := 0) (n := 40) rfl rfl rfl (by omega) (by omega) (by decide) (by decide) hl.1 (Nat.le_of_ble_eq_true rfl) (Nat.le_of_ble_eq_true rfl) dX0_copyFrom_27 (fun H locs hw => ?_)
  have hw : xW G (xK cI cJ cZ cO) _ s.heap s [(aH A, .inr (0, [.ref (aO A), .ref (aN A), .ref (aC A), .ref (aK A), .ref (aT A), .ref (aG A), .ref (aF A), .int (nI (lSz u))])), (aO A, .inl (cI, 40, .inl (va_cpy (lO v) (lO u) 0 0 40))), (aN A, .inl (cI, 40, .inl (va_cpy (lNu v) (lNu u) 0 0 40))), (aC A, .inl (cI, 40, .inl (lCk u))), (aK A, .inl (cJ, 40, .inr (.inl (lKe u)))), (aT A, .inl (cJ, 40, .inr (.inl (lTi u)))), (aG A, .inl (cJ, 40, .inr (.inl (lGa u)))), (aF A, .inl (cI, 40, .inl (lOf u))), (aH B, .inr (0, [.ref (aO B), .ref (aN B), .ref (aC B), .ref (aK B), .ref (aT B), .ref (aG B), .ref (aF B), .int (nI (lSz v))])), (aO B, .inl (cI, 40, .inl (lO v))), (aN B, .inl (cI, 40, .inl (lNu v))), (aC B, .inl (cI, 40, .inl (lCk v))), (aK B, .inl (cJ, 40, .inr (.inl (lKe v)))), (aT B, .inl (cJ, 40, .inr (.inl (lTi v)))), (aG B, .inl (cJ, 40, .inr (.inl (lGa v)))), (aF B, .inl (cI, 40, .inl (lOf v)))] H _ := hw
  refine lv_aload_n F.1 F.2.1 dX0_copyFrom_30 rfl (lv_at hl 1 rfl) ?_
  refine x_get F hw iX0 8 rfl rfl 2 (by decide) rfl (List.mem_of_getElem? (i := 7) rfl) rfl dX0_copyFrom_31 ?_
  refine lv_iconst (v := 0) F.1 F.2.1 dX0_copyFrom_34 (by decide) ?_
  refine lv_aload_n F.1 F.2.1 dX0_copyFrom_35 rfl (lv_at hl 0 rfl) ?_
  refine x_get F hw iX0 0 rfl rfl 2 (by decide) rfl (List.mem_of_getElem? (i := 7) rfl) rfl dX0_copyFrom_36 ?_
  refine lv_iconst (v := 0) F.1 F.2.1 dX0_copyFrom_39 (by decide) ?_
  refine lv_bipush (v := 40) F.1 F.2.1 dX0_copyFrom_40 (by decide) ?_
  refine x_copyi F hw (List.mem_of_getElem? (i := 2) rfl) (List.mem_of_getElem? (i := 3) rfl) (List.mem_of_getElem? (i := 4) rfl) (List.mem_of_getElem? (i := 5) rfl) 11 3 0 rfl rfl rfl rfl (sp := 0) (dp := 0) (n := 40) rfl rfl rfl (by omega) (by omega) (by decide) (by decide) hl.1 (Nat.le_of_ble_eq_true rfl) (Nat.le_of_ble_eq_true rfl) dX0_copyFrom_42 (fun H locs hw => ?_)
  have hw : xW G (xK cI cJ cZ cO) _ s.heap s [(aH A, .inr (0, [.ref (aO A), .ref (aN A), .ref (aC A), .ref (aK A), .ref (aT A), .ref (aG A), .ref (aF A), .int (nI (lSz u))])), (aO A, .inl (cI, 40, .inl (va_cpy (lO v) (lO u) 0 0 40))), (aN A, .inl (cI, 40, .inl (va_cpy (lNu v) (lNu u) 0 0 40))), (aC A, .inl (cI, 40, .inl (va_cpy (lCk v) (lCk u) 0 0 40))), (aK A, .inl (cJ, 40, .inr (.inl (lKe u)))), (aT A, .inl (cJ, 40, .inr (.inl (lTi u)))), (aG A, .inl (cJ, 40, .inr (.inl (lGa u)))), (aF A, .inl (cI, 40, .inl (lOf u))), (aH B, .inr (0, [.ref (aO B), .ref (aN B), .ref (aC B), .ref (aK B), .ref (aT B), .ref (aG B), .ref (aF B), .int (nI (lSz v))])), (aO B, .inl (cI, 40, .inl (lO v))), (aN B, .inl (cI, 40, .inl (lNu v))), (aC B, .inl (cI, 40, .inl (lCk v))), (aK B, .inl (cJ, 40, .inr (.inl (lKe v)))), (aT B, .inl (cJ, 40, .inr (.inl (lTi v)))), (aG B, .inl (cJ, 40, .inr (.inl (lGa v)))), (aF B, .inl (cI, 40, .inl (lOf v)))] H _ := hw
  refine lv_aload_n F.1 F.2.1 dX0_copyFrom_45 rfl (lv_at hl 1 rfl) ?_
  refine x_get F hw iX0 8 rfl rfl 3 (by decide) rfl (List.mem_of_getElem? (i := 8) rfl) rfl dX0_copyFrom_46 ?_
  refine lv_iconst (v := 0) F.1 F.2.1 dX0_copyFrom_49 (by decide) ?_
  refine lv_aload_n F.1 F.2.1 dX0_copyFrom_50 rfl (lv_at hl 0 rfl) ?_
  refine x_get F hw iX0 0 rfl rfl 3 (by decide) rfl (List.mem_of_getElem? (i := 8) rfl) rfl dX0_copyFrom_51 ?_
  refine lv_iconst (v := 0) F.1 F.2.1 dX0_copyFrom_54 (by decide) ?_
  refine lv_bipush (v := 40) F.1 F.2.1 dX0_copyFrom_55 (by decide) ?_
  refine x_copyl F hw (List.mem_of_getElem? (i := 2) rfl) (List.mem_of_getElem? (i := 3) rfl) (List.mem_of_getElem? (i := 4) rfl) (List.mem_of_getElem? (i := 5) rfl) 12 4 1 rfl rfl rfl rfl (sp := 0) (dp := 0) (n := 40) rfl rfl rfl (by omega) (by omega) (by decide) (by decide) hl.1 (Nat.le_of_ble_eq_true rfl) (Nat.le_of_ble_eq_true rfl) dX0_copyFrom_57 (fun H locs hw => ?_)
  have hw : xW G (xK cI cJ cZ cO) _ s.heap s [(aH A, .inr (0, [.ref (aO A), .ref (aN A), .ref (aC A), .ref (aK A), .ref (aT A), .ref (aG A), .ref (aF A), .int (nI (lSz u))])), (aO A, .inl (cI, 40, .inl (va_cpy (lO v) (lO u) 0 0 40))), (aN A, .inl (cI, 40, .inl (va_cpy (lNu v) (lNu u) 0 0 40))), (aC A, .inl (cI, 40, .inl (va_cpy (lCk v) (lCk u) 0 0 40))), (aK A, .inl (cJ, 40, .inr (.inl (va_cpy (lKe v) (lKe u) 0 0 40)))), (aT A, .inl (cJ, 40, .inr (.inl (lTi u)))), (aG A, .inl (cJ, 40, .inr (.inl (lGa u)))), (aF A, .inl (cI, 40, .inl (lOf u))), (aH B, .inr (0, [.ref (aO B), .ref (aN B), .ref (aC B), .ref (aK B), .ref (aT B), .ref (aG B), .ref (aF B), .int (nI (lSz v))])), (aO B, .inl (cI, 40, .inl (lO v))), (aN B, .inl (cI, 40, .inl (lNu v))), (aC B, .inl (cI, 40, .inl (lCk v))), (aK B, .inl (cJ, 40, .inr (.inl (lKe v)))), (aT B, .inl (cJ, 40, .inr (.inl (lTi v)))), (aG B, .inl (cJ, 40, .inr (.inl (lGa v)))), (aF B, .inl (cI, 40, .inl (lOf v)))] H _ := hw
  refine lv_aload_n F.1 F.2.1 dX0_copyFrom_60 rfl (lv_at hl 1 rfl) ?_
  refine x_get F hw iX0 8 rfl rfl 4 (by decide) rfl (List.mem_of_getElem? (i := 9) rfl) rfl dX0_copyFrom_61 ?_
  refine lv_iconst (v := 0) F.1 F.2.1 dX0_copyFrom_64 (by decide) ?_
  refine lv_aload_n F.1 F.2.1 dX0_copyFrom_65 rfl (lv_at hl 0 rfl) ?_
  refine x_get F hw iX0 0 rfl rfl 4 (by decide) rfl (List.mem_of_getElem? (i := 9) rfl) rfl dX0_copyFrom_66 ?_
  refine lv_iconst (v := 0) F.1 F.2.1 dX0_copyFrom_69 (by decide) ?_
  refine lv_bipush (v := 40) F.1 F.2.1 dX0_copyFrom_70 (by decide) ?_
  refine x_copyl F hw (List.mem_of_getElem? (i := 2) rfl) (List.mem_of_getElem? (i := 3) rfl) (List.mem_of_getElem? (i := 4) rfl) (List.mem_of_getElem? (i := 5) rfl) 13 5 1 rfl rfl rfl rfl (sp := 0) (dp := 0) (n := 40) rfl rfl rfl (by omega) (by omega) (by decide) (by decide) hl.1 (Nat.le_of_ble_eq_true rfl) (Nat.le_of_ble_eq_true rfl) dX0_copyFrom_72 (fun H locs hw => ?_)
  have hw : xW G (xK cI cJ cZ cO) _ s.heap s [(aH A, .inr (0, [.ref (aO A), .ref (aN A), .ref (aC A), .ref (aK A), .ref (aT A), .ref (aG A), .ref (aF A), .int (nI (lSz u))])), (aO A, .inl (cI, 40, .inl (va_cpy (lO v) (lO u) 0 0 40))), (aN A, .inl (cI, 40, .inl (va_cpy (lNu v) (lNu u) 0 0 40))), (aC A, .inl (cI, 40, .inl (va_cpy (lCk v) (lCk u) 0 0 40))), (aK A, .inl (cJ, 40, .inr (.inl (va_cpy (lKe v) (lKe u) 0 0 40)))), (aT A, .inl (cJ, 40, .inr (.inl (va_cpy (lTi v) (lTi u) 0 0 40)))), (aG A, .inl (cJ, 40, .inr (.inl (lGa u)))), (aF A, .inl (cI, 40, .inl (lOf u))), (aH B, .inr (0, [.ref (aO B), .ref (aN B), .ref (aC B), .ref (aK B), .ref (aT B), .ref (aG B), .ref (aF B), .int (nI (lSz v))])), (aO B, .inl (cI, 40, .inl (lO v))), (aN B, .inl (cI, 40, .inl (lNu v))), (aC B, .inl (cI, 40, .inl (lCk v))), (aK B, .inl (cJ, 40, .inr (.inl (lKe v)))), (aT B, .inl (cJ, 40, .inr (.inl (lTi v)))), (aG B, .inl (cJ, 40, .inr (.inl (lGa v)))), (aF B, .inl (cI, 40, .inl (lOf v)))] H _ := hw
  refine lv_aload_n F.1 F.2.1 dX0_copyFrom_75 rfl (lv_at hl 1 rfl) ?_
  refine x_get F hw iX0 8 rfl rfl 5 (by decide) rfl (List.mem_of_getElem? (i := 10) rfl) rfl dX0_copyFrom_76 ?_
  refine lv_iconst (v := 0) F.1 F.2.1 dX0_copyFrom_79 (by decide) ?_
  refine lv_aload_n F.1 F.2.1 dX0_copyFrom_80 rfl (lv_at hl 0 rfl) ?_
  refine x_get F hw iX0 0 rfl rfl 5 (by decide) rfl (List.mem_of_getElem? (i := 10) rfl) rfl dX0_copyFrom_81 ?_
  refine lv_iconst (v := 0) F.1 F.2.1 dX0_copyFrom_84 (by decide) ?_
  refine lv_bipush (v := 40) F.1 F.2.1 dX0_copyFrom_85 (by decide) ?_
  refine x_copyl F hw (List.mem_of_getElem? (i := 2) rfl) (List.mem_of_getElem? (i := 3) rfl) (List.mem_of_getElem? (i := 4) rfl) (List.mem_of_getElem? (i := 5) rfl) 14 6 1 rfl rfl rfl rfl (sp := 0) (dp := 0) (n := 40) rfl rfl rfl (by omega) (by omega) (by decide) (by decide) hl.1 (Nat.le_of_ble_eq_true rfl) (Nat.le_of_ble_eq_true rfl) dX0_copyFrom_87 (fun H locs hw => ?_)
  have hw : xW G (xK cI cJ cZ cO) _ s.heap s [(aH A, .inr (0, [.ref (aO A), .ref (aN A), .ref (aC A), .ref (aK A), .ref (aT A), .ref (aG A), .ref (aF A), .int (nI (lSz u))])), (aO A, .inl (cI, 40, .inl (va_cpy (lO v) (lO u) 0 0 40))), (aN A, .inl (cI, 40, .inl (va_cpy (lNu v) (lNu u) 0 0 40))), (aC A, .inl (cI, 40, .inl (va_cpy (lCk v) (lCk u) 0 0 40))), (aK A, .inl (cJ, 40, .inr (.inl (va_cpy (lKe v) (lKe u) 0 0 40)))), (aT A, .inl (cJ, 40, .inr (.inl (va_cpy (lTi v) (lTi u) 0 0 40)))), (aG A, .inl (cJ, 40, .inr (.inl (va_cpy (lGa v) (lGa u) 0 0 40)))), (aF A, .inl (cI, 40, .inl (lOf u))), (aH B, .inr (0, [.ref (aO B), .ref (aN B), .ref (aC B), .ref (aK B), .ref (aT B), .ref (aG B), .ref (aF B), .int (nI (lSz v))])), (aO B, .inl (cI, 40, .inl (lO v))), (aN B, .inl (cI, 40, .inl (lNu v))), (aC B, .inl (cI, 40, .inl (lCk v))), (aK B, .inl (cJ, 40, .inr (.inl (lKe v)))), (aT B, .inl (cJ, 40, .inr (.inl (lTi v)))), (aG B, .inl (cJ, 40, .inr (.inl (lGa v)))), (aF B, .inl (cI, 40, .inl (lOf v)))] H _ := hw
  refine lv_aload_n F.1 F.2.1 dX0_copyFrom_90 rfl (lv_at hl 1 rfl) ?_
  refine x_get F hw iX0 8 rfl rfl 6 (by decide) rfl (List.mem_of_getElem? (i := 11) rfl) rfl dX0_copyFrom_91 ?_
  refine lv_iconst (v := 0) F.1 F.2.1 dX0_copyFrom_94 (by decide) ?_
  refine lv_aload_n F.1 F.2.1 dX0_copyFrom_95 rfl (lv_at hl 0 rfl) ?_
  refine x_get F hw iX0 0 rfl rfl 6 (by decide) rfl (List.mem_of_getElem? (i := 11) rfl) rfl dX0_copyFrom_96 ?_
  refine lv_iconst (v := 0) F.1 F.2.1 dX0_copyFrom_99 (by decide) ?_
  refine lv_bipush (v := 40) F.1 F.2.1 dX0_copyFrom_100 (by decide) ?_
  refine x_copyi F hw (List.mem_of_getElem? (i := 2) rfl) (List.mem_of_getElem? (i := 3) rfl) (List.mem_of_getElem? (i := 4) rfl) (List.mem_of_getElem? (i := 5) rfl) 15 7 0 rfl rfl rfl rfl (sp := 0) (dp := 0) (n := 40) rfl rfl rfl (by omega) (by omega) (by decide) (by decide) hl.1 (Nat.le_of_ble_eq_true rfl) (Nat.le_of_ble_eq_true rfl) dX0_copyFrom_102 (fun H locs hw => ?_)
  have hw : xW G (xK cI cJ cZ cO) _ s.heap s [(aH A, .inr (0, [.ref (aO A), .ref (aN A), .ref (aC A), .ref (aK A), .ref (aT A), .ref (aG A), .ref (aF A), .int (nI (lSz u))])), (aO A, .inl (cI, 40, .inl (va_cpy (lO v) (lO u) 0 0 40))), (aN A, .inl (cI, 40, .inl (va_cpy (lNu v) (lNu u) 0 0 40))), (aC A, .inl (cI, 40, .inl (va_cpy (lCk v) (lCk u) 0 0 40))), (aK A, .inl (cJ, 40, .inr (.inl (va_cpy (lKe v) (lKe u) 0 0 40)))), (aT A, .inl (cJ, 40, .inr (.inl (va_cpy (lTi v) (lTi u) 0 0 40)))), (aG A, .inl (cJ, 40, .inr (.inl (va_cpy (lGa v) (lGa u) 0 0 40)))), (aF A, .inl (cI, 40, .inl (va_cpy (lOf v) (lOf u) 0 0 40))), (aH B, .inr (0, [.ref (aO B), .ref (aN B), .ref (aC B), .ref (aK B), .ref (aT B), .ref (aG B), .ref (aF B), .int (nI (lSz v))])), (aO B, .inl (cI, 40, .inl (lO v))), (aN B, .inl (cI, 40, .inl (lNu v))), (aC B, .inl (cI, 40, .inl (lCk v))), (aK B, .inl (cJ, 40, .inr (.inl (lKe v)))), (aT B, .inl (cJ, 40, .inr (.inl (lTi v)))), (aG B, .inl (cJ, 40, .inr (.inl (lGa v)))), (aF B, .inl (cI, 40, .inl (lOf v)))] H _ := hw
  refine lv_aload_n F.1 F.2.1 dX0_copyFrom_105 rfl (lv_at hl 0 rfl) ?_
  refine lv_aload_n F.1 F.2.1 dX0_copyFrom_106 rfl (lv_at hl 1 rfl) ?_
  refine x_get F hw iX0 8 rfl rfl 7 (by decide) rfl (List.mem_of_getElem? (i := 12) rfl) rfl dX0_copyFrom_107 ?_
  refine x_put F hw iX0 tyX0 tyX0_ok nmX0 0 rfl rfl 7 (by decide) rfl (List.mem_of_getElem? (i := 12) rfl) (rfl) (rfl) (Nat.le_of_ble_eq_true rfl) dX0_copyFrom_110 (fun H locs hw => ?_)
  have hw : xW G (xK cI cJ cZ cO) _ s.heap s [(aH A, .inr (0, [.ref (aO A), .ref (aN A), .ref (aC A), .ref (aK A), .ref (aT A), .ref (aG A), .ref (aF A), .int (nI (lSz v))])), (aO A, .inl (cI, 40, .inl (va_cpy (lO v) (lO u) 0 0 40))), (aN A, .inl (cI, 40, .inl (va_cpy (lNu v) (lNu u) 0 0 40))), (aC A, .inl (cI, 40, .inl (va_cpy (lCk v) (lCk u) 0 0 40))), (aK A, .inl (cJ, 40, .inr (.inl (va_cpy (lKe v) (lKe u) 0 0 40)))), (aT A, .inl (cJ, 40, .inr (.inl (va_cpy (lTi v) (lTi u) 0 0 40)))), (aG A, .inl (cJ, 40, .inr (.inl (va_cpy (lGa v) (lGa u) 0 0 40)))), (aF A, .inl (cI, 40, .inl (va_cpy (lOf v) (lOf u) 0 0 40))), (aH B, .inr (0, [.ref (aO B), .ref (aN B), .ref (aC B), .ref (aK B), .ref (aT B), .ref (aG B), .ref (aF B), .int (nI (lSz v))])), (aO B, .inl (cI, 40, .inl (lO v))), (aN B, .inl (cI, 40, .inl (lNu v))), (aC B, .inl (cI, 40, .inl (lCk v))), (aK B, .inl (cJ, 40, .inr (.inl (lKe v)))), (aT B, .inl (cJ, 40, .inr (.inl (lTi v)))), (aG B, .inl (cJ, 40, .inr (.inl (lGa v)))), (aF B, .inl (cI, 40, .inl (lOf v)))] H _ := hw
  exact x_vret (f := fun u9 : LnR => wLn cI cJ A u9 ++ wLn cI cJ B v) (lCopy u v) F hr hlk hw (rfl) dX0_copyFrom_113

set_option maxHeartbeats 8000000 in
set_option maxRecDepth 100000 in
/-- a new line -/
theorem c_X0_init (l : Launch) (G : va_G) (cI cJ cZ cO : ClassId) (sz : Nat) (h : Nat) : Met l yX0_init wsX0_init ({ frames := 1, cells := 7, slots := 280, locals := 12 }) (xPc G (xK cI cJ cZ cO) sz [.ref h] ([(h, .inr (0, [.null, .null, .null, .null, .null, .null, .null, .int 0]))])) (va_Qv (fun w2 => aH w2.1 = h ∧ LnOk w2.2 ∧ lSz w2.2 = 0) (xB G (xK cI cJ cZ cO) ([(h, .inr (0, [.null, .null, .null, .null, .null, .null, .null, .int 0]))]) sz (fun u9 : LnA × LnR => wLn cI cJ u9.1 u9.2)) (va_A ([(h, .inr (0, [.null, .null, .null, .null, .null, .null, .null, .int 0]))]) sz)) 7 280 (va_A ([(h, .inr (0, [.null, .null, .null, .null, .null, .null, .null, .int 0]))]) sz) := by
  refine x_body (by decide) rfl (Nat.le_of_ble_eq_true rfl) ?_
  intro p e s m below meth c F hr hlk hnm hsz hw ls hl
  subst hsz
  have F : CallFix p m c cX0_init 2 s _ wsX0_init RX0 := F
  have hl : lv_has ls 2 [(0, .ref h)] := hl
  have hw : xW G (xK cI cJ cZ cO) _ s.heap s [(h, .inr (0, [.null, .null, .null, .null, .null, .null, .null, .int 0]))] s.heap [] := hw
  have iX0 : ∀ w ∈ wsX00, w ∈ wsX0_init := by decide +kernel
  refine lv_aload_n F.1 F.2.1 dX0_init_0 rfl (lv_at hl 0 rfl) ?_
  refine W.objInit F.1 F.2.1 F.2.2.2.1 (F.2.2.2.2 _ (List.mem_of_getElem? (i := 1) rfl)) (F.2.2.2.2 _ (List.mem_of_getElem? (i := 2) rfl)) (F.2.2.2.2 _ (List.mem_of_getElem? (i := 3) rfl)) rfl (by rw [F.2.2.1]; exact hl.1) rfl dX0_init_1 (Nat.le_of_ble_eq_true rfl) (Nat.le_of_ble_eq_true rfl) ?_
  refine W.eq (g2 := F0 m 4 ls []) rfl ?_
  refine lv_aload_n F.1 F.2.1 dX0_init_4 rfl (lv_at hl 0 rfl) ?_
  refine lv_bipush (v := 40) F.1 F.2.1 dX0_init_5 (by decide) ?_
  refine x_newa F hw (t := .int) (a0 := (40, .inl (fun _ => 0))) (List.mem_of_getElem? (i := 4) rfl) rfl 0 rfl (fun _ => rfl) (by decide) (by decide) (by decide) (Nat.le_of_ble_eq_true rfl) (Nat.le_of_ble_eq_true rfl) dX0_init_7 (fun q1 H hw => ?_)
  have hw : xW G (xK cI cJ cZ cO) _ s.heap s [(h, .inr (0, [.null, .null, .null, .null, .null, .null, .null, .int 0])), (q1, .inl (cI, 40, .inl (fun _ => 0)))] H _ := hw
  refine x_putF F hw hnm iX0 tyX0 tyX0_ok nmX0 0 rfl rfl 0 (by decide) rfl (List.mem_of_getElem? (i := 5) rfl) (rfl) (rfl) (Nat.le_of_ble_eq_true rfl) dX0_init_9 (fun H locs hw => ?_)
  have hw : xW G (xK cI cJ cZ cO) _ s.heap s [(h, .inr (0, [.ref q1, .null, .null, .null, .null, .null, .null, .int 0])), (q1, .inl (cI, 40, .inl (fun _ => 0)))] H _ := hw
  refine lv_aload_n F.1 F.2.1 dX0_init_12 rfl (lv_at hl 0 rfl) ?_
  refine lv_bipush (v := 40) F.1 F.2.1 dX0_init_13 (by decide) ?_
  refine x_newa F hw (t := .int) (a0 := (40, .inl (fun _ => 0))) (List.mem_of_getElem? (i := 4) rfl) rfl 0 rfl (fun _ => rfl) (by decide) (by decide) (by decide) (Nat.le_of_ble_eq_true rfl) (Nat.le_of_ble_eq_true rfl) dX0_init_15 (fun q2 H hw => ?_)
  have hw : xW G (xK cI cJ cZ cO) _ s.heap s [(h, .inr (0, [.ref q1, .null, .null, .null, .null, .null, .null, .int 0])), (q1, .inl (cI, 40, .inl (fun _ => 0))), (q2, .inl (cI, 40, .inl (fun _ => 0)))] H _ := hw
  refine x_putF F hw hnm iX0 tyX0 tyX0_ok nmX0 0 rfl rfl 1 (by decide) rfl (List.mem_of_getElem? (i := 6) rfl) (rfl) (rfl) (Nat.le_of_ble_eq_true rfl) dX0_init_17 (fun H locs hw => ?_)
  have hw : xW G (xK cI cJ cZ cO) _ s.heap s [(h, .inr (0, [.ref q1, .ref q2, .null, .null, .null, .null, .null, .int 0])), (q1, .inl (cI, 40, .inl (fun _ => 0))), (q2, .inl (cI, 40, .inl (fun _ => 0)))] H _ := hw
  refine lv_aload_n F.1 F.2.1 dX0_init_20 rfl (lv_at hl 0 rfl) ?_
  refine lv_bipush (v := 40) F.1 F.2.1 dX0_init_21 (by decide) ?_
  refine x_newa F hw (t := .int) (a0 := (40, .inl (fun _ => 0))) (List.mem_of_getElem? (i := 4) rfl) rfl 0 rfl (fun _ => rfl) (by decide) (by decide) (by decide) (Nat.le_of_ble_eq_true rfl) (Nat.le_of_ble_eq_true rfl) dX0_init_23 (fun q3 H hw => ?_)
  have hw : xW G (xK cI cJ cZ cO) _ s.heap s [(h, .inr (0, [.ref q1, .ref q2, .null, .null, .null, .null, .null, .int 0])), (q1, .inl (cI, 40, .inl (fun _ => 0))), (q2, .inl (cI, 40, .inl (fun _ => 0))), (q3, .inl (cI, 40, .inl (fun _ => 0)))] H _ := hw
  refine x_putF F hw hnm iX0 tyX0 tyX0_ok nmX0 0 rfl rfl 2 (by decide) rfl (List.mem_of_getElem? (i := 7) rfl) (rfl) (rfl) (Nat.le_of_ble_eq_true rfl) dX0_init_25 (fun H locs hw => ?_)
  have hw : xW G (xK cI cJ cZ cO) _ s.heap s [(h, .inr (0, [.ref q1, .ref q2, .ref q3, .null, .null, .null, .null, .int 0])), (q1, .inl (cI, 40, .inl (fun _ => 0))), (q2, .inl (cI, 40, .inl (fun _ => 0))), (q3, .inl (cI, 40, .inl (fun _ => 0)))] H _ := hw
  refine lv_aload_n F.1 F.2.1 dX0_init_28 rfl (lv_at hl 0 rfl) ?_
  refine lv_bipush (v := 40) F.1 F.2.1 dX0_init_29 (by decide) ?_
  refine x_newa F hw (t := .long) (a0 := (40, .inr (.inl (fun _ => 0)))) (List.mem_of_getElem? (i := 8) rfl) rfl 1 rfl (fun _ => rfl) (by decide) (by decide) (by decide) (Nat.le_of_ble_eq_true rfl) (Nat.le_of_ble_eq_true rfl) dX0_init_31 (fun q4 H hw => ?_)
  have hw : xW G (xK cI cJ cZ cO) _ s.heap s [(h, .inr (0, [.ref q1, .ref q2, .ref q3, .null, .null, .null, .null, .int 0])), (q1, .inl (cI, 40, .inl (fun _ => 0))), (q2, .inl (cI, 40, .inl (fun _ => 0))), (q3, .inl (cI, 40, .inl (fun _ => 0))), (q4, .inl (cJ, 40, .inr (.inl (fun _ => 0))))] H _ := hw
  refine x_putF F hw hnm iX0 tyX0 tyX0_ok nmX0 0 rfl rfl 3 (by decide) rfl (List.mem_of_getElem? (i := 9) rfl) (rfl) (rfl) (Nat.le_of_ble_eq_true rfl) dX0_init_33 (fun H locs hw => ?_)
  have hw : xW G (xK cI cJ cZ cO) _ s.heap s [(h, .inr (0, [.ref q1, .ref q2, .ref q3, .ref q4, .null, .null, .null, .int 0])), (q1, .inl (cI, 40, .inl (fun _ => 0))), (q2, .inl (cI, 40, .inl (fun _ => 0))), (q3, .inl (cI, 40, .inl (fun _ => 0))), (q4, .inl (cJ, 40, .inr (.inl (fun _ => 0))))] H _ := hw
  refine lv_aload_n F.1 F.2.1 dX0_init_36 rfl (lv_at hl 0 rfl) ?_
  refine lv_bipush (v := 40) F.1 F.2.1 dX0_init_37 (by decide) ?_
  refine x_newa F hw (t := .long) (a0 := (40, .inr (.inl (fun _ => 0)))) (List.mem_of_getElem? (i := 8) rfl) rfl 1 rfl (fun _ => rfl) (by decide) (by decide) (by decide) (Nat.le_of_ble_eq_true rfl) (Nat.le_of_ble_eq_true rfl) dX0_init_39 (fun q5 H hw => ?_)
  have hw : xW G (xK cI cJ cZ cO) _ s.heap s [(h, .inr (0, [.ref q1, .ref q2, .ref q3, .ref q4, .null, .null, .null, .int 0])), (q1, .inl (cI, 40, .inl (fun _ => 0))), (q2, .inl (cI, 40, .inl (fun _ => 0))), (q3, .inl (cI, 40, .inl (fun _ => 0))), (q4, .inl (cJ, 40, .inr (.inl (fun _ => 0)))), (q5, .inl (cJ, 40, .inr (.inl (fun _ => 0))))] H _ := hw
  refine x_putF F hw hnm iX0 tyX0 tyX0_ok nmX0 0 rfl rfl 4 (by decide) rfl (List.mem_of_getElem? (i := 10) rfl) (rfl) (rfl) (Nat.le_of_ble_eq_true rfl) dX0_init_41 (fun H locs hw => ?_)
  have hw : xW G (xK cI cJ cZ cO) _ s.heap s [(h, .inr (0, [.ref q1, .ref q2, .ref q3, .ref q4, .ref q5, .null, .null, .int 0])), (q1, .inl (cI, 40, .inl (fun _ => 0))), (q2, .inl (cI, 40, .inl (fun _ => 0))), (q3, .inl (cI, 40, .inl (fun _ => 0))), (q4, .inl (cJ, 40, .inr (.inl (fun _ => 0)))), (q5, .inl (cJ, 40, .inr (.inl (fun _ => 0))))] H _ := hw
  refine lv_aload_n F.1 F.2.1 dX0_init_44 rfl (lv_at hl 0 rfl) ?_
  refine lv_bipush (v := 40) F.1 F.2.1 dX0_init_45 (by decide) ?_
  refine x_newa F hw (t := .long) (a0 := (40, .inr (.inl (fun _ => 0)))) (List.mem_of_getElem? (i := 8) rfl) rfl 1 rfl (fun _ => rfl) (by decide) (by decide) (by decide) (Nat.le_of_ble_eq_true rfl) (Nat.le_of_ble_eq_true rfl) dX0_init_47 (fun q6 H hw => ?_)
  have hw : xW G (xK cI cJ cZ cO) _ s.heap s [(h, .inr (0, [.ref q1, .ref q2, .ref q3, .ref q4, .ref q5, .null, .null, .int 0])), (q1, .inl (cI, 40, .inl (fun _ => 0))), (q2, .inl (cI, 40, .inl (fun _ => 0))), (q3, .inl (cI, 40, .inl (fun _ => 0))), (q4, .inl (cJ, 40, .inr (.inl (fun _ => 0)))), (q5, .inl (cJ, 40, .inr (.inl (fun _ => 0)))), (q6, .inl (cJ, 40, .inr (.inl (fun _ => 0))))] H _ := hw
  refine x_putF F hw hnm iX0 tyX0 tyX0_ok nmX0 0 rfl rfl 5 (by decide) rfl (List.mem_of_getElem? (i := 11) rfl) (rfl) (rfl) (Nat.le_of_ble_eq_true rfl) dX0_init_49 (fun H locs hw => ?_)
  have hw : xW G (xK cI cJ cZ cO) _ s.heap s [(h, .inr (0, [.ref q1, .ref q2, .ref q3, .ref q4, .ref q5, .ref q6, .null, .int 0])), (q1, .inl (cI, 40, .inl (fun _ => 0))), (q2, .inl (cI, 40, .inl (fun _ => 0))), (q3, .inl (cI, 40, .inl (fun _ => 0))), (q4, .inl (cJ, 40, .inr (.inl (fun _ => 0)))), (q5, .inl (cJ, 40, .inr (.inl (fun _ => 0)))), (q6, .inl (cJ, 40, .inr (.inl (fun _ => 0))))] H _ := hw
  refine lv_aload_n F.1 F.2.1 dX0_init_52 rfl (lv_at hl 0 rfl) ?_
  refine lv_bipush (v := 40) F.1 F.2.1 dX0_init_53 (by decide) ?_
  refine x_newa F hw (t := .int) (a0 := (40, .inl (fun _ => 0))) (List.mem_of_getElem? (i := 4) rfl) rfl 0 rfl (fun _ => rfl) (by decide) (by decide) (by decide) (Nat.le_of_ble_eq_true rfl) (Nat.le_of_ble_eq_true rfl) dX0_init_55 (fun q7 H hw => ?_)
  have hw : xW G (xK cI cJ cZ cO) _ s.heap s [(h, .inr (0, [.ref q1, .ref q2, .ref q3, .ref q4, .ref q5, .ref q6, .null, .int 0])), (q1, .inl (cI, 40, .inl (fun _ => 0))), (q2, .inl (cI, 40, .inl (fun _ => 0))), (q3, .inl (cI, 40, .inl (fun _ => 0))), (q4, .inl (cJ, 40, .inr (.inl (fun _ => 0)))), (q5, .inl (cJ, 40, .inr (.inl (fun _ => 0)))), (q6, .inl (cJ, 40, .inr (.inl (fun _ => 0)))), (q7, .inl (cI, 40, .inl (fun _ => 0)))] H _ := hw
  refine x_putF F hw hnm iX0 tyX0 tyX0_ok nmX0 0 rfl rfl 6 (by decide) rfl (List.mem_of_getElem? (i := 12) rfl) (rfl) (rfl) (Nat.le_of_ble_eq_true rfl) dX0_init_57 (fun H locs hw => ?_)
  have hw : xW G (xK cI cJ cZ cO) _ s.heap s [(h, .inr (0, [.ref q1, .ref q2, .ref q3, .ref q4, .ref q5, .ref q6, .ref q7, .int 0])), (q1, .inl (cI, 40, .inl (fun _ => 0))), (q2, .inl (cI, 40, .inl (fun _ => 0))), (q3, .inl (cI, 40, .inl (fun _ => 0))), (q4, .inl (cJ, 40, .inr (.inl (fun _ => 0)))), (q5, .inl (cJ, 40, .inr (.inl (fun _ => 0)))), (q6, .inl (cJ, 40, .inr (.inl (fun _ => 0)))), (q7, .inl (cI, 40, .inl (fun _ => 0)))] H _ := hw
  refine lv_iconst (v := 0) F.1 F.2.1 dX0_init_60 (by decide) ?_
  refine lv_istore_n (lv' := [(1, .int 0), (0, .ref h)]) F.1 F.2.1 dX0_init_61 rfl hl (by decide) rfl (fun ls hl => ?_)
  refine x_rec (α := Nat × (Nat → Int32)) (fun a9 => 40 - a9.1) (fun a9 H locs ls => lv_has ls 2 [(0, .ref h), (1, .int (nI a9.1))] ∧ xW G (xK cI cJ cZ cO) _ s.heap s [(h, .inr (0, [.ref q1, .ref q2, .ref q3, .ref q4, .ref q5, .ref q6, .ref q7, .int 0])), (q1, .inl (cI, 40, .inl a9.2)), (q2, .inl (cI, 40, .inl (fun _ => 0))), (q3, .inl (cI, 40, .inl (fun _ => 0))), (q4, .inl (cJ, 40, .inr (.inl (fun _ => 0)))), (q5, .inl (cJ, 40, .inr (.inl (fun _ => 0)))), (q6, .inl (cJ, 40, .inr (.inl (fun _ => 0)))), (q7, .inl (cI, 40, .inl (fun _ => 0)))] H locs ∧ a9.1 ≤ 40 ∧ ∀ j, j < a9.1 → a9.2 j = nI j) ?_ ((0, fun _ => 0)) ⟨lv_sub hl [1, 0] rfl, hw, Nat.zero_le _, x_upto0⟩
  rintro ⟨i, f⟩ H locs ls ⟨hl, hw, hi, hf⟩ ih
  try dsimp only at hi hf
  have hl : lv_has ls 2 [(0, .ref h), (1, .int (nI i))] := hl
  have hw : xW G (xK cI cJ cZ cO) _ s.heap s [(h, .inr (0, [.ref q1, .ref q2, .ref q3, .ref q4, .ref q5, .ref q6, .ref q7, .int 0])), (q1, .inl (cI, 40, .inl f)), (q2, .inl (cI, 40, .inl (fun _ => 0))), (q3, .inl (cI, 40, .inl (fun _ => 0))), (q4, .inl (cJ, 40, .inr (.inl (fun _ => 0)))), (q5, .inl (cJ, 40, .inr (.inl (fun _ => 0)))), (q6, .inl (cJ, 40, .inr (.inl (fun _ => 0)))), (q7, .inl (cI, 40, .inl (fun _ => 0)))] H _ := hw
  refine lv_iload_n F.1 F.2.1 dX0_init_62 rfl (lv_at hl 1 rfl) ?_
  refine lv_bipush (v := 40) F.1 F.2.1 dX0_init_63 (by decide) ?_
  refine lv_icmp_ge (tgt := 81) F.1 F.2.1 dX0_init_65 (by decide) (fun c65 => ?_) (fun c65 => ?_)
  · have h9 := x_le (a := 40) (by omega) (by omega) c65
    refine lv_aload_n F.1 F.2.1 dX0_init_81 rfl (lv_at hl 0 rfl) ?_
    refine lv_iconst (v := 0) F.1 F.2.1 dX0_init_82 (by decide) ?_
    refine x_put F hw iX0 tyX0 tyX0_ok nmX0 0 rfl rfl 7 (by decide) rfl (List.mem_of_getElem? (i := 13) rfl) (rfl) (rfl) (Nat.le_of_ble_eq_true rfl) dX0_init_83 (fun H locs hw => ?_)
    have hw : xW G (xK cI cJ cZ cO) _ s.heap s [(h, .inr (0, [.ref q1, .ref q2, .ref q3, .ref q4, .ref q5, .ref q6, .ref q7, .int 0])), (q1, .inl (cI, 40, .inl f)), (q2, .inl (cI, 40, .inl (fun _ => 0))), (q3, .inl (cI, 40, .inl (fun _ => 0))), (q4, .inl (cJ, 40, .inr (.inl (fun _ => 0)))), (q5, .inl (cJ, 40, .inr (.inl (fun _ => 0)))), (q6, .inl (cJ, 40, .inr (.inl (fun _ => 0)))), (q7, .inl (cI, 40, .inl (fun _ => 0)))] H _ := hw
    refine W.widen (k := 7) (n := 280) (by omega) (by omega) ?_
    exact x_vret (f := fun u9 : LnA × LnR => wLn cI cJ u9.1 u9.2) ((h, q1, q2, q3, q4, q5, q6, q7), (f, fun _ => 0, fun _ => 0, fun _ => 0, fun _ => 0, fun _ => 0, fun _ => 0, 0)) F hr hlk hw (⟨rfl, ⟨Nat.zero_le _, fun j hj => by show vp_in (f j) 40; rw [hf j (by omega)]; exact vp_in_nI hj (by decide), fun j k hj hk e => by have e2 : f j = f k := e; rw [hf j (by omega), hf k (by omega)] at e2; exact (nI_eq (by omega) (by omega)).mp e2⟩, rfl⟩) dX0_init_86
  · have hlt : i < 40 := x_nle (a := 40) (by omega) (by omega) c65
    refine lv_aload_n F.1 F.2.1 dX0_init_68 rfl (lv_at hl 0 rfl) ?_
    refine x_get F hw iX0 0 rfl rfl 0 (by decide) rfl (List.mem_of_getElem? (i := 5) rfl) rfl dX0_init_69 ?_
    refine lv_iload_n F.1 F.2.1 dX0_init_72 rfl (lv_at hl 1 rfl) ?_
    refine lv_iload_n F.1 F.2.1 dX0_init_73 rfl (lv_at hl 1 rfl) ?_
    refine x_iastN F hw 1 0 rfl rfl i rfl (by omega) (by decide) dX0_init_74 (fun H locs hw => ?_)
    have hw : xW G (xK cI cJ cZ cO) _ s.heap s [(h, .inr (0, [.ref q1, .ref q2, .ref q3, .ref q4, .ref q5, .ref q6, .ref q7, .int 0])), (q1, .inl (cI, 40, .inl (upd f i (nI i)))), (q2, .inl (cI, 40, .inl (fun _ => 0))), (q3, .inl (cI, 40, .inl (fun _ => 0))), (q4, .inl (cJ, 40, .inr (.inl (fun _ => 0)))), (q5, .inl (cJ, 40, .inr (.inl (fun _ => 0)))), (q6, .inl (cJ, 40, .inr (.inl (fun _ => 0)))), (q7, .inl (cI, 40, .inl (fun _ => 0)))] H _ := hw
    refine lv_iinc (v := nI (i + 1)) (lv' := [(1, .int (nI (i + 1))), (0, .ref h)]) F.1 F.2.1 dX0_init_75 hl (k := 1) rfl (by rw [show Int32.ofInt 1 = 1 from rfl]; exact nI_1 _) (by decide) rfl (fun ls hl => ?_)
    refine lv_goto (tgt := 62) F.1 F.2.1 dX0_init_78 (by decide) ?_
    exact ih ((i + 1, upd f i (nI i))) _ _ _ (by simp only []; omega) ⟨lv_sub hl [1, 0] rfl, hw, by omega, x_upto (fun j hj => (pk_un (by omega)).trans (hf j hj)) pk_us⟩
