set_option maxHeartbeats 8000000 in
set_option maxRecDepth 100000 in
/-- add(kind, line, place) -/
theorem c_X1_add (l : Launch) (G : va_G) (cI cJ cZ cO : ClassId) (sz : Nat) (h : Nat) (g : LgR) (A : LnA) (u : LnR) (x : Int32) (p9 : Nat) (hL0 : 0 < gL g) (hL : gN g = gL g → gL g ≤ 2000) (hL4 : gL g ≤ 4000) (hn : gN g ≤ gL g) (hok : LnOk u) (hp : p9 < 40) : Met l yX1_add wsX1_add ({ frames := 3, cells := if gN g < gL g then 0 else 5, slots := if gN g < gL g then 0 else 10 * gL g, locals := 83 }) (xPc G (xK cI cJ cZ cO) sz [.ref h, .int x, .ref (aH A), .int (nI p9)] (wLg cI cJ h g ++ wLn cI cJ A u)) (va_Qv (fun u2 => gL u2 = (if gN g < gL g then gL g else 2 * gL g) ∧ gN u2 = gN g + 1 ∧ lgAt u2 (gN g) = lgE x (lAt u p9) ∧ ∀ i, i < gN g → lgAt u2 i = lgAt g i) (xB G (xK cI cJ cZ cO) (wLg cI cJ h g ++ wLn cI cJ A u) sz (fun u9 : LgR => wLg cI cJ h u9 ++ wLn cI cJ A u)) (va_A (wLg cI cJ h g ++ wLn cI cJ A u) sz)) (if gN g < gL g then 0 else 5) (if gN g < gL g then 0 else 10 * gL g) (va_A (wLg cI cJ h g ++ wLn cI cJ A u) sz) := by
  refine x_body (by decide) rfl (Nat.le_of_ble_eq_true rfl) ?_
  intro p e s m below meth c F hr hlk hnm hsz hw ls hl
  subst hsz
  have F : CallFix p m c cX1_add 5 s _ wsX1_add RX1 := F
  have hl : lv_has ls 5 [(0, .ref h), (1, .int x), (2, .ref (aH A)), (3, .int (nI p9))] := hl
  have hw : xW G (xK cI cJ cZ cO) _ s.heap s [(h, .inr (1, [.ref (g1 g), .ref (g2 g), .ref (g3 g), .ref (g4 g), .ref (g5 g), .int (nI (gN g))])), (g1 g, .inl (cI, gL g, .inl (gKi g))), (g2 g, .inl (cI, gL g, .inl (gNu g))), (g3 g, .inl (cJ, gL g, .inr (.inl (gKe g)))), (g4 g, .inl (cJ, gL g, .inr (.inl (gTi g)))), (g5 g, .inl (cI, gL g, .inl (gOf g))), (aH A, .inr (0, [.ref (aO A), .ref (aN A), .ref (aC A), .ref (aK A), .ref (aT A), .ref (aG A), .ref (aF A), .int (nI (lSz u))])), (aO A, .inl (cI, 40, .inl (lO u))), (aN A, .inl (cI, 40, .inl (lNu u))), (aC A, .inl (cI, 40, .inl (lCk u))), (aK A, .inl (cJ, 40, .inr (.inl (lKe u)))), (aT A, .inl (cJ, 40, .inr (.inl (lTi u)))), (aG A, .inl (cJ, 40, .inr (.inl (lGa u)))), (aF A, .inl (cI, 40, .inl (lOf u)))] s.heap [] := hw
  have iX0 : ∀ w ∈ wsX00, w ∈ wsX1_add := by decide +kernel
  have iX1 : ∀ w ∈ wsX10, w ∈ wsX1_add := by decide +kernel
  refine lv_aload_n F.1 F.2.1 dX1_add_0 rfl (lv_at hl 0 rfl) ?_
  refine x_get F hw iX1 0 rfl rfl 5 (by decide) rfl (List.mem_of_getElem? (i := 1) rfl) rfl dX1_add_1 ?_
  refine lv_aload_n F.1 F.2.1 dX1_add_4 rfl (lv_at hl 0 rfl) ?_
  refine x_get F hw iX1 0 rfl rfl 0 (by decide) rfl (List.mem_of_getElem? (i := 2) rfl) rfl dX1_add_5 ?_
  refine x_alen F hw 1 0 rfl rfl dX1_add_8 ?_
  refine lv_icmp_lt (tgt := 16) F.1 F.2.1 dX1_add_9 (by decide) (fun c9 => ?_) (fun c9 => ?_)
  · have c9p : gN g < gL g := x_lt (by omega) (by omega) c9
    have hng : gN g < gL g := c9p
    refine lv_aload_n F.1 F.2.1 dX1_add_16 rfl (lv_at hl 2 rfl) ?_
    refine x_get F hw iX0 6 rfl rfl 0 (by decide) rfl (List.mem_of_getElem? (i := 3) rfl) rfl dX1_add_17 ?_
    refine lv_iload_n F.1 F.2.1 dX1_add_20 rfl (lv_at hl 3 rfl) ?_
    refine x_ialdN F hw 7 0 rfl rfl p9 rfl (by omega) (by decide) dX1_add_21 ?_
    refine lv_istore (lv' := [(4, .int (lO u p9)), (0, .ref h), (1, .int x), (2, .ref (aH A)), (3, .int (nI p9))]) F.1 F.2.1 dX1_add_22 hl (by decide) rfl (fun ls hl => ?_)
    refine lv_aload_n F.1 F.2.1 dX1_add_24 rfl (lv_at hl 1 rfl) ?_
    refine x_get F hw iX1 0 rfl rfl 0 (by decide) rfl (List.mem_of_getElem? (i := 2) rfl) rfl dX1_add_25 ?_
    refine lv_aload_n F.1 F.2.1 dX1_add_28 rfl (lv_at hl 1 rfl) ?_
    refine x_get F hw iX1 0 rfl rfl 5 (by decide) rfl (List.mem_of_getElem? (i := 1) rfl) rfl dX1_add_29 ?_
    refine lv_iload_n F.1 F.2.1 dX1_add_32 rfl (lv_at hl 2 rfl) ?_
    refine x_iastN F hw 1 0 rfl rfl (gN g) rfl (by omega) (by omega) dX1_add_33 (fun H locs hw => ?_)
    have hw : xW G (xK cI cJ cZ cO) _ s.heap s [(h, .inr (1, [.ref (g1 g), .ref (g2 g), .ref (g3 g), .ref (g4 g), .ref (g5 g), .int (nI (gN g))])), (g1 g, .inl (cI, gL g, .inl (upd (gKi g) (gN g) x))), (g2 g, .inl (cI, gL g, .inl (gNu g))), (g3 g, .inl (cJ, gL g, .inr (.inl (gKe g)))), (g4 g, .inl (cJ, gL g, .inr (.inl (gTi g)))), (g5 g, .inl (cI, gL g, .inl (gOf g))), (aH A, .inr (0, [.ref (aO A), .ref (aN A), .ref (aC A), .ref (aK A), .ref (aT A), .ref (aG A), .ref (aF A), .int (nI (lSz u))])), (aO A, .inl (cI, 40, .inl (lO u))), (aN A, .inl (cI, 40, .inl (lNu u))), (aC A, .inl (cI, 40, .inl (lCk u))), (aK A, .inl (cJ, 40, .inr (.inl (lKe u)))), (aT A, .inl (cJ, 40, .inr (.inl (lTi u)))), (aG A, .inl (cJ, 40, .inr (.inl (lGa u)))), (aF A, .inl (cI, 40, .inl (lOf u)))] H _ := hw
    refine lv_aload_n F.1 F.2.1 dX1_add_34 rfl (lv_at hl 1 rfl) ?_
    refine x_get F hw iX1 0 rfl rfl 1 (by decide) rfl (List.mem_of_getElem? (i := 4) rfl) rfl dX1_add_35 ?_
    refine lv_aload_n F.1 F.2.1 dX1_add_38 rfl (lv_at hl 1 rfl) ?_
    refine x_get F hw iX1 0 rfl rfl 5 (by decide) rfl (List.mem_of_getElem? (i := 1) rfl) rfl dX1_add_39 ?_
    refine lv_aload_n F.1 F.2.1 dX1_add_42 rfl (lv_at hl 3 rfl) ?_
    refine x_get F hw iX0 6 rfl rfl 1 (by decide) rfl (List.mem_of_getElem? (i := 5) rfl) rfl dX1_add_43 ?_
    refine lv_iload F.1 F.2.1 dX1_add_46 (lv_at hl 0 rfl) ?_
    refine x_iald F hw 8 0 rfl rfl (hok.2.1 _ hp) dX1_add_48 ?_
    refine x_iastN F hw 2 0 rfl rfl (gN g) rfl (by omega) (by omega) dX1_add_49 (fun H locs hw => ?_)
    have hw : xW G (xK cI cJ cZ cO) _ s.heap s [(h, .inr (1, [.ref (g1 g), .ref (g2 g), .ref (g3 g), .ref (g4 g), .ref (g5 g), .int (nI (gN g))])), (g1 g, .inl (cI, gL g, .inl (upd (gKi g) (gN g) x))), (g2 g, .inl (cI, gL g, .inl (upd (gNu g) (gN g) (lNu u (lO u p9).toNatClampNeg)))), (g3 g, .inl (cJ, gL g, .inr (.inl (gKe g)))), (g4 g, .inl (cJ, gL g, .inr (.inl (gTi g)))), (g5 g, .inl (cI, gL g, .inl (gOf g))), (aH A, .inr (0, [.ref (aO A), .ref (aN A), .ref (aC A), .ref (aK A), .ref (aT A), .ref (aG A), .ref (aF A), .int (nI (lSz u))])), (aO A, .inl (cI, 40, .inl (lO u))), (aN A, .inl (cI, 40, .inl (lNu u))), (aC A, .inl (cI, 40, .inl (lCk u))), (aK A, .inl (cJ, 40, .inr (.inl (lKe u)))), (aT A, .inl (cJ, 40, .inr (.inl (lTi u)))), (aG A, .inl (cJ, 40, .inr (.inl (lGa u)))), (aF A, .inl (cI, 40, .inl (lOf u)))] H _ := hw
    refine lv_aload_n F.1 F.2.1 dX1_add_50 rfl (lv_at hl 1 rfl) ?_
    refine x_get F hw iX1 0 rfl rfl 2 (by decide) rfl (List.mem_of_getElem? (i := 6) rfl) rfl dX1_add_51 ?_
    refine lv_aload_n F.1 F.2.1 dX1_add_54 rfl (lv_at hl 1 rfl) ?_
    refine x_get F hw iX1 0 rfl rfl 5 (by decide) rfl (List.mem_of_getElem? (i := 1) rfl) rfl dX1_add_55 ?_
    refine lv_aload_n F.1 F.2.1 dX1_add_58 rfl (lv_at hl 3 rfl) ?_
    refine x_get F hw iX0 6 rfl rfl 3 (by decide) rfl (List.mem_of_getElem? (i := 7) rfl) rfl dX1_add_59 ?_
    refine lv_iload F.1 F.2.1 dX1_add_62 (lv_at hl 0 rfl) ?_
    refine x_lald F hw 10 1 rfl rfl (hok.2.1 _ hp) dX1_add_64 ?_
    refine x_lastN F hw 3 1 rfl rfl (gN g) rfl (by omega) (by omega) dX1_add_65 (fun H locs hw => ?_)
    have hw : xW G (xK cI cJ cZ cO) _ s.heap s [(h, .inr (1, [.ref (g1 g), .ref (g2 g), .ref (g3 g), .ref (g4 g), .ref (g5 g), .int (nI (gN g))])), (g1 g, .inl (cI, gL g, .inl (upd (gKi g) (gN g) x))), (g2 g, .inl (cI, gL g, .inl (upd (gNu g) (gN g) (lNu u (lO u p9).toNatClampNeg)))), (g3 g, .inl (cJ, gL g, .inr (.inl (vp_updL (gKe g) (gN g) (lKe u (lO u p9).toNatClampNeg))))), (g4 g, .inl (cJ, gL g, .inr (.inl (gTi g)))), (g5 g, .inl (cI, gL g, .inl (gOf g))), (aH A, .inr (0, [.ref (aO A), .ref (aN A), .ref (aC A), .ref (aK A), .ref (aT A), .ref (aG A), .ref (aF A), .int (nI (lSz u))])), (aO A, .inl (cI, 40, .inl (lO u))), (aN A, .inl (cI, 40, .inl (lNu u))), (aC A, .inl (cI, 40, .inl (lCk u))), (aK A, .inl (cJ, 40, .inr (.inl (lKe u)))), (aT A, .inl (cJ, 40, .inr (.inl (lTi u)))), (aG A, .inl (cJ, 40, .inr (.inl (lGa u)))), (aF A, .inl (cI, 40, .inl (lOf u)))] H _ := hw
    refine lv_aload_n F.1 F.2.1 dX1_add_66 rfl (lv_at hl 1 rfl) ?_
    refine x_get F hw iX1 0 rfl rfl 3 (by decide) rfl (List.mem_of_getElem? (i := 8) rfl) rfl dX1_add_67 ?_
    refine lv_aload_n F.1 F.2.1 dX1_add_70 rfl (lv_at hl 1 rfl) ?_
    refine x_get F hw iX1 0 rfl rfl 5 (by decide) rfl (List.mem_of_getElem? (i := 1) rfl) rfl dX1_add_71 ?_
    refine lv_aload_n F.1 F.2.1 dX1_add_74 rfl (lv_at hl 3 rfl) ?_
    refine x_get F hw iX0 6 rfl rfl 4 (by decide) rfl (List.mem_of_getElem? (i := 9) rfl) rfl dX1_add_75 ?_
    refine lv_iload F.1 F.2.1 dX1_add_78 (lv_at hl 0 rfl) ?_
    refine x_lald F hw 11 1 rfl rfl (hok.2.1 _ hp) dX1_add_80 ?_
    refine x_lastN F hw 4 1 rfl rfl (gN g) rfl (by omega) (by omega) dX1_add_81 (fun H locs hw => ?_)
    have hw : xW G (xK cI cJ cZ cO) _ s.heap s [(h, .inr (1, [.ref (g1 g), .ref (g2 g), .ref (g3 g), .ref (g4 g), .ref (g5 g), .int (nI (gN g))])), (g1 g, .inl (cI, gL g, .inl (upd (gKi g) (gN g) x))), (g2 g, .inl (cI, gL g, .inl (upd (gNu g) (gN g) (lNu u (lO u p9).toNatClampNeg)))), (g3 g, .inl (cJ, gL g, .inr (.inl (vp_updL (gKe g) (gN g) (lKe u (lO u p9).toNatClampNeg))))), (g4 g, .inl (cJ, gL g, .inr (.inl (vp_updL (gTi g) (gN g) (lTi u (lO u p9).toNatClampNeg))))), (g5 g, .inl (cI, gL g, .inl (gOf g))), (aH A, .inr (0, [.ref (aO A), .ref (aN A), .ref (aC A), .ref (aK A), .ref (aT A), .ref (aG A), .ref (aF A), .int (nI (lSz u))])), (aO A, .inl (cI, 40, .inl (lO u))), (aN A, .inl (cI, 40, .inl (lNu u))), (aC A, .inl (cI, 40, .inl (lCk u))), (aK A, .inl (cJ, 40, .inr (.inl (lKe u)))), (aT A, .inl (cJ, 40, .inr (.inl (lTi u)))), (aG A, .inl (cJ, 40, .inr (.inl (lGa u)))), (aF A, .inl (cI, 40, .inl (lOf u)))] H _ := hw
    refine lv_aload_n F.1 F.2.1 dX1_add_82 rfl (lv_at hl 1 rfl) ?_
    refine x_get F hw iX1 0 rfl rfl 4 (by decide) rfl (List.mem_of_getElem? (i := 10) rfl) rfl dX1_add_83 ?_
    refine lv_aload_n F.1 F.2.1 dX1_add_86 rfl (lv_at hl 1 rfl) ?_
    refine x_get F hw iX1 0 rfl rfl 5 (by decide) rfl (List.mem_of_getElem? (i := 1) rfl) rfl dX1_add_87 ?_
    refine lv_aload_n F.1 F.2.1 dX1_add_90 rfl (lv_at hl 3 rfl) ?_
    refine x_get F hw iX0 6 rfl rfl 6 (by decide) rfl (List.mem_of_getElem? (i := 11) rfl) rfl dX1_add_91 ?_
    refine lv_iload F.1 F.2.1 dX1_add_94 (lv_at hl 0 rfl) ?_
    refine x_iald F hw 13 0 rfl rfl (hok.2.1 _ hp) dX1_add_96 ?_
    refine x_iastN F hw 5 0 rfl rfl (gN g) rfl (by omega) (by omega) dX1_add_97 (fun H locs hw => ?_)
    have hw : xW G (xK cI cJ cZ cO) _ s.heap s [(h, .inr (1, [.ref (g1 g), .ref (g2 g), .ref (g3 g), .ref (g4 g), .ref (g5 g), .int (nI (gN g))])), (g1 g, .inl (cI, gL g, .inl (upd (gKi g) (gN g) x))), (g2 g, .inl (cI, gL g, .inl (upd (gNu g) (gN g) (lNu u (lO u p9).toNatClampNeg)))), (g3 g, .inl (cJ, gL g, .inr (.inl (vp_updL (gKe g) (gN g) (lKe u (lO u p9).toNatClampNeg))))), (g4 g, .inl (cJ, gL g, .inr (.inl (vp_updL (gTi g) (gN g) (lTi u (lO u p9).toNatClampNeg))))), (g5 g, .inl (cI, gL g, .inl (upd (gOf g) (gN g) (lOf u (lO u p9).toNatClampNeg)))), (aH A, .inr (0, [.ref (aO A), .ref (aN A), .ref (aC A), .ref (aK A), .ref (aT A), .ref (aG A), .ref (aF A), .int (nI (lSz u))])), (aO A, .inl (cI, 40, .inl (lO u))), (aN A, .inl (cI, 40, .inl (lNu u))), (aC A, .inl (cI, 40, .inl (lCk u))), (aK A, .inl (cJ, 40, .inr (.inl (lKe u)))), (aT A, .inl (cJ, 40, .inr (.inl (lTi u)))), (aG A, .inl (cJ, 40, .inr (.inl (lGa u)))), (aF A, .inl (cI, 40, .inl (lOf u)))] H _ := hw
    refine lv_aload_n F.1 F.2.1 dX1_add_98 rfl (lv_at hl 1 rfl) ?_
    refine lv_dup F.1 F.2.1 dX1_add_99 rfl ?_
    refine x_get F hw iX1 0 rfl rfl 5 (by decide) rfl (List.mem_of_getElem? (i := 1) rfl) rfl dX1_add_100 ?_
    refine lv_iconst (v := 1) F.1 F.2.1 dX1_add_103 (by decide) ?_
    refine lv_iadd F.1 F.2.1 dX1_add_104 ?_
    refine x_topi (v := nI ((gN g) + 1)) ((nI_add (gN g) 1).symm) ?_
    refine x_put F hw iX1 tyX1 tyX1_ok nmX1 0 rfl rfl 5 (by decide) rfl (List.mem_of_getElem? (i := 1) rfl) (rfl) (rfl) (Nat.le_of_ble_eq_true rfl) dX1_add_105 (fun H locs hw => ?_)
    have hw : xW G (xK cI cJ cZ cO) _ s.heap s [(h, .inr (1, [.ref (g1 g), .ref (g2 g), .ref (g3 g), .ref (g4 g), .ref (g5 g), .int (nI ((gN g) + 1))])), (g1 g, .inl (cI, gL g, .inl (upd (gKi g) (gN g) x))), (g2 g, .inl (cI, gL g, .inl (upd (gNu g) (gN g) (lNu u (lO u p9).toNatClampNeg)))), (g3 g, .inl (cJ, gL g, .inr (.inl (vp_updL (gKe g) (gN g) (lKe u (lO u p9).toNatClampNeg))))), (g4 g, .inl (cJ, gL g, .inr (.inl (vp_updL (gTi g) (gN g) (lTi u (lO u p9).toNatClampNeg))))), (g5 g, .inl (cI, gL g, .inl (upd (gOf g) (gN g) (lOf u (lO u p9).toNatClampNeg)))), (aH A, .inr (0, [.ref (aO A), .ref (aN A), .ref (aC A), .ref (aK A), .ref (aT A), .ref (aG A), .ref (aF A), .int (nI (lSz u))])), (aO A, .inl (cI, 40, .inl (lO u))), (aN A, .inl (cI, 40, .inl (lNu u))), (aC A, .inl (cI, 40, .inl (lCk u))), (aK A, .inl (cJ, 40, .inr (.inl (lKe u)))), (aT A, .inl (cJ, 40, .inr (.inl (lTi u)))), (aG A, .inl (cJ, 40, .inr (.inl (lGa u)))), (aF A, .inl (cI, 40, .inl (lOf u)))] H _ := hw
    refine W.widen (k := if gN g < gL g then 0 else 5) (n := if gN g < gL g then 0 else 10 * gL g) (Nat.zero_le _) (Nat.zero_le _) ?_
    exact x_vret (f := fun u9 : LgR => wLg cI cJ h u9 ++ wLn cI cJ A u) (g1 g, g2 g, g3 g, g4 g, g5 g, gL g, (upd (gKi g) (gN g) x), (upd (gNu g) (gN g) (lNu u (lO u p9).toNatClampNeg)), (vp_updL (gKe g) (gN g) (lKe u (lO u p9).toNatClampNeg)), (vp_updL (gTi g) (gN g) (lTi u (lO u p9).toNatClampNeg)), (upd (gOf g) (gN g) (lOf u (lO u p9).toNatClampNeg)), gN g + 1) F hr hlk hw (⟨(if_pos c9p).symm, rfl, lg_new, fun i hi => lg_old (by omega)⟩) dX1_add_108
  · have c9n : ¬ gN g < gL g := fun q => c9 (nI_lt q (by omega))
    refine lv_aload_n F.1 F.2.1 dX1_add_12 rfl (lv_at hl 0 rfl) ?_
    refine x_wv (wr := [(aH A, .inr (0, [.ref (aO A), .ref (aN A), .ref (aC A), .ref (aK A), .ref (aT A), .ref (aG A), .ref (aF A), .int (nI (lSz u))])), (aO A, .inl (cI, 40, .inl (lO u))), (aN A, .inl (cI, 40, .inl (lNu u))), (aC A, .inl (cI, 40, .inl (lCk u))), (aK A, .inl (cJ, 40, .inr (.inl (lKe u)))), (aT A, .inl (cJ, 40, .inr (.inl (lTi u)))), (aG A, .inl (cJ, 40, .inr (.inl (lGa u)))), (aF A, .inl (cI, 40, .inl (lOf u)))]) (va_runV (As := []) (rest := []) F (c_X1_grow l G cI cJ cZ cO (Array.size _) h g hL0 (hL (by omega))) (cwV 0 F.2.2.2.2 gX1_add_X1_grow rfl rfl rfl (by decide +kernel) ⟨Nat.le_of_ble_eq_true rfl, Nat.le_of_ble_eq_true rfl⟩) (x_preVW hw [0, 1, 2, 3, 4, 5] rfl (by decide) 0 rfl rfl) rfl rfl hl.1 rfl (lv_room (Nat.le_of_ble_eq_true rfl)) dX1_add_13 ⟨by show 0 + 5 ≤ (if gN g < gL g then 0 else 5); rw [if_neg c9n]; omega, by show 0 + 10 * gL g ≤ (if gN g < gL g then 0 else 10 * gL g); rw [if_neg c9n]; omega⟩) hw [0, 1, 2, 3, 4, 5] [6, 7, 8, 9, 10, 11, 12, 13] rfl rfl (by decide) (by decide) (fun u7 H locs hu7 hw => ?_)
    have hw : xW G (xK cI cJ cZ cO) _ s.heap s [(aH A, .inr (0, [.ref (aO A), .ref (aN A), .ref (aC A), .ref (aK A), .ref (aT A), .ref (aG A), .ref (aF A), .int (nI (lSz u))])), (aO A, .inl (cI, 40, .inl (lO u))), (aN A, .inl (cI, 40, .inl (lNu u))), (aC A, .inl (cI, 40, .inl (lCk u))), (aK A, .inl (cJ, 40, .inr (.inl (lKe u)))), (aT A, .inl (cJ, 40, .inr (.inl (lTi u)))), (aG A, .inl (cJ, 40, .inr (.inl (lGa u)))), (aF A, .inl (cI, 40, .inl (lOf u))), (h, .inr (1, [.ref (g1 u7), .ref (g2 u7), .ref (g3 u7), .ref (g4 u7), .ref (g5 u7), .int (nI (gN u7))])), (g1 u7, .inl (cI, gL u7, .inl (gKi u7))), (g2 u7, .inl (cI, gL u7, .inl (gNu u7))), (g3 u7, .inl (cJ, gL u7, .inr (.inl (gKe u7)))), (g4 u7, .inl (cJ, gL u7, .inr (.inl (gTi u7)))), (g5 u7, .inl (cI, gL u7, .inl (gOf u7)))] H _ := hw
    have hg7 : gN u7 < gL u7 := by rw [hu7.1, hu7.2.1]; omega
    have hL7 : gL u7 < 2 ^ 31 := by rw [hu7.1]; omega
    refine lv_aload_n F.1 F.2.1 dX1_add_16 rfl (lv_at hl 2 rfl) ?_
    refine x_get F hw iX0 0 rfl rfl 0 (by decide) rfl (List.mem_of_getElem? (i := 3) rfl) rfl dX1_add_17 ?_
    refine lv_iload_n F.1 F.2.1 dX1_add_20 rfl (lv_at hl 3 rfl) ?_
    refine x_ialdN F hw 1 0 rfl rfl p9 rfl (by omega) (by decide) dX1_add_21 ?_
    refine lv_istore (lv' := [(4, .int (lO u p9)), (0, .ref h), (1, .int x), (2, .ref (aH A)), (3, .int (nI p9))]) F.1 F.2.1 dX1_add_22 hl (by decide) rfl (fun ls hl => ?_)
    refine lv_aload_n F.1 F.2.1 dX1_add_24 rfl (lv_at hl 1 rfl) ?_
    refine x_get F hw iX1 8 rfl rfl 0 (by decide) rfl (List.mem_of_getElem? (i := 2) rfl) rfl dX1_add_25 ?_
    refine lv_aload_n F.1 F.2.1 dX1_add_28 rfl (lv_at hl 1 rfl) ?_
    refine x_get F hw iX1 8 rfl rfl 5 (by decide) rfl (List.mem_of_getElem? (i := 1) rfl) rfl dX1_add_29 ?_
    refine lv_iload_n F.1 F.2.1 dX1_add_32 rfl (lv_at hl 2 rfl) ?_
    refine x_iastN F hw 9 0 rfl rfl (gN u7) rfl (by omega) (by omega) dX1_add_33 (fun H locs hw => ?_)
    have hw : xW G (xK cI cJ cZ cO) _ s.heap s [(aH A, .inr (0, [.ref (aO A), .ref (aN A), .ref (aC A), .ref (aK A), .ref (aT A), .ref (aG A), .ref (aF A), .int (nI (lSz u))])), (aO A, .inl (cI, 40, .inl (lO u))), (aN A, .inl (cI, 40, .inl (lNu u))), (aC A, .inl (cI, 40, .inl (lCk u))), (aK A, .inl (cJ, 40, .inr (.inl (lKe u)))), (aT A, .inl (cJ, 40, .inr (.inl (lTi u)))), (aG A, .inl (cJ, 40, .inr (.inl (lGa u)))), (aF A, .inl (cI, 40, .inl (lOf u))), (h, .inr (1, [.ref (g1 u7), .ref (g2 u7), .ref (g3 u7), .ref (g4 u7), .ref (g5 u7), .int (nI (gN u7))])), (g1 u7, .inl (cI, gL u7, .inl (upd (gKi u7) (gN u7) x))), (g2 u7, .inl (cI, gL u7, .inl (gNu u7))), (g3 u7, .inl (cJ, gL u7, .inr (.inl (gKe u7)))), (g4 u7, .inl (cJ, gL u7, .inr (.inl (gTi u7)))), (g5 u7, .inl (cI, gL u7, .inl (gOf u7)))] H _ := hw
    refine lv_aload_n F.1 F.2.1 dX1_add_34 rfl (lv_at hl 1 rfl) ?_
    refine x_get F hw iX1 8 rfl rfl 1 (by decide) rfl (List.mem_of_getElem? (i := 4) rfl) rfl dX1_add_35 ?_
    refine lv_aload_n F.1 F.2.1 dX1_add_38 rfl (lv_at hl 1 rfl) ?_
    refine x_get F hw iX1 8 rfl rfl 5 (by decide) rfl (List.mem_of_getElem? (i := 1) rfl) rfl dX1_add_39 ?_
    refine lv_aload_n F.1 F.2.1 dX1_add_42 rfl (lv_at hl 3 rfl) ?_
    refine x_get F hw iX0 0 rfl rfl 1 (by decide) rfl (List.mem_of_getElem? (i := 5) rfl) rfl dX1_add_43 ?_
    refine lv_iload F.1 F.2.1 dX1_add_46 (lv_at hl 0 rfl) ?_
    refine x_iald F hw 2 0 rfl rfl (hok.2.1 _ hp) dX1_add_48 ?_
    refine x_iastN F hw 10 0 rfl rfl (gN u7) rfl (by omega) (by omega) dX1_add_49 (fun H locs hw => ?_)
    have hw : xW G (xK cI cJ cZ cO) _ s.heap s [(aH A, .inr (0, [.ref (aO A), .ref (aN A), .ref (aC A), .ref (aK A), .ref (aT A), .ref (aG A), .ref (aF A), .int (nI (lSz u))])), (aO A, .inl (cI, 40, .inl (lO u))), (aN A, .inl (cI, 40, .inl (lNu u))), (aC A, .inl (cI, 40, .inl (lCk u))), (aK A, .inl (cJ, 40, .inr (.inl (lKe u)))), (aT A, .inl (cJ, 40, .inr (.inl (lTi u)))), (aG A, .inl (cJ, 40, .inr (.inl (lGa u)))), (aF A, .inl (cI, 40, .inl (lOf u))), (h, .inr (1, [.ref (g1 u7), .ref (g2 u7), .ref (g3 u7), .ref (g4 u7), .ref (g5 u7), .int (nI (gN u7))])), (g1 u7, .inl (cI, gL u7, .inl (upd (gKi u7) (gN u7) x))), (g2 u7, .inl (cI, gL u7, .inl (upd (gNu u7) (gN u7) (lNu u (lO u p9).toNatClampNeg)))), (g3 u7, .inl (cJ, gL u7, .inr (.inl (gKe u7)))), (g4 u7, .inl (cJ, gL u7, .inr (.inl (gTi u7)))), (g5 u7, .inl (cI, gL u7, .inl (gOf u7)))] H _ := hw
    refine lv_aload_n F.1 F.2.1 dX1_add_50 rfl (lv_at hl 1 rfl) ?_
    refine x_get F hw iX1 8 rfl rfl 2 (by decide) rfl (List.mem_of_getElem? (i := 6) rfl) rfl dX1_add_51 ?_
    refine lv_aload_n F.1 F.2.1 dX1_add_54 rfl (lv_at hl 1 rfl) ?_
    refine x_get F hw iX1 8 rfl rfl 5 (by decide) rfl (List.mem_of_getElem? (i := 1) rfl) rfl dX1_add_55 ?_
    refine lv_aload_n F.1 F.2.1 dX1_add_58 rfl (lv_at hl 3 rfl) ?_
    refine x_get F hw iX0 0 rfl rfl 3 (by decide) rfl (List.mem_of_getElem? (i := 7) rfl) rfl dX1_add_59 ?_
    refine lv_iload F.1 F.2.1 dX1_add_62 (lv_at hl 0 rfl) ?_
    refine x_lald F hw 4 1 rfl rfl (hok.2.1 _ hp) dX1_add_64 ?_
    refine x_lastN F hw 11 1 rfl rfl (gN u7) rfl (by omega) (by omega) dX1_add_65 (fun H locs hw => ?_)
    have hw : xW G (xK cI cJ cZ cO) _ s.heap s [(aH A, .inr (0, [.ref (aO A), .ref (aN A), .ref (aC A), .ref (aK A), .ref (aT A), .ref (aG A), .ref (aF A), .int (nI (lSz u))])), (aO A, .inl (cI, 40, .inl (lO u))), (aN A, .inl (cI, 40, .inl (lNu u))), (aC A, .inl (cI, 40, .inl (lCk u))), (aK A, .inl (cJ, 40, .inr (.inl (lKe u)))), (aT A, .inl (cJ, 40, .inr (.inl (lTi u)))), (aG A, .inl (cJ, 40, .inr (.inl (lGa u)))), (aF A, .inl (cI, 40, .inl (lOf u))), (h, .inr (1, [.ref (g1 u7), .ref (g2 u7), .ref (g3 u7), .ref (g4 u7), .ref (g5 u7), .int (nI (gN u7))])), (g1 u7, .inl (cI, gL u7, .inl (upd (gKi u7) (gN u7) x))), (g2 u7, .inl (cI, gL u7, .inl (upd (gNu u7) (gN u7) (lNu u (lO u p9).toNatClampNeg)))), (g3 u7, .inl (cJ, gL u7, .inr (.inl (vp_updL (gKe u7) (gN u7) (lKe u (lO u p9).toNatClampNeg))))), (g4 u7, .inl (cJ, gL u7, .inr (.inl (gTi u7)))), (g5 u7, .inl (cI, gL u7, .inl (gOf u7)))] H _ := hw
    refine lv_aload_n F.1 F.2.1 dX1_add_66 rfl (lv_at hl 1 rfl) ?_
    refine x_get F hw iX1 8 rfl rfl 3 (by decide) rfl (List.mem_of_getElem? (i := 8) rfl) rfl dX1_add_67 ?_
    refine lv_aload_n F.1 F.2.1 dX1_add_70 rfl (lv_at hl 1 rfl) ?_
    refine x_get F hw iX1 8 rfl rfl 5 (by decide) rfl (List.mem_of_getElem? (i := 1) rfl) rfl dX1_add_71 ?_
    refine lv_aload_n F.1 F.2.1 dX1_add_74 rfl (lv_at hl 3 rfl) ?_
    refine x_get F hw iX0 0 rfl rfl 4 (by decide) rfl (List.mem_of_getElem? (i := 9) rfl) rfl dX1_add_75 ?_
    refine lv_iload F.1 F.2.1 dX1_add_78 (lv_at hl 0 rfl) ?_
    refine x_lald F hw 5 1 rfl rfl (hok.2.1 _ hp) dX1_add_80 ?_
    refine x_lastN F hw 12 1 rfl rfl (gN u7) rfl (by omega) (by omega) dX1_add_81 (fun H locs hw => ?_)
    have hw : xW G (xK cI cJ cZ cO) _ s.heap s [(aH A, .inr (0, [.ref (aO A), .ref (aN A), .ref (aC A), .ref (aK A), .ref (aT A), .ref (aG A), .ref (aF A), .int (nI (lSz u))])), (aO A, .inl (cI, 40, .inl (lO u))), (aN A, .inl (cI, 40, .inl (lNu u))), (aC A, .inl (cI, 40, .inl (lCk u))), (aK A, .inl (cJ, 40, .inr (.inl (lKe u)))), (aT A, .inl (cJ, 40, .inr (.inl (lTi u)))), (aG A, .inl (cJ, 40, .inr (.inl (lGa u)))), (aF A, .inl (cI, 40, .inl (lOf u))), (h, .inr (1, [.ref (g1 u7), .ref (g2 u7), .ref (g3 u7), .ref (g4 u7), .ref (g5 u7), .int (nI (gN u7))])), (g1 u7, .inl (cI, gL u7, .inl (upd (gKi u7) (gN u7) x))), (g2 u7, .inl (cI, gL u7, .inl (upd (gNu u7) (gN u7) (lNu u (lO u p9).toNatClampNeg)))), (g3 u7, .inl (cJ, gL u7, .inr (.inl (vp_updL (gKe u7) (gN u7) (lKe u (lO u p9).toNatClampNeg))))), (g4 u7, .inl (cJ, gL u7, .inr (.inl (vp_updL (gTi u7) (gN u7) (lTi u (lO u p9).toNatClampNeg))))), (g5 u7, .inl (cI, gL u7, .inl (gOf u7)))] H _ := hw
    refine lv_aload_n F.1 F.2.1 dX1_add_82 rfl (lv_at hl 1 rfl) ?_
    refine x_get F hw iX1 8 rfl rfl 4 (by decide) rfl (List.mem_of_getElem? (i := 10) rfl) rfl dX1_add_83 ?_
    refine lv_aload_n F.1 F.2.1 dX1_add_86 rfl (lv_at hl 1 rfl) ?_
    refine x_get F hw iX1 8 rfl rfl 5 (by decide) rfl (List.mem_of_getElem? (i := 1) rfl) rfl dX1_add_87 ?_
    refine lv_aload_n F.1 F.2.1 dX1_add_90 rfl (lv_at hl 3 rfl) ?_
    refine x_get F hw iX0 0 rfl rfl 6 (by decide) rfl (List.mem_of_getElem? (i := 11) rfl) rfl dX1_add_91 ?_
    refine lv_iload F.1 F.2.1 dX1_add_94 (lv_at hl 0 rfl) ?_
    refine x_iald F hw 7 0 rfl rfl (hok.2.1 _ hp) dX1_add_96 ?_
    refine x_iastN F hw 13 0 rfl rfl (gN u7) rfl (by omega) (by omega) dX1_add_97 (fun H locs hw => ?_)
    have hw : xW G (xK cI cJ cZ cO) _ s.heap s [(aH A, .inr (0, [.ref (aO A), .ref (aN A), .ref (aC A), .ref (aK A), .ref (aT A), .ref (aG A), .ref (aF A), .int (nI (lSz u))])), (aO A, .inl (cI, 40, .inl (lO u))), (aN A, .inl (cI, 40, .inl (lNu u))), (aC A, .inl (cI, 40, .inl (lCk u))), (aK A, .inl (cJ, 40, .inr (.inl (lKe u)))), (aT A, .inl (cJ, 40, .inr (.inl (lTi u)))), (aG A, .inl (cJ, 40, .inr (.inl (lGa u)))), (aF A, .inl (cI, 40, .inl (lOf u))), (h, .inr (1, [.ref (g1 u7), .ref (g2 u7), .ref (g3 u7), .ref (g4 u7), .ref (g5 u7), .int (nI (gN u7))])), (g1 u7, .inl (cI, gL u7, .inl (upd (gKi u7) (gN u7) x))), (g2 u7, .inl (cI, gL u7, .inl (upd (gNu u7) (gN u7) (lNu u (lO u p9).toNatClampNeg)))), (g3 u7, .inl (cJ, gL u7, .inr (.inl (vp_updL (gKe u7) (gN u7) (lKe u (lO u p9).toNatClampNeg))))), (g4 u7, .inl (cJ, gL u7, .inr (.inl (vp_updL (gTi u7) (gN u7) (lTi u (lO u p9).toNatClampNeg))))), (g5 u7, .inl (cI, gL u7, .inl (upd (gOf u7) (gN u7) (lOf u (lO u p9).toNatClampNeg))))] H _ := hw
    refine lv_aload_n F.1 F.2.1 dX1_add_98 rfl (lv_at hl 1 rfl) ?_
    refine lv_dup F.1 F.2.1 dX1_add_99 rfl ?_
    refine x_get F hw iX1 8 rfl rfl 5 (by decide) rfl (List.mem_of_getElem? (i := 1) rfl) rfl dX1_add_100 ?_
    refine lv_iconst (v := 1) F.1 F.2.1 dX1_add_103 (by decide) ?_
    refine lv_iadd F.1 F.2.1 dX1_add_104 ?_
    refine x_topi (v := nI ((gN u7) + 1)) ((nI_add (gN u7) 1).symm) ?_
    refine x_put F hw iX1 tyX1 tyX1_ok nmX1 8 rfl rfl 5 (by decide) rfl (List.mem_of_getElem? (i := 1) rfl) (rfl) (rfl) (Nat.le_of_ble_eq_true rfl) dX1_add_105 (fun H locs hw => ?_)
    have hw : xW G (xK cI cJ cZ cO) _ s.heap s [(aH A, .inr (0, [.ref (aO A), .ref (aN A), .ref (aC A), .ref (aK A), .ref (aT A), .ref (aG A), .ref (aF A), .int (nI (lSz u))])), (aO A, .inl (cI, 40, .inl (lO u))), (aN A, .inl (cI, 40, .inl (lNu u))), (aC A, .inl (cI, 40, .inl (lCk u))), (aK A, .inl (cJ, 40, .inr (.inl (lKe u)))), (aT A, .inl (cJ, 40, .inr (.inl (lTi u)))), (aG A, .inl (cJ, 40, .inr (.inl (lGa u)))), (aF A, .inl (cI, 40, .inl (lOf u))), (h, .inr (1, [.ref (g1 u7), .ref (g2 u7), .ref (g3 u7), .ref (g4 u7), .ref (g5 u7), .int (nI ((gN u7) + 1))])), (g1 u7, .inl (cI, gL u7, .inl (upd (gKi u7) (gN u7) x))), (g2 u7, .inl (cI, gL u7, .inl (upd (gNu u7) (gN u7) (lNu u (lO u p9).toNatClampNeg)))), (g3 u7, .inl (cJ, gL u7, .inr (.inl (vp_updL (gKe u7) (gN u7) (lKe u (lO u p9).toNatClampNeg))))), (g4 u7, .inl (cJ, gL u7, .inr (.inl (vp_updL (gTi u7) (gN u7) (lTi u (lO u p9).toNatClampNeg))))), (g5 u7, .inl (cI, gL u7, .inl (upd (gOf u7) (gN u7) (lOf u (lO u p9).toNatClampNeg))))] H _ := hw
    have hw := x_perm hw (ws' := [(h, .inr (1, [.ref (g1 u7), .ref (g2 u7), .ref (g3 u7), .ref (g4 u7), .ref (g5 u7), .int (nI ((gN u7) + 1))])), (g1 u7, .inl (cI, gL u7, .inl (upd (gKi u7) (gN u7) x))), (g2 u7, .inl (cI, gL u7, .inl (upd (gNu u7) (gN u7) (lNu u (lO u p9).toNatClampNeg)))), (g3 u7, .inl (cJ, gL u7, .inr (.inl (vp_updL (gKe u7) (gN u7) (lKe u (lO u p9).toNatClampNeg))))), (g4 u7, .inl (cJ, gL u7, .inr (.inl (vp_updL (gTi u7) (gN u7) (lTi u (lO u p9).toNatClampNeg))))), (g5 u7, .inl (cI, gL u7, .inl (upd (gOf u7) (gN u7) (lOf u (lO u p9).toNatClampNeg)))), (aH A, .inr (0, [.ref (aO A), .ref (aN A), .ref (aC A), .ref (aK A), .ref (aT A), .ref (aG A), .ref (aF A), .int (nI (lSz u))])), (aO A, .inl (cI, 40, .inl (lO u))), (aN A, .inl (cI, 40, .inl (lNu u))), (aC A, .inl (cI, 40, .inl (lCk u))), (aK A, .inl (cJ, 40, .inr (.inl (lKe u)))), (aT A, .inl (cJ, 40, .inr (.inl (lTi u)))), (aG A, .inl (cJ, 40, .inr (.inl (lGa u)))), (aF A, .inl (cI, 40, .inl (lOf u)))]) [8, 9, 10, 11, 12, 13, 0, 1, 2, 3, 4, 5, 6, 7] rfl (by decide)
    refine W.widen (k := if gN g < gL g then 0 else 5) (n := if gN g < gL g then 0 else 10 * gL g) (by rw [if_neg c9n]; omega) (by rw [if_neg c9n]; omega) ?_
    exact x_vret (f := fun u9 : LgR => wLg cI cJ h u9 ++ wLn cI cJ A u) (g1 u7, g2 u7, g3 u7, g4 u7, g5 u7, gL u7, (upd (gKi u7) (gN u7) x), (upd (gNu u7) (gN u7) (lNu u (lO u p9).toNatClampNeg)), (vp_updL (gKe u7) (gN u7) (lKe u (lO u p9).toNatClampNeg)), (vp_updL (gTi u7) (gN u7) (lTi u (lO u p9).toNatClampNeg)), (upd (gOf u7) (gN u7) (lOf u (lO u p9).toNatClampNeg)), gN u7 + 1) F hr hlk hw (⟨hu7.1.trans (if_neg c9n).symm, congrArg (· + 1) hu7.2.1, by rw [← hu7.2.1]; exact lg_new, fun i hi => (lg_old (g := u7) (by rw [hu7.2.1]; omega)).trans (hu7.2.2 i (by omega))⟩) dX1_add_108
