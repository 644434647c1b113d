set_option maxHeartbeats 8000000 in
set_option maxRecDepth 100000 in
/-- Arrays.copyOf -/
theorem c_J7_copyOf_59c91 (l : Launch) (G : va_G) (cI cJ cZ cO : ClassId) (sz : Nat) (q n k : Nat) (f : Nat → Int32) (hnk : n < k) (hk : k ≤ 4000) : Met l yJ7_copyOf_59c91 wsJ7_copyOf_59c91 ({ frames := 1, cells := 1, slots := k, locals := 40 }) (xPc G (xK cI cJ cZ cO) sz [.ref q, .int (nI k)] ([(q, .inl (cI, n, .inl f))])) (va_Qr (fun _ : Unit => True) (fun u8 ra t => xB G (xK cI cJ cZ cO) ([(q, .inl (cI, n, .inl f))]) sz (fun u9 : Unit × Nat => (fun (u9 : Unit) (ra : Nat) => [(q, .inl (cI, n, .inl f)), (ra, .inl (cI, k, .inl (va_cpy f (fun _ => 0) 0 0 n)))]) u9.1 u9.2) (u8, ra) t) (va_A ([(q, .inl (cI, n, .inl f))]) sz)) 1 k (va_A ([(q, .inl (cI, n, .inl f))]) sz) := by
  refine x_body (by decide) rfl (Nat.le_of_ble_eq_true rfl) ?_
  intro p e s m below meth c F hr hlk hnm hsz hw ls hl
  subst hsz
  have F : CallFix p m c cJ7_copyOf_59c91 3 s _ wsJ7_copyOf_59c91 RJ7 := F
  have hl : lv_has ls 3 [(0, .ref q), (1, .int (nI k))] := hl
  have hw : xW G (xK cI cJ cZ cO) _ s.heap s [(q, .inl (cI, n, .inl f))] s.heap [] := hw
  refine lv_iload_n F.1 F.2.1 dJ7_copyOf_59c91_0 rfl (lv_at hl 1 rfl) ?_
  refine lv_aload_n F.1 F.2.1 dJ7_copyOf_59c91_1 rfl (lv_at hl 0 rfl) ?_
  refine x_alen F hw 0 0 rfl rfl dJ7_copyOf_59c91_2 ?_
  refine lv_icmp_ne (tgt := 14) F.1 F.2.1 dJ7_copyOf_59c91_3 (by decide) (fun c3 => ?_) (fun c3 => ?_)
  rotate_left
  · exact absurd ((nI_eq (by omega) (by omega)).mp c3) (by omega)
  refine lv_iload_n F.1 F.2.1 dJ7_copyOf_59c91_14 rfl (lv_at hl 1 rfl) ?_
  refine x_newa F hw (t := .int) (a0 := (k, .inl (fun _ => 0))) (List.mem_of_getElem? (i := 7) rfl) rfl 0 rfl (fun _ => rfl) (nI_pos (by omega)) (nI_clamp (by omega)) (by show k * 4 ≤ 536870912; omega) (Nat.le_refl 1) (by show 0 + k ≤ k; omega) dJ7_copyOf_59c91_15 (fun q2 H hw => ?_)
  have hw : xW G (xK cI cJ cZ cO) _ s.heap s [(q, .inl (cI, n, .inl f)), (q2, .inl (cI, k, .inl (fun _ => 0)))] H _ := hw
  refine lv_astore_n (lv' := [(2, .ref q2), (0, .ref q), (1, .int (nI k))]) F.1 F.2.1 dJ7_copyOf_59c91_17 rfl hl (by decide) rfl (fun ls hl => ?_)
  refine lv_aload_n F.1 F.2.1 dJ7_copyOf_59c91_18 rfl (lv_at hl 1 rfl) ?_
  refine lv_iconst (v := 0) F.1 F.2.1 dJ7_copyOf_59c91_19 (by decide) ?_
  refine lv_aload_n F.1 F.2.1 dJ7_copyOf_59c91_20 rfl (lv_at hl 0 rfl) ?_
  refine lv_iconst (v := 0) F.1 F.2.1 dJ7_copyOf_59c91_21 (by decide) ?_
  refine lv_aload_n F.1 F.2.1 dJ7_copyOf_59c91_22 rfl (lv_at hl 1 rfl) ?_
  refine x_alen F hw 0 0 rfl rfl dJ7_copyOf_59c91_23 ?_
  refine lv_iload_n F.1 F.2.1 dJ7_copyOf_59c91_24 rfl (lv_at hl 2 rfl) ?_
  refine x_mmin F (List.mem_of_getElem? (i := 8) rfl) (List.mem_of_getElem? (i := 9) rfl) (List.mem_of_getElem? (i := 10) rfl) (List.mem_of_getElem? (i := 11) rfl) hl.1 (Nat.le_of_ble_eq_true rfl) (Nat.le_of_ble_eq_true rfl) (Nat.le_refl 1) (by show 0 + k ≤ k; omega) (i := n) (j := k) rfl rfl (by omega) (by omega) dJ7_copyOf_59c91_25 ?_
  refine x_copyi F hw (List.mem_of_getElem? (i := 12) rfl) (List.mem_of_getElem? (i := 13) rfl) (List.mem_of_getElem? (i := 14) rfl) (List.mem_of_getElem? (i := 15) rfl) 0 1 0 rfl rfl rfl rfl (sp := 0) (dp := 0) (n := n) rfl rfl rfl (by omega) (by omega) (by omega) (by omega) hl.1 (Nat.le_of_ble_eq_true rfl) (Nat.le_of_ble_eq_true rfl) dJ7_copyOf_59c91_28 (fun H locs hw => ?_)
  have hw : xW G (xK cI cJ cZ cO) _ s.heap s [(q, .inl (cI, n, .inl f)), (q2, .inl (cI, k, .inl (va_cpy f (fun _ => 0) 0 0 n)))] H _ := hw
  refine lv_aload_n F.1 F.2.1 dJ7_copyOf_59c91_31 rfl (lv_at hl 0 rfl) ?_
  refine W.widen (k := 1) (n := k) (by omega) (by omega) ?_
  exact x_aret (f := fun (u9 : Unit) (ra : Nat) => [(q, .inl (cI, n, .inl f)), (ra, .inl (cI, k, .inl (va_cpy f (fun _ => 0) 0 0 n)))]) () F hr hlk hw (trivial) dJ7_copyOf_59c91_32

set_option maxHeartbeats 8000000 in
set_option maxRecDepth 100000 in
/-- Arrays.copyOf -/
theorem c_J7_copyOf_c38d5 (l : Launch) (G : va_G) (cI cJ cZ cO : ClassId) (sz : Nat) (q n k : Nat) (f : Nat → Int64) (hnk : n < k) (hk : k ≤ 4000) : Met l yJ7_copyOf_c38d5 wsJ7_copyOf_c38d5 ({ frames := 1, cells := 1, slots := k, locals := 40 }) (xPc G (xK cI cJ cZ cO) sz [.ref q, .int (nI k)] ([(q, .inl (cJ, n, .inr (.inl f)))])) (va_Qr (fun _ : Unit => True) (fun u8 ra t => xB G (xK cI cJ cZ cO) ([(q, .inl (cJ, n, .inr (.inl f)))]) sz (fun u9 : Unit × Nat => (fun (u9 : Unit) (ra : Nat) => [(q, .inl (cJ, n, .inr (.inl f))), (ra, .inl (cJ, k, .inr (.inl (va_cpy f (fun _ => 0) 0 0 n))))]) u9.1 u9.2) (u8, ra) t) (va_A ([(q, .inl (cJ, n, .inr (.inl f)))]) sz)) 1 k (va_A ([(q, .inl (cJ, n, .inr (.inl f)))]) sz) := by
  refine x_body (by decide) rfl (Nat.le_of_ble_eq_true rfl) ?_
  intro p e s m below meth c F hr hlk hnm hsz hw ls hl
  subst hsz
  have F : CallFix p m c cJ7_copyOf_c38d5 3 s _ wsJ7_copyOf_c38d5 RJ7 := F
  have hl : lv_has ls 3 [(0, .ref q), (1, .int (nI k))] := hl
  have hw : xW G (xK cI cJ cZ cO) _ s.heap s [(q, .inl (cJ, n, .inr (.inl f)))] s.heap [] := hw
  refine lv_iload_n F.1 F.2.1 dJ7_copyOf_c38d5_0 rfl (lv_at hl 1 rfl) ?_
  refine lv_aload_n F.1 F.2.1 dJ7_copyOf_c38d5_1 rfl (lv_at hl 0 rfl) ?_
  refine x_alen F hw 0 1 rfl rfl dJ7_copyOf_c38d5_2 ?_
  refine lv_icmp_ne (tgt := 14) F.1 F.2.1 dJ7_copyOf_c38d5_3 (by decide) (fun c3 => ?_) (fun c3 => ?_)
  rotate_left
  · exact absurd ((nI_eq (by omega) (by omega)).mp c3) (by omega)
  refine lv_iload_n F.1 F.2.1 dJ7_copyOf_c38d5_14 rfl (lv_at hl 1 rfl) ?_
  refine x_newa F hw (t := .long) (a0 := (k, .inr (.inl (fun _ => 0)))) (List.mem_of_getElem? (i := 7) rfl) rfl 1 rfl (fun _ => rfl) (nI_pos (by omega)) (nI_clamp (by omega)) (by show k * 8 ≤ 536870912; omega) (Nat.le_refl 1) (by show 0 + k ≤ k; omega) dJ7_copyOf_c38d5_15 (fun q2 H hw => ?_)
  have hw : xW G (xK cI cJ cZ cO) _ s.heap s [(q, .inl (cJ, n, .inr (.inl f))), (q2, .inl (cJ, k, .inr (.inl (fun _ => 0))))] H _ := hw
  refine lv_astore_n (lv' := [(2, .ref q2), (0, .ref q), (1, .int (nI k))]) F.1 F.2.1 dJ7_copyOf_c38d5_17 rfl hl (by decide) rfl (fun ls hl => ?_)
  refine lv_aload_n F.1 F.2.1 dJ7_copyOf_c38d5_18 rfl (lv_at hl 1 rfl) ?_
  refine lv_iconst (v := 0) F.1 F.2.1 dJ7_copyOf_c38d5_19 (by decide) ?_
  refine lv_aload_n F.1 F.2.1 dJ7_copyOf_c38d5_20 rfl (lv_at hl 0 rfl) ?_
  refine lv_iconst (v := 0) F.1 F.2.1 dJ7_copyOf_c38d5_21 (by decide) ?_
  refine lv_aload_n F.1 F.2.1 dJ7_copyOf_c38d5_22 rfl (lv_at hl 1 rfl) ?_
  refine x_alen F hw 0 1 rfl rfl dJ7_copyOf_c38d5_23 ?_
  refine lv_iload_n F.1 F.2.1 dJ7_copyOf_c38d5_24 rfl (lv_at hl 2 rfl) ?_
  refine x_mmin F (List.mem_of_getElem? (i := 8) rfl) (List.mem_of_getElem? (i := 9) rfl) (List.mem_of_getElem? (i := 10) rfl) (List.mem_of_getElem? (i := 11) rfl) hl.1 (Nat.le_of_ble_eq_true rfl) (Nat.le_of_ble_eq_true rfl) (Nat.le_refl 1) (by show 0 + k ≤ k; omega) (i := n) (j := k) rfl rfl (by omega) (by omega) dJ7_copyOf_c38d5_25 ?_
  refine x_copyl F hw (List.mem_of_getElem? (i := 12) rfl) (List.mem_of_getElem? (i := 13) rfl) (List.mem_of_getElem? (i := 14) rfl) (List.mem_of_getElem? (i := 15) rfl) 0 1 1 rfl rfl rfl rfl (sp := 0) (dp := 0) (n := n) rfl rfl rfl (by omega) (by omega) (by omega) (by omega) hl.1 (Nat.le_of_ble_eq_true rfl) (Nat.le_of_ble_eq_true rfl) dJ7_copyOf_c38d5_28 (fun H locs hw => ?_)
  have hw : xW G (xK cI cJ cZ cO) _ s.heap s [(q, .inl (cJ, n, .inr (.inl f))), (q2, .inl (cJ, k, .inr (.inl (va_cpy f (fun _ => 0) 0 0 n))))] H _ := hw
  refine lv_aload_n F.1 F.2.1 dJ7_copyOf_c38d5_31 rfl (lv_at hl 0 rfl) ?_
  refine W.widen (k := 1) (n := k) (by omega) (by omega) ?_
  exact x_aret (f := fun (u9 : Unit) (ra : Nat) => [(q, .inl (cJ, n, .inr (.inl f))), (ra, .inl (cJ, k, .inr (.inl (va_cpy f (fun _ => 0) 0 0 n))))]) () F hr hlk hw (trivial) dJ7_copyOf_c38d5_32

set_option maxHeartbeats 8000000 in
set_option maxRecDepth 100000 in
/-- Arrays.fill of two -/
theorem c_J7_fill_d0a16 (l : Launch) (G : va_G) (cI cJ cZ cO : ClassId) (sz : Nat) (q : Nat) (f : Nat → Int64) (x : Int64) : Met l yJ7_fill_d0a16 wsJ7_fill_d0a16 ({ frames := 0, cells := 0, slots := 0, locals := 0 }) (xPc G (xK cI cJ cZ cO) sz [.ref q, .long x] ([(q, .inl (cJ, 2, .inr (.inl f)))])) (va_Qv (fun u2 => u2 0 = x ∧ u2 1 = x) (xB G (xK cI cJ cZ cO) ([(q, .inl (cJ, 2, .inr (.inl f)))]) sz (fun u9 : Nat → Int64 => [(q, .inl (cJ, 2, .inr (.inl u9)))])) (va_A ([(q, .inl (cJ, 2, .inr (.inl f)))]) sz)) 0 0 (va_A ([(q, .inl (cJ, 2, .inr (.inl f)))]) sz) := by
  refine x_body (by decide) rfl (Nat.le_of_ble_eq_true rfl) ?_
  intro p e s m below meth c F hr hlk hnm hsz hw ls hl
  subst hsz
  have F : CallFix p m c cJ7_fill_d0a16 5 s _ wsJ7_fill_d0a16 RJ7 := F
  have hl : lv_has ls 5 [(0, .ref q), (1, .long x)] := hl
  have hw : xW G (xK cI cJ cZ cO) _ s.heap s [(q, .inl (cJ, 2, .inr (.inl f)))] s.heap [] := hw
  refine lv_iconst (v := 0) F.1 F.2.1 dJ7_fill_d0a16_0 (by decide) ?_
  refine lv_istore_n (lv' := [(3, .int 0), (0, .ref q), (1, .long x)]) F.1 F.2.1 dJ7_fill_d0a16_1 rfl hl (by decide) rfl (fun ls hl => ?_)
  refine lv_aload_n F.1 F.2.1 dJ7_fill_d0a16_2 rfl (lv_at hl 1 rfl) ?_
  refine x_alen F hw 0 1 rfl rfl dJ7_fill_d0a16_3 ?_
  refine lv_istore (lv' := [(4, .int (nI 2)), (3, .int 0), (0, .ref q), (1, .long x)]) F.1 F.2.1 dJ7_fill_d0a16_4 hl (by decide) rfl (fun ls hl => ?_)
  refine x_rec (α := Nat × (Nat → Int64)) (fun a9 => 2 - a9.1) (fun a9 H locs ls => lv_has ls 5 [(0, .ref q), (1, .long x), (3, .int (nI a9.1)), (4, .int (nI 2))] ∧ xW G (xK cI cJ cZ cO) _ s.heap s [(q, .inl (cJ, 2, .inr (.inl a9.2)))] H locs ∧ a9.1 ≤ 2 ∧ ∀ j9, j9 < a9.1 → a9.2 j9 = x) ?_ ((0, f)) ⟨lv_sub hl [2, 3, 1, 0] rfl, hw, Nat.zero_le _, x_upto0⟩
  rintro ⟨i, g⟩ H locs ls ⟨hl, hw, hi, hg⟩ ih
  try dsimp only at hi hg
  have hl : lv_has ls 5 [(0, .ref q), (1, .long x), (3, .int (nI i)), (4, .int (nI 2))] := hl
  have hw : xW G (xK cI cJ cZ cO) _ s.heap s [(q, .inl (cJ, 2, .inr (.inl g)))] H _ := hw
  refine lv_iload_n F.1 F.2.1 dJ7_fill_d0a16_6 rfl (lv_at hl 2 rfl) ?_
  refine lv_iload F.1 F.2.1 dJ7_fill_d0a16_7 (lv_at hl 3 rfl) ?_
  refine lv_icmp_ge (tgt := 22) F.1 F.2.1 dJ7_fill_d0a16_9 (by decide) (fun c9 => ?_) (fun c9 => ?_)
  · have h9 := x_le (a := 2) (by omega) (by omega) c9
    exact x_vret (f := fun u9 : Nat → Int64 => [(q, .inl (cJ, 2, .inr (.inl u9)))]) g F hr hlk hw (⟨hg 0 (by omega), hg 1 (by omega)⟩) dJ7_fill_d0a16_22
  · have hlt : i < 2 := x_nle (a := 2) (by omega) (by omega) c9
    refine lv_aload_n F.1 F.2.1 dJ7_fill_d0a16_12 rfl (lv_at hl 0 rfl) ?_
    refine lv_iload_n F.1 F.2.1 dJ7_fill_d0a16_13 rfl (lv_at hl 2 rfl) ?_
    refine lv_lload_n F.1 F.2.1 dJ7_fill_d0a16_14 rfl (lv_at hl 1 rfl) ?_
    refine x_lastN F hw 0 1 rfl rfl i rfl (by omega) (by decide) dJ7_fill_d0a16_15 (fun H locs hw => ?_)
    have hw : xW G (xK cI cJ cZ cO) _ s.heap s [(q, .inl (cJ, 2, .inr (.inl (vp_updL g i x))))] H _ := hw
    refine lv_iinc (v := nI (i + 1)) (lv' := [(3, .int (nI (i + 1))), (0, .ref q), (1, .long x), (4, .int (nI 2))]) F.1 F.2.1 dJ7_fill_d0a16_16 hl (k := 2) rfl (by rw [show Int32.ofInt 1 = 1 from rfl]; exact nI_1 _) (by decide) rfl (fun ls hl => ?_)
    refine lv_goto (tgt := 6) F.1 F.2.1 dJ7_fill_d0a16_19 (by decide) ?_
    exact ih ((i + 1, vp_updL g i x)) _ _ _ (by simp only []; omega) ⟨lv_sub hl [1, 2, 0, 3] rfl, hw, by omega, x_upto (fun j hj => (pk_uLn (by omega)).trans (hg j hj)) pk_uLs⟩

set_option maxHeartbeats 8000000 in
set_option maxRecDepth 100000 in
/-- Math.floorMod(k, 128) -/
theorem c_J9_floorMod_f86c9 (l : Launch) (G : va_G) (cI cJ cZ cO : ClassId) (sz : Nat) (k : Int64) : Met l yJ9_floorMod_f86c9 wsJ9_floorMod_f86c9 ({ frames := 0, cells := 0, slots := 0, locals := 0 }) (xPc G (xK cI cJ cZ cO) sz [.long k, .long 128] ([])) (xQl (fun r => r = if k - k / 128 * 128 < 0 then k - k / 128 * 128 + 128 else k - k / 128 * 128)) 0 0 (fun _ => False) := by
  refine x_bodyF (by decide +kernel) rfl (Nat.le_of_ble_eq_true rfl) ?_
  intro p e s m below meth c F hr hlk hnm hsz hw ls hl
  subst hsz
  have F : CallFix p m c cJ9_floorMod_f86c9 6 s _ wsJ9_floorMod_f86c9 RJ9 := F
  have hl : lv_has ls 6 [(0, .long k), (2, .long 128)] := hl
  have hw : xW G (xK cI cJ cZ cO) _ s.heap s [] s.heap [] := hw
  refine lv_lload_n F.1 F.2.1 dJ9_floorMod_f86c9_0 rfl (lv_at hl 0 rfl) ?_
  refine lv_lload_n F.1 F.2.1 dJ9_floorMod_f86c9_1 rfl (lv_at hl 1 rfl) ?_
  refine lv_lrem F.1 F.2.1 dJ9_floorMod_f86c9_2 (by decide) ?_
  refine lv_lstore (lv' := [(4, .long (k - k / 128 * 128)), (0, .long k), (2, .long 128)]) F.1 F.2.1 dJ9_floorMod_f86c9_3 hl (by decide) rfl (fun ls hl => ?_)
  refine lv_lload_n F.1 F.2.1 dJ9_floorMod_f86c9_5 rfl (lv_at hl 1 rfl) ?_
  refine lv_lload_n F.1 F.2.1 dJ9_floorMod_f86c9_6 rfl (lv_at hl 2 rfl) ?_
  refine lv_lxor F.1 F.2.1 dJ9_floorMod_f86c9_7 ?_
  refine lv_lconst (v := 0) F.1 F.2.1 dJ9_floorMod_f86c9_8 (by decide) ?_
  refine x_l_ge (tgt := 25) F dJ9_floorMod_f86c9_9 dJ9_floorMod_f86c9_10 (by decide) (fun c9 => ?_) (fun c9 => ?_)
  · refine lv_lload F.1 F.2.1 dJ9_floorMod_f86c9_25 (lv_at hl 0 rfl) ?_
    exact x_rlret F hr hlk ((fm_a c9).symm) dJ9_floorMod_f86c9_27
  · refine lv_lload F.1 F.2.1 dJ9_floorMod_f86c9_13 (lv_at hl 0 rfl) ?_
    refine lv_lconst (v := 0) F.1 F.2.1 dJ9_floorMod_f86c9_15 (by decide) ?_
    refine x_l_eq (tgt := 25) F dJ9_floorMod_f86c9_16 dJ9_floorMod_f86c9_17 (by decide) (fun c16 => ?_) (fun c16 => ?_)
    · refine lv_lload F.1 F.2.1 dJ9_floorMod_f86c9_25 (lv_at hl 0 rfl) ?_
      exact x_rlret F hr hlk ((fm_b c16).symm) dJ9_floorMod_f86c9_27
    · refine lv_lload F.1 F.2.1 dJ9_floorMod_f86c9_20 (lv_at hl 0 rfl) ?_
      refine lv_lload_n F.1 F.2.1 dJ9_floorMod_f86c9_22 rfl (lv_at hl 2 rfl) ?_
      refine lv_ladd F.1 F.2.1 dJ9_floorMod_f86c9_23 ?_
      exact x_rlret F hr hlk ((fm_c c9 c16).symm) dJ9_floorMod_f86c9_24
