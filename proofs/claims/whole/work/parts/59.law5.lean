set_option maxHeartbeats 8000000 in
set_option maxRecDepth 100000 in
theorem lc_keepN {p : Program} {l : Launch} {e : Env} {s : State} {m : MethodId} {below : List Frame} {meth : Method} {c : Code} {G : va_G} {cI cJ cZ cO : ClassId} {b L oa : Nat} {xs : Nat → Int32} {K : TrA} {M : MA} {k kc ks : Nat} {tr : TrR} {kp : List (StA × StR)} {v : MR} {of9 : Nat → Int64} {H : Heap} {locs : List Loc} {ls : Array Slot}  (F : CallFix p m c cL_law 8 s #[Value.ref b] wsL_law RL) (hst : l.stackTraces = false) (hE : xEn (fun q => s.heap.size ≤ q) s s.heap) (hX : va_X b L xs s s.heap) (hbl : b < s.heap.size) (hL : L ≤ 4608) (hk : 9 * k + 9 ≤ L) (nx : lwN p l e s m below meth c G cI cJ cZ cO b oa K M (k + 1)) (hkc : kc = 1000 + 60 * k + (gL (tG tr) - 65)) (hks : ks = 40000 + 11000 * k + 10 * (gL (tG tr) - 65)) (hR : LRel tr kp v (2081 * k)) (hw : xW G (xK cI cJ cZ cO) (fun q => s.heap.size ≤ q) s.heap s ([(oa, .inl (cJ, 1, .inr (.inl of9)))] ++ (wTr cI cJ cO K tr ++ (wPl cI cJ kp ++ wMo cI cJ cZ M v))) H locs) (hl : lv_has ls 8 [(0, .ref b), (1, .ref (tH K)), (2, .ref (bH M)), (3, .ref oa), (4, .int (nI (9 * k)))]) (hno : tN tr < 3 → tF tr (tN tr) = none) :
    W p l e room_1 s m #[Value.ref b] below meth c H locs kc ks (lw_Z below #[Value.ref b] s) (F0 m 1126 ls []) := by
  have hg5 : 65 ≤ gL (tG tr) ∧ gL (tG tr) ≤ 2080 := by
    have h := hR.1.2.1
    unfold gLok at h
    omega
  refine lv_aload_n F.1 F.2.1 dL_law_1126 rfl (lv_at hl 1 rfl) ?_
  refine lv_aload_n F.1 F.2.1 dL_law_1127 rfl (lv_at hl 3 rfl) ?_
  refine lw_S (As := [.ref (tH K), .ref oa]) (rest := []) (wPl cI cJ kp ++ wMo cI cJ cZ M v) F hw hE (q_1 _ _ _ _) (c_L_keepN l G cI cJ cZ cO _ hst K tr  hR.2.2.2.2.2.2.2.1 hR.1.1 hno oa of9) (vx_cwSW 2 F.2.2.2.2 gL_law_L_keep rfl rfl rfl (by decide +kernel) ⟨Nat.le_of_ble_eq_true rfl, Nat.le_of_ble_eq_true rfl⟩) rfl hl.1 rfl (lv_room (Nat.le_of_ble_eq_true rfl)) dL_law_1128 ⟨by show kc + 18 ≤ 601024; omega, by show ks + 591 ≤ 7293034; omega⟩ (fun r9 w2 H locs hc hw => ?_)
  obtain ⟨w21, w22⟩ := w2
  rcases w21 with t | t
  · try dsimp only at hc hw
    refine lv_istore (lv' := [(5, .int r9), (0, .ref b), (1, .ref (tH K)), (2, .ref (bH M)), (3, .ref oa), (4, .int (nI (9 * k)))]) F.1 F.2.1 dL_law_1131 hl (by decide) rfl (fun ls hl => ?_)
    refine lv_aload_n F.1 F.2.1 dL_law_1133 rfl (lv_at hl 3 rfl) ?_
    refine lw_V (As := []) (rest := []) ([(oa, .inl (cJ, 1, .inr (.inl w22)))] ++ (wTr cI cJ cO K t ++ wPl cI cJ kp)) F hw (q_2 _ _ _ _) (c_X4_keep l G cI cJ cZ cO _ M v  hR.2.2.2.2.1 (by have h1 := hR.2.2.2.2.2.2.1; have h2 := hR.2.2.2.2.2.2.2.1; omega) (hR.2.2.2.2.2.1 0 (by decide))) (cwV 0 F.2.2.2.2 gL_law_X4_keep rfl rfl rfl (by decide +kernel) ⟨Nat.le_of_ble_eq_true rfl, Nat.le_of_ble_eq_true rfl⟩) rfl rfl rfl hl.1 rfl (lv_room (Nat.le_of_ble_eq_true rfl)) dL_law_1134 ⟨by show kc + 18 ≤ 601024; omega, by show ks + 591 ≤ 7293034; omega⟩ (fun r6 u2 H locs hm hw => ?_)
    obtain ⟨hcd, hv0, hR1⟩ := op_keepN (w2 := (.inl t, w22)) hR hno hc hm
    have hR2 : LRel t kp u2 (2081 * k) := by
      rcases hR1 with ⟨t1, e1, -⟩ | ⟨e1, h1⟩
      · cases e1
      · cases e1; exact h1
    have htt : t = tr := by
      rcases hR1 with ⟨t1, e1, -⟩ | ⟨e1, h1⟩
      · cases e1
      · cases e1; rfl
    have hgl : gL (tG t) = gL (tG tr) := by rw [htt]
    clear hc hm
    refine lv_istore (lv' := [(6, .int r6), (5, .int r9), (0, .ref b), (1, .ref (tH K)), (2, .ref (bH M)), (3, .ref oa), (4, .int (nI (9 * k)))]) F.1 F.2.1 dL_law_1137 hl (by decide) rfl (fun ls hl => ?_)
    refine lv_aload_n F.1 F.2.1 dL_law_1139 rfl (lv_at hl 4 rfl) ?_
    refine lw_T (As := []) (rest := []) ([(oa, .inl (cJ, 1, .inr (.inl w22)))] ++ (wTr cI cJ cO K t ++ wPl cI cJ kp)) F hw (q_3 _ _) (c_X4_thrown l G cI cJ cZ cO _ M u2) (cwV 0 F.2.2.2.2 gL_law_X4_thrown rfl rfl rfl (by decide +kernel) ⟨Nat.le_of_ble_eq_true rfl, Nat.le_of_ble_eq_true rfl⟩) rfl rfl rfl hl.1 rfl (lv_room (Nat.le_of_ble_eq_true rfl)) dL_law_1140 ⟨by show kc + 18 ≤ 601024; omega, by show ks + 591 ≤ 7293034; omega⟩ (fun rt ht => ?_)
    refine lv_iload F.1 F.2.1 dL_law_1143 (lv_at hl 1 rfl) ?_
    refine lv_icmp_eq (tgt := 1150) F.1 F.2.1 dL_law_1145 (by decide) (fun c1145 => ?_) (fun c1145 => ?_)
    rotate_left
    · exact (c1145 (ht.trans hcd)).elim
    refine lv_iload F.1 F.2.1 dL_law_1150 (lv_at hl 1 rfl) ?_
    refine lv_if_ne (tgt := 1167) F.1 F.2.1 dL_law_1152 (by decide) (fun c1152 => ?_) (fun c1152 => ?_)
    · refine lv_goto (tgt := 1549) F.1 F.2.1 dL_law_1167 (by decide) ?_
      refine lv_iinc (v := nI (9 * (k + 1))) (lv' := [(4, .int (nI (9 * (k + 1)))), (6, .int r6), (5, .int r9), (0, .ref b), (1, .ref (tH K)), (2, .ref (bH M)), (3, .ref oa)]) F.1 F.2.1 dL_law_1549 hl (k := 6) rfl (by rw [show Int32.ofInt 9 = nI 9 from rfl, nI_add, Nat.mul_succ]) (by decide) rfl (fun ls hl => ?_)
      refine lv_goto (tgt := 23) F.1 F.2.1 dL_law_1552 (by decide) ?_
      refine W.widen (k := 1000 + 60 * (k + 1) + (gL (tG t) - 65)) (n := 40000 + 11000 * (k + 1) + 10 * (gL (tG t) - 65)) (by omega) (by omega) ?_
      exact nx t kp u2 w22 H _ ls (hR2.up (by omega)) (pm_w hw (q_4 _ _ _ _)) (lv_sub hl [3, 4, 5, 6, 0] rfl)
    · refine lv_aload_n F.1 F.2.1 dL_law_1155 rfl (lv_at hl 5 rfl) ?_
      refine lv_iconst (v := 0) F.1 F.2.1 dL_law_1156 (by decide) ?_
      refine x_laldN F hw 0 1 rfl rfl 0 rfl (by decide) (by decide) dL_law_1157 ?_
      refine lv_iload F.1 F.2.1 dL_law_1158 (lv_at hl 0 rfl) ?_
      refine lv_i2l (v := r6.toInt64) F.1 F.2.1 dL_law_1160 (rfl) ?_
      refine x_l_eq (tgt := 1167) F dL_law_1161 dL_law_1162 (by decide) (fun c1161 => ?_) (fun c1161 => ?_)
      rotate_left
      · exact (c1161 (hv0 c1152)).elim
      refine lv_goto (tgt := 1549) F.1 F.2.1 dL_law_1167 (by decide) ?_
      refine lv_iinc (v := nI (9 * (k + 1))) (lv' := [(4, .int (nI (9 * (k + 1)))), (6, .int r6), (5, .int r9), (0, .ref b), (1, .ref (tH K)), (2, .ref (bH M)), (3, .ref oa)]) F.1 F.2.1 dL_law_1549 hl (k := 6) rfl (by rw [show Int32.ofInt 9 = nI 9 from rfl, nI_add, Nat.mul_succ]) (by decide) rfl (fun ls hl => ?_)
      refine lv_goto (tgt := 23) F.1 F.2.1 dL_law_1552 (by decide) ?_
      refine W.widen (k := 1000 + 60 * (k + 1) + (gL (tG t) - 65)) (n := 40000 + 11000 * (k + 1) + 10 * (gL (tG t) - 65)) (by omega) (by omega) ?_
      exact nx t kp u2 w22 H _ ls (hR2.up (by omega)) (pm_w hw (q_4 _ _ _ _)) (lv_sub hl [3, 4, 5, 6, 0] rfl)
  · try dsimp only at hc hw
    refine lv_istore (lv' := [(5, .int r9), (0, .ref b), (1, .ref (tH K)), (2, .ref (bH M)), (3, .ref oa), (4, .int (nI (9 * k)))]) F.1 F.2.1 dL_law_1131 hl (by decide) rfl (fun ls hl => ?_)
    refine lv_aload_n F.1 F.2.1 dL_law_1133 rfl (lv_at hl 3 rfl) ?_
    refine lw_V (As := []) (rest := []) ([(oa, .inl (cJ, 1, .inr (.inl w22)))] ++ (wTr cI cJ cO K t.1 ++ wPl cI cJ (kp ++ [t.2]))) F hw (q_8 (wPl_app kp t.2)) (c_X4_keep l G cI cJ cZ cO _ M v  hR.2.2.2.2.1 (by have h1 := hR.2.2.2.2.2.2.1; have h2 := hR.2.2.2.2.2.2.2.1; omega) (hR.2.2.2.2.2.1 0 (by decide))) (cwV 0 F.2.2.2.2 gL_law_X4_keep rfl rfl rfl (by decide +kernel) ⟨Nat.le_of_ble_eq_true rfl, Nat.le_of_ble_eq_true rfl⟩) rfl rfl rfl hl.1 rfl (lv_room (Nat.le_of_ble_eq_true rfl)) dL_law_1134 ⟨by show kc + 18 ≤ 601024; omega, by show ks + 591 ≤ 7293034; omega⟩ (fun r6 u2 H locs hm hw => ?_)
    obtain ⟨hcd, hv0, hR1⟩ := op_keepN (w2 := (.inr t, w22)) hR hno hc hm
    have hR2 : LRel t.1 (kp ++ [t.2]) u2 (2081 * k) := by
      rcases hR1 with ⟨t1, e1, h1⟩ | ⟨e1, h1⟩
      · cases e1; exact h1
      · cases e1
    have htt : tG t.1 = tG tr := by
      rcases hc with ⟨-, _, ⟨t1, e1, -, -, h1, -⟩, -⟩ | ⟨-, h1, -⟩
      · cases e1; rw [h1]
      · cases h1
    have hgl : gL (tG t.1) = gL (tG tr) := by rw [htt]
    clear hc hm
    refine lv_istore (lv' := [(6, .int r6), (5, .int r9), (0, .ref b), (1, .ref (tH K)), (2, .ref (bH M)), (3, .ref oa), (4, .int (nI (9 * k)))]) F.1 F.2.1 dL_law_1137 hl (by decide) rfl (fun ls hl => ?_)
    refine lv_aload_n F.1 F.2.1 dL_law_1139 rfl (lv_at hl 4 rfl) ?_
    refine lw_T (As := []) (rest := []) ([(oa, .inl (cJ, 1, .inr (.inl w22)))] ++ (wTr cI cJ cO K t.1 ++ wPl cI cJ (kp ++ [t.2]))) F hw (q_3 _ _) (c_X4_thrown l G cI cJ cZ cO _ M u2) (cwV 0 F.2.2.2.2 gL_law_X4_thrown rfl rfl rfl (by decide +kernel) ⟨Nat.le_of_ble_eq_true rfl, Nat.le_of_ble_eq_true rfl⟩) rfl rfl rfl hl.1 rfl (lv_room (Nat.le_of_ble_eq_true rfl)) dL_law_1140 ⟨by show kc + 18 ≤ 601024; omega, by show ks + 591 ≤ 7293034; omega⟩ (fun rt ht => ?_)
    refine lv_iload F.1 F.2.1 dL_law_1143 (lv_at hl 1 rfl) ?_
    refine lv_icmp_eq (tgt := 1150) F.1 F.2.1 dL_law_1145 (by decide) (fun c1145 => ?_) (fun c1145 => ?_)
    rotate_left
    · exact (c1145 (ht.trans hcd)).elim
    refine lv_iload F.1 F.2.1 dL_law_1150 (lv_at hl 1 rfl) ?_
    refine lv_if_ne (tgt := 1167) F.1 F.2.1 dL_law_1152 (by decide) (fun c1152 => ?_) (fun c1152 => ?_)
    · refine lv_goto (tgt := 1549) F.1 F.2.1 dL_law_1167 (by decide) ?_
      refine lv_iinc (v := nI (9 * (k + 1))) (lv' := [(4, .int (nI (9 * (k + 1)))), (6, .int r6), (5, .int r9), (0, .ref b), (1, .ref (tH K)), (2, .ref (bH M)), (3, .ref oa)]) F.1 F.2.1 dL_law_1549 hl (k := 6) rfl (by rw [show Int32.ofInt 9 = nI 9 from rfl, nI_add, Nat.mul_succ]) (by decide) rfl (fun ls hl => ?_)
      refine lv_goto (tgt := 23) F.1 F.2.1 dL_law_1552 (by decide) ?_
      refine W.widen (k := 1000 + 60 * (k + 1) + (gL (tG t.1) - 65)) (n := 40000 + 11000 * (k + 1) + 10 * (gL (tG t.1) - 65)) (by omega) (by omega) ?_
      exact nx t.1 (kp ++ [t.2]) u2 w22 H _ ls (hR2.up (by omega)) (pm_w hw (q_4 _ _ _ _)) (lv_sub hl [3, 4, 5, 6, 0] rfl)
    · refine lv_aload_n F.1 F.2.1 dL_law_1155 rfl (lv_at hl 5 rfl) ?_
      refine lv_iconst (v := 0) F.1 F.2.1 dL_law_1156 (by decide) ?_
      refine x_laldN F hw 0 1 rfl rfl 0 rfl (by decide) (by decide) dL_law_1157 ?_
      refine lv_iload F.1 F.2.1 dL_law_1158 (lv_at hl 0 rfl) ?_
      refine lv_i2l (v := r6.toInt64) F.1 F.2.1 dL_law_1160 (rfl) ?_
      refine x_l_eq (tgt := 1167) F dL_law_1161 dL_law_1162 (by decide) (fun c1161 => ?_) (fun c1161 => ?_)
      rotate_left
      · exact (c1161 (hv0 c1152)).elim
      refine lv_goto (tgt := 1549) F.1 F.2.1 dL_law_1167 (by decide) ?_
      refine lv_iinc (v := nI (9 * (k + 1))) (lv' := [(4, .int (nI (9 * (k + 1)))), (6, .int r6), (5, .int r9), (0, .ref b), (1, .ref (tH K)), (2, .ref (bH M)), (3, .ref oa)]) F.1 F.2.1 dL_law_1549 hl (k := 6) rfl (by rw [show Int32.ofInt 9 = nI 9 from rfl, nI_add, Nat.mul_succ]) (by decide) rfl (fun ls hl => ?_)
      refine lv_goto (tgt := 23) F.1 F.2.1 dL_law_1552 (by decide) ?_
      refine W.widen (k := 1000 + 60 * (k + 1) + (gL (tG t.1) - 65)) (n := 40000 + 11000 * (k + 1) + 10 * (gL (tG t.1) - 65)) (by omega) (by omega) ?_
      exact nx t.1 (kp ++ [t.2]) u2 w22 H _ ls (hR2.up (by omega)) (pm_w hw (q_4 _ _ _ _)) (lv_sub hl [3, 4, 5, 6, 0] rfl)

set_option maxHeartbeats 8000000 in
set_option maxRecDepth 100000 in
theorem lc_keepS {p : Program} {l : Launch} {e : Env} {s : State} {m : MethodId} {below : List Frame} {meth : Method} {c : Code} {G : va_G} {cI cJ cZ cO : ClassId} {b L oa : Nat} {xs : Nat → Int32} {K : TrA} {M : MA} {k kc ks : Nat} {tr : TrR} {kp : List (StA × StR)} {v : MR} {of9 : Nat → Int64} {H : Heap} {locs : List Loc} {ls : Array Slot} {S2 : StA} {y : StR} (F : CallFix p m c cL_law 8 s #[Value.ref b] wsL_law RL) (hst : l.stackTraces = false) (hE : xEn (fun q => s.heap.size ≤ q) s s.heap) (hX : va_X b L xs s s.heap) (hbl : b < s.heap.size) (hL : L ≤ 4608) (hk : 9 * k + 9 ≤ L) (nx : lwN p l e s m below meth c G cI cJ cZ cO b oa K M (k + 1)) (hkc : kc = 1000 + 60 * k + (gL (tG tr) - 65)) (hks : ks = 40000 + 11000 * k + 10 * (gL (tG tr) - 65)) (hR : LRel tr kp v (2081 * k)) (hw : xW G (xK cI cJ cZ cO) (fun q => s.heap.size ≤ q) s.heap s ([(oa, .inl (cJ, 1, .inr (.inl of9)))] ++ (wTr cI cJ cO K tr ++ (wPl cI cJ kp ++ wMo cI cJ cZ M v))) H locs) (hl : lv_has ls 8 [(0, .ref b), (1, .ref (tH K)), (2, .ref (bH M)), (3, .ref oa), (4, .int (nI (9 * k)))]) (hlt : tN tr < 3) (hkt : kp[tN tr]? = some (S2, y)) (hf : tF tr (tN tr) = some (sH S2)) :
    W p l e room_1 s m #[Value.ref b] below meth c H locs kc ks (lw_Z below #[Value.ref b] s) (F0 m 1126 ls []) := by
  have hg5 : 65 ≤ gL (tG tr) ∧ gL (tG tr) ≤ 2080 := by
    have h := hR.1.2.1
    unfold gLok at h
    omega
  refine lv_aload_n F.1 F.2.1 dL_law_1126 rfl (lv_at hl 1 rfl) ?_
  refine lv_aload_n F.1 F.2.1 dL_law_1127 rfl (lv_at hl 3 rfl) ?_
  refine lw_S (As := [.ref (tH K), .ref oa]) (rest := []) (wPl cI cJ (kp.eraseIdx (tN tr)) ++ wMo cI cJ cZ M v) F hw hE (q_7 (wPl_out hkt)) (c_L_keepS l G cI cJ cZ cO _ hst K tr S2 y hlt hR.1.1 hf oa of9) (vx_cwSW 2 F.2.2.2.2 gL_law_L_keep rfl rfl rfl (by decide +kernel) ⟨Nat.le_of_ble_eq_true rfl, Nat.le_of_ble_eq_true rfl⟩) rfl hl.1 rfl (lv_room (Nat.le_of_ble_eq_true rfl)) dL_law_1128 ⟨by show kc + 1 ≤ 601024; omega, by show ks + 6 ≤ 7293034; omega⟩ (fun r9 w2 H locs hc hw => ?_)
  refine lv_istore (lv' := [(5, .int r9), (0, .ref b), (1, .ref (tH K)), (2, .ref (bH M)), (3, .ref oa), (4, .int (nI (9 * k)))]) F.1 F.2.1 dL_law_1131 hl (by decide) rfl (fun ls hl => ?_)
  refine lv_aload_n F.1 F.2.1 dL_law_1133 rfl (lv_at hl 3 rfl) ?_
  refine lw_V (As := []) (rest := []) ([(oa, .inl (cJ, 1, .inr (.inl w2.2)))] ++ (wTr cI cJ cO K w2.1.1 ++ wPl cI cJ (kp.set (tN tr) (S2, w2.1.2)))) F hw (q_8 (wPl_set S2 w2.1.2 (List.getElem?_eq_some_iff.mp hkt).1)) (c_X4_keep l G cI cJ cZ cO _ M v  hR.2.2.2.2.1 (by have h1 := hR.2.2.2.2.2.2.1; have h2 := hR.2.2.2.2.2.2.2.1; omega) (hR.2.2.2.2.2.1 0 (by decide))) (cwV 0 F.2.2.2.2 gL_law_X4_keep rfl rfl rfl (by decide +kernel) ⟨Nat.le_of_ble_eq_true rfl, Nat.le_of_ble_eq_true rfl⟩) rfl rfl rfl hl.1 rfl (lv_room (Nat.le_of_ble_eq_true rfl)) dL_law_1134 ⟨by show kc + 1 ≤ 601024; omega, by show ks + 6 ≤ 7293034; omega⟩ (fun r6 u2 H locs hm hw => ?_)
  obtain ⟨hcd, hv0, hR2⟩ := op_keepS hR hlt hkt hc hm
  have hgl : gL (tG w2.1.1) = gL (tG tr) := by obtain ⟨-, _, ⟨-, h⟩, -⟩ := hc; rw [h]; rfl
  clear hc hm
  refine lv_istore (lv' := [(6, .int r6), (5, .int r9), (0, .ref b), (1, .ref (tH K)), (2, .ref (bH M)), (3, .ref oa), (4, .int (nI (9 * k)))]) F.1 F.2.1 dL_law_1137 hl (by decide) rfl (fun ls hl => ?_)
  refine lv_aload_n F.1 F.2.1 dL_law_1139 rfl (lv_at hl 4 rfl) ?_
  refine lw_T (As := []) (rest := []) ([(oa, .inl (cJ, 1, .inr (.inl w2.2)))] ++ (wTr cI cJ cO K w2.1.1 ++ wPl cI cJ (kp.set (tN tr) (S2, w2.1.2)))) F hw (q_3 _ _) (c_X4_thrown l G cI cJ cZ cO _ M u2) (cwV 0 F.2.2.2.2 gL_law_X4_thrown rfl rfl rfl (by decide +kernel) ⟨Nat.le_of_ble_eq_true rfl, Nat.le_of_ble_eq_true rfl⟩) rfl rfl rfl hl.1 rfl (lv_room (Nat.le_of_ble_eq_true rfl)) dL_law_1140 ⟨by show kc + 1 ≤ 601024; omega, by show ks + 6 ≤ 7293034; omega⟩ (fun rt ht => ?_)
  refine lv_iload F.1 F.2.1 dL_law_1143 (lv_at hl 1 rfl) ?_
  refine lv_icmp_eq (tgt := 1150) F.1 F.2.1 dL_law_1145 (by decide) (fun c1145 => ?_) (fun c1145 => ?_)
  rotate_left
  · exact (c1145 (ht.trans hcd)).elim
  refine lv_iload F.1 F.2.1 dL_law_1150 (lv_at hl 1 rfl) ?_
  refine lv_if_ne (tgt := 1167) F.1 F.2.1 dL_law_1152 (by decide) (fun c1152 => ?_) (fun c1152 => ?_)
  · refine lv_goto (tgt := 1549) F.1 F.2.1 dL_law_1167 (by decide) ?_
    refine lv_iinc (v := nI (9 * (k + 1))) (lv' := [(4, .int (nI (9 * (k + 1)))), (6, .int r6), (5, .int r9), (0, .ref b), (1, .ref (tH K)), (2, .ref (bH M)), (3, .ref oa)]) F.1 F.2.1 dL_law_1549 hl (k := 6) rfl (by rw [show Int32.ofInt 9 = nI 9 from rfl, nI_add, Nat.mul_succ]) (by decide) rfl (fun ls hl => ?_)
    refine lv_goto (tgt := 23) F.1 F.2.1 dL_law_1552 (by decide) ?_
    refine W.widen (k := 1000 + 60 * (k + 1) + (gL (tG w2.1.1) - 65)) (n := 40000 + 11000 * (k + 1) + 10 * (gL (tG w2.1.1) - 65)) (by omega) (by omega) ?_
    exact nx w2.1.1 (kp.set (tN tr) (S2, w2.1.2)) u2 w2.2 H _ ls (hR2.up (by omega)) (pm_w hw (q_4 _ _ _ _)) (lv_sub hl [3, 4, 5, 6, 0] rfl)
  · refine lv_aload_n F.1 F.2.1 dL_law_1155 rfl (lv_at hl 5 rfl) ?_
    refine lv_iconst (v := 0) F.1 F.2.1 dL_law_1156 (by decide) ?_
    refine x_laldN F hw 0 1 rfl rfl 0 rfl (by decide) (by decide) dL_law_1157 ?_
    refine lv_iload F.1 F.2.1 dL_law_1158 (lv_at hl 0 rfl) ?_
    refine lv_i2l (v := r6.toInt64) F.1 F.2.1 dL_law_1160 (rfl) ?_
    refine x_l_eq (tgt := 1167) F dL_law_1161 dL_law_1162 (by decide) (fun c1161 => ?_) (fun c1161 => ?_)
    rotate_left
    · exact (c1161 (hv0 c1152)).elim
    refine lv_goto (tgt := 1549) F.1 F.2.1 dL_law_1167 (by decide) ?_
    refine lv_iinc (v := nI (9 * (k + 1))) (lv' := [(4, .int (nI (9 * (k + 1)))), (6, .int r6), (5, .int r9), (0, .ref b), (1, .ref (tH K)), (2, .ref (bH M)), (3, .ref oa)]) F.1 F.2.1 dL_law_1549 hl (k := 6) rfl (by rw [show Int32.ofInt 9 = nI 9 from rfl, nI_add, Nat.mul_succ]) (by decide) rfl (fun ls hl => ?_)
    refine lv_goto (tgt := 23) F.1 F.2.1 dL_law_1552 (by decide) ?_
    refine W.widen (k := 1000 + 60 * (k + 1) + (gL (tG w2.1.1) - 65)) (n := 40000 + 11000 * (k + 1) + 10 * (gL (tG w2.1.1) - 65)) (by omega) (by omega) ?_
    exact nx w2.1.1 (kp.set (tN tr) (S2, w2.1.2)) u2 w2.2 H _ ls (hR2.up (by omega)) (pm_w hw (q_4 _ _ _ _)) (lv_sub hl [3, 4, 5, 6, 0] rfl)

set_option maxHeartbeats 8000000 in
set_option maxRecDepth 100000 in
theorem lc_backN {p : Program} {l : Launch} {e : Env} {s : State} {m : MethodId} {below : List Frame} {meth : Method} {c : Code} {G : va_G} {cI cJ cZ cO : ClassId} {b L oa : Nat} {xs : Nat → Int32} {K : TrA} {M : MA} {k kc ks : Nat} {tr : TrR} {kp : List (StA × StR)} {v : MR} {of9 : Nat → Int64} {H : Heap} {locs : List Loc} {ls : Array Slot}  (F : CallFix p m c cL_law 8 s #[Value.ref b] wsL_law RL) (hst : l.stackTraces = false) (hE : xEn (fun q => s.heap.size ≤ q) s s.heap) (hX : va_X b L xs s s.heap) (hbl : b < s.heap.size) (hL : L ≤ 4608) (hk : 9 * k + 9 ≤ L) (nx : lwN p l e s m below meth c G cI cJ cZ cO b oa K M (k + 1)) (hkc : kc = 1000 + 60 * k + (gL (tG tr) - 65)) (hks : ks = 40000 + 11000 * k + 10 * (gL (tG tr) - 65)) (hR : LRel tr kp v (2081 * k)) (hw : xW G (xK cI cJ cZ cO) (fun q => s.heap.size ≤ q) s.heap s ([(oa, .inl (cJ, 1, .inr (.inl of9)))] ++ (wTr cI cJ cO K tr ++ (wPl cI cJ kp ++ wMo cI cJ cZ M v))) H locs) (hl : lv_has ls 8 [(0, .ref b), (1, .ref (tH K)), (2, .ref (bH M)), (3, .ref oa), (4, .int (nI (9 * k)))]) (hbad : ∀ j, j < tN tr → (xs ((9 * k) + 1)) ≠ nI j) :
    W p l e room_1 s m #[Value.ref b] below meth c H locs kc ks (lw_Z below #[Value.ref b] s) (F0 m 1170 ls []) := by
  have hg5 : 65 ≤ gL (tG tr) ∧ gL (tG tr) ≤ 2080 := by
    have h := hR.1.2.1
    unfold gLok at h
    omega
  refine lv_aload_n F.1 F.2.1 dL_law_1170 rfl (lv_at hl 1 rfl) ?_
  refine lv_aload_n F.1 F.2.1 dL_law_1171 rfl (lv_at hl 0 rfl) ?_
  refine lv_iload F.1 F.2.1 dL_law_1172 (lv_at hl 4 rfl) ?_
  refine lv_iconst (v := 1) F.1 F.2.1 dL_law_1174 (by decide) ?_
  refine lv_iadd F.1 F.2.1 dL_law_1175 ?_
  refine x_topi (v := nI ((9 * k) + 1)) ((nI_add (9 * k) 1).symm) ?_
  refine x_sldN F hX hbl hw ((9 * k) + 1) rfl (by omega) (by omega) dL_law_1176 ?_
  refine lv_aload_n F.1 F.2.1 dL_law_1177 rfl (lv_at hl 3 rfl) ?_
  refine lw_S (As := [.ref (tH K), .int (xs ((9 * k) + 1)), .ref oa]) (rest := []) (wPl cI cJ kp ++ wMo cI cJ cZ M v) F hw hE (q_1 _ _ _ _) (c_L_backN l G cI cJ cZ cO _ hst K tr (xs ((9 * k) + 1)) hR.2.2.2.2.2.2.2.1 hbad oa of9) (vx_cwSW 3 F.2.2.2.2 gL_law_L_back rfl rfl rfl (by decide +kernel) ⟨Nat.le_of_ble_eq_true rfl, Nat.le_of_ble_eq_true rfl⟩) rfl hl.1 rfl (lv_room (Nat.le_of_ble_eq_true rfl)) dL_law_1178 ⟨by show kc + 1 ≤ 601024; omega, by show ks + 6 ≤ 7293034; omega⟩ (fun r9 w2 H locs hc hw => ?_)
  refine lv_istore (lv' := [(5, .int r9), (0, .ref b), (1, .ref (tH K)), (2, .ref (bH M)), (3, .ref oa), (4, .int (nI (9 * k)))]) F.1 F.2.1 dL_law_1181 hl (by decide) rfl (fun ls hl => ?_)
  refine lv_aload_n F.1 F.2.1 dL_law_1183 rfl (lv_at hl 3 rfl) ?_
  refine lv_aload_n F.1 F.2.1 dL_law_1184 rfl (lv_at hl 1 rfl) ?_
  refine lv_iload F.1 F.2.1 dL_law_1185 (lv_at hl 5 rfl) ?_
  refine lv_iconst (v := 1) F.1 F.2.1 dL_law_1187 (by decide) ?_
  refine lv_iadd F.1 F.2.1 dL_law_1188 ?_
  refine x_topi (v := nI ((9 * k) + 1)) ((nI_add (9 * k) 1).symm) ?_
  refine x_sldN F hX hbl hw ((9 * k) + 1) rfl (by omega) (by omega) dL_law_1189 ?_
  refine lw_V (As := [.int (xs ((9 * k) + 1))]) (rest := []) ([(oa, .inl (cJ, 1, .inr (.inl w2.2)))] ++ (wTr cI cJ cO K w2.1 ++ wPl cI cJ kp)) F hw (q_2 _ _ _ _) (c_X4_back l G cI cJ cZ cO _ M v (xs ((9 * k) + 1)) hR.2.2.2.2.1 (by have h1 := hR.2.2.2.2.2.2.1; have h2 := hR.2.2.2.2.2.2.2.1; omega) hR.2.2.2.2.2.1) (cwV 1 F.2.2.2.2 gL_law_X4_back rfl rfl rfl (by decide +kernel) ⟨Nat.le_of_ble_eq_true rfl, Nat.le_of_ble_eq_true rfl⟩) rfl rfl rfl hl.1 rfl (lv_room (Nat.le_of_ble_eq_true rfl)) dL_law_1190 ⟨by show kc + 1 ≤ 601024; omega, by show ks + 6 ≤ 7293034; omega⟩ (fun r6 u2 H locs hm hw => ?_)
  obtain ⟨hcd, hv0, hR2⟩ := op_backN hR hbad hc hm
  have hgl : gL (tG w2.1) = gL (tG tr) := by rcases hc with ⟨-, _, h, -⟩ | ⟨-, h, -⟩; exact h.elim; rw [h]
  clear hc hm
  refine lv_istore (lv' := [(6, .int r6), (5, .int r9), (0, .ref b), (1, .ref (tH K)), (2, .ref (bH M)), (3, .ref oa), (4, .int (nI (9 * k)))]) F.1 F.2.1 dL_law_1193 hl (by decide) rfl (fun ls hl => ?_)
  refine lv_aload_n F.1 F.2.1 dL_law_1195 rfl (lv_at hl 4 rfl) ?_
  refine lw_T (As := []) (rest := []) ([(oa, .inl (cJ, 1, .inr (.inl w2.2)))] ++ (wTr cI cJ cO K w2.1 ++ wPl cI cJ kp)) F hw (q_3 _ _) (c_X4_thrown l G cI cJ cZ cO _ M u2) (cwV 0 F.2.2.2.2 gL_law_X4_thrown rfl rfl rfl (by decide +kernel) ⟨Nat.le_of_ble_eq_true rfl, Nat.le_of_ble_eq_true rfl⟩) rfl rfl rfl hl.1 rfl (lv_room (Nat.le_of_ble_eq_true rfl)) dL_law_1196 ⟨by show kc + 1 ≤ 601024; omega, by show ks + 6 ≤ 7293034; omega⟩ (fun rt ht => ?_)
  refine lv_iload F.1 F.2.1 dL_law_1199 (lv_at hl 1 rfl) ?_
  refine lv_icmp_eq (tgt := 1206) F.1 F.2.1 dL_law_1201 (by decide) (fun c1201 => ?_) (fun c1201 => ?_)
  rotate_left
  · exact (c1201 (ht.trans hcd)).elim
  refine lv_iload F.1 F.2.1 dL_law_1206 (lv_at hl 1 rfl) ?_
  refine lv_if_ne (tgt := 1223) F.1 F.2.1 dL_law_1208 (by decide) (fun c1208 => ?_) (fun c1208 => ?_)
  · refine lv_goto (tgt := 1549) F.1 F.2.1 dL_law_1223 (by decide) ?_
    refine lv_iinc (v := nI (9 * (k + 1))) (lv' := [(4, .int (nI (9 * (k + 1)))), (6, .int r6), (5, .int r9), (0, .ref b), (1, .ref (tH K)), (2, .ref (bH M)), (3, .ref oa)]) F.1 F.2.1 dL_law_1549 hl (k := 6) rfl (by rw [show Int32.ofInt 9 = nI 9 from rfl, nI_add, Nat.mul_succ]) (by decide) rfl (fun ls hl => ?_)
    refine lv_goto (tgt := 23) F.1 F.2.1 dL_law_1552 (by decide) ?_
    refine W.widen (k := 1000 + 60 * (k + 1) + (gL (tG w2.1) - 65)) (n := 40000 + 11000 * (k + 1) + 10 * (gL (tG w2.1) - 65)) (by omega) (by omega) ?_
    exact nx w2.1 kp u2 w2.2 H _ ls (hR2.up (by omega)) (pm_w hw (q_4 _ _ _ _)) (lv_sub hl [3, 4, 5, 6, 0] rfl)
  · refine lv_aload_n F.1 F.2.1 dL_law_1211 rfl (lv_at hl 5 rfl) ?_
    refine lv_iconst (v := 0) F.1 F.2.1 dL_law_1212 (by decide) ?_
    refine x_laldN F hw 0 1 rfl rfl 0 rfl (by decide) (by decide) dL_law_1213 ?_
    refine lv_iload F.1 F.2.1 dL_law_1214 (lv_at hl 0 rfl) ?_
    refine lv_i2l (v := r6.toInt64) F.1 F.2.1 dL_law_1216 (rfl) ?_
    refine x_l_eq (tgt := 1223) F dL_law_1217 dL_law_1218 (by decide) (fun c1217 => ?_) (fun c1217 => ?_)
    rotate_left
    · exact (c1217 (hv0 c1208)).elim
    refine lv_goto (tgt := 1549) F.1 F.2.1 dL_law_1223 (by decide) ?_
    refine lv_iinc (v := nI (9 * (k + 1))) (lv' := [(4, .int (nI (9 * (k + 1)))), (6, .int r6), (5, .int r9), (0, .ref b), (1, .ref (tH K)), (2, .ref (bH M)), (3, .ref oa)]) F.1 F.2.1 dL_law_1549 hl (k := 6) rfl (by rw [show Int32.ofInt 9 = nI 9 from rfl, nI_add, Nat.mul_succ]) (by decide) rfl (fun ls hl => ?_)
    refine lv_goto (tgt := 23) F.1 F.2.1 dL_law_1552 (by decide) ?_
    refine W.widen (k := 1000 + 60 * (k + 1) + (gL (tG w2.1) - 65)) (n := 40000 + 11000 * (k + 1) + 10 * (gL (tG w2.1) - 65)) (by omega) (by omega) ?_
    exact nx w2.1 kp u2 w2.2 H _ ls (hR2.up (by omega)) (pm_w hw (q_4 _ _ _ _)) (lv_sub hl [3, 4, 5, 6, 0] rfl)

set_option maxHeartbeats 8000000 in
set_option maxRecDepth 100000 in
theorem lc_backS {p : Program} {l : Launch} {e : Env} {s : State} {m : MethodId} {below : List Frame} {meth : Method} {c : Code} {G : va_G} {cI cJ cZ cO : ClassId} {b L oa : Nat} {xs : Nat → Int32} {K : TrA} {M : MA} {k kc ks : Nat} {tr : TrR} {kp : List (StA × StR)} {v : MR} {of9 : Nat → Int64} {H : Heap} {locs : List Loc} {ls : Array Slot} {S2 : StA} {y : StR} {j : Nat} (F : CallFix p m c cL_law 8 s #[Value.ref b] wsL_law RL) (hst : l.stackTraces = false) (hE : xEn (fun q => s.heap.size ≤ q) s s.heap) (hX : va_X b L xs s s.heap) (hbl : b < s.heap.size) (hL : L ≤ 4608) (hk : 9 * k + 9 ≤ L) (nx : lwN p l e s m below meth c G cI cJ cZ cO b oa K M (k + 1)) (hkc : kc = 1000 + 60 * k + (gL (tG tr) - 65)) (hks : ks = 40000 + 11000 * k + 10 * (gL (tG tr) - 65)) (hR : LRel tr kp v (2081 * k)) (hw : xW G (xK cI cJ cZ cO) (fun q => s.heap.size ≤ q) s.heap s ([(oa, .inl (cJ, 1, .inr (.inl of9)))] ++ (wTr cI cJ cO K tr ++ (wPl cI cJ kp ++ wMo cI cJ cZ M v))) H locs) (hl : lv_has ls 8 [(0, .ref b), (1, .ref (tH K)), (2, .ref (bH M)), (3, .ref oa), (4, .int (nI (9 * k)))]) (hj : j < tN tr) (hkt : kp[j]? = some (S2, y)) (hf : tF tr j = some (sH S2)) (hok : StOk y) (hx : (xs ((9 * k) + 1)) = nI j) :
    W p l e room_1 s m #[Value.ref b] below meth c H locs kc ks (lw_Z below #[Value.ref b] s) (F0 m 1170 ls []) := by
  have hg5 : 65 ≤ gL (tG tr) ∧ gL (tG tr) ≤ 2080 := by
    have h := hR.1.2.1
    unfold gLok at h
    omega
  refine lv_aload_n F.1 F.2.1 dL_law_1170 rfl (lv_at hl 1 rfl) ?_
  refine lv_aload_n F.1 F.2.1 dL_law_1171 rfl (lv_at hl 0 rfl) ?_
  refine lv_iload F.1 F.2.1 dL_law_1172 (lv_at hl 4 rfl) ?_
  refine lv_iconst (v := 1) F.1 F.2.1 dL_law_1174 (by decide) ?_
  refine lv_iadd F.1 F.2.1 dL_law_1175 ?_
  refine x_topi (v := nI ((9 * k) + 1)) ((nI_add (9 * k) 1).symm) ?_
  refine x_sldN F hX hbl hw ((9 * k) + 1) rfl (by omega) (by omega) dL_law_1176 ?_
  refine x_topi (v := nI j) hx.symm ?_
  refine lv_aload_n F.1 F.2.1 dL_law_1177 rfl (lv_at hl 3 rfl) ?_
  refine lw_S (As := [.ref (tH K), .int (nI j), .ref oa]) (rest := []) (wPl cI cJ (kp.eraseIdx j) ++ wMo cI cJ cZ M v) F hw hE (q_7 (wPl_out hkt)) (c_L_backS l G cI cJ cZ cO _ hst K tr S2 y j hR.2.2.2.2.2.2.2.1 hj hok hf oa of9) (vx_cwSW 3 F.2.2.2.2 gL_law_L_back rfl rfl rfl (by decide +kernel) ⟨Nat.le_of_ble_eq_true rfl, Nat.le_of_ble_eq_true rfl⟩) rfl hl.1 rfl (lv_room (Nat.le_of_ble_eq_true rfl)) dL_law_1178 ⟨by show kc + 1 ≤ 601024; omega, by show ks + 6 ≤ 7293034; omega⟩ (fun r9 w2 H locs hc hw => ?_)
  refine lv_istore (lv' := [(5, .int r9), (0, .ref b), (1, .ref (tH K)), (2, .ref (bH M)), (3, .ref oa), (4, .int (nI (9 * k)))]) F.1 F.2.1 dL_law_1181 hl (by decide) rfl (fun ls hl => ?_)
  refine lv_aload_n F.1 F.2.1 dL_law_1183 rfl (lv_at hl 3 rfl) ?_
  refine lv_aload_n F.1 F.2.1 dL_law_1184 rfl (lv_at hl 1 rfl) ?_
  refine lv_iload F.1 F.2.1 dL_law_1185 (lv_at hl 5 rfl) ?_
  refine lv_iconst (v := 1) F.1 F.2.1 dL_law_1187 (by decide) ?_
  refine lv_iadd F.1 F.2.1 dL_law_1188 ?_
  refine x_topi (v := nI ((9 * k) + 1)) ((nI_add (9 * k) 1).symm) ?_
  refine x_sldN F hX hbl hw ((9 * k) + 1) rfl (by omega) (by omega) dL_law_1189 ?_
  refine x_topi (v := nI j) hx.symm ?_
  refine lw_V (As := [.int (nI j)]) (rest := []) ([(oa, .inl (cJ, 1, .inr (.inl w2.2)))] ++ (wTr cI cJ cO K w2.1 ++ wPl cI cJ kp)) F hw (q_8 (wPl_out hkt)) (c_X4_back l G cI cJ cZ cO _ M v (nI j) hR.2.2.2.2.1 (by have h1 := hR.2.2.2.2.2.2.1; have h2 := hR.2.2.2.2.2.2.2.1; omega) hR.2.2.2.2.2.1) (cwV 1 F.2.2.2.2 gL_law_X4_back rfl rfl rfl (by decide +kernel) ⟨Nat.le_of_ble_eq_true rfl, Nat.le_of_ble_eq_true rfl⟩) rfl rfl rfl hl.1 rfl (lv_room (Nat.le_of_ble_eq_true rfl)) dL_law_1190 ⟨by show kc + 1 ≤ 601024; omega, by show ks + 6 ≤ 7293034; omega⟩ (fun r6 u2 H locs hm hw => ?_)
  obtain ⟨hcd, hv0, hR2⟩ := op_backS hR hj hkt hc hm
  have hgl : gL (tG w2.1) = gL (tG tr) := by obtain ⟨-, _, ⟨-, h⟩, -⟩ := hc; rw [h]; rfl
  clear hc hm
  refine lv_istore (lv' := [(6, .int r6), (5, .int r9), (0, .ref b), (1, .ref (tH K)), (2, .ref (bH M)), (3, .ref oa), (4, .int (nI (9 * k)))]) F.1 F.2.1 dL_law_1193 hl (by decide) rfl (fun ls hl => ?_)
  refine lv_aload_n F.1 F.2.1 dL_law_1195 rfl (lv_at hl 4 rfl) ?_
  refine lw_T (As := []) (rest := []) ([(oa, .inl (cJ, 1, .inr (.inl w2.2)))] ++ (wTr cI cJ cO K w2.1 ++ wPl cI cJ kp)) F hw (q_3 _ _) (c_X4_thrown l G cI cJ cZ cO _ M u2) (cwV 0 F.2.2.2.2 gL_law_X4_thrown rfl rfl rfl (by decide +kernel) ⟨Nat.le_of_ble_eq_true rfl, Nat.le_of_ble_eq_true rfl⟩) rfl rfl rfl hl.1 rfl (lv_room (Nat.le_of_ble_eq_true rfl)) dL_law_1196 ⟨by show kc + 1 ≤ 601024; omega, by show ks + 6 ≤ 7293034; omega⟩ (fun rt ht => ?_)
  refine lv_iload F.1 F.2.1 dL_law_1199 (lv_at hl 1 rfl) ?_
  refine lv_icmp_eq (tgt := 1206) F.1 F.2.1 dL_law_1201 (by decide) (fun c1201 => ?_) (fun c1201 => ?_)
  rotate_left
  · exact (c1201 (ht.trans hcd)).elim
  refine lv_iload F.1 F.2.1 dL_law_1206 (lv_at hl 1 rfl) ?_
  refine lv_if_ne (tgt := 1223) F.1 F.2.1 dL_law_1208 (by decide) (fun c1208 => ?_) (fun c1208 => ?_)
  · refine lv_goto (tgt := 1549) F.1 F.2.1 dL_law_1223 (by decide) ?_
    refine lv_iinc (v := nI (9 * (k + 1))) (lv' := [(4, .int (nI (9 * (k + 1)))), (6, .int r6), (5, .int r9), (0, .ref b), (1, .ref (tH K)), (2, .ref (bH M)), (3, .ref oa)]) F.1 F.2.1 dL_law_1549 hl (k := 6) rfl (by rw [show Int32.ofInt 9 = nI 9 from rfl, nI_add, Nat.mul_succ]) (by decide) rfl (fun ls hl => ?_)
    refine lv_goto (tgt := 23) F.1 F.2.1 dL_law_1552 (by decide) ?_
    refine W.widen (k := 1000 + 60 * (k + 1) + (gL (tG w2.1) - 65)) (n := 40000 + 11000 * (k + 1) + 10 * (gL (tG w2.1) - 65)) (by omega) (by omega) ?_
    exact nx w2.1 kp u2 w2.2 H _ ls (hR2.up (by omega)) (pm_w hw (q_4 _ _ _ _)) (lv_sub hl [3, 4, 5, 6, 0] rfl)
  · refine lv_aload_n F.1 F.2.1 dL_law_1211 rfl (lv_at hl 5 rfl) ?_
    refine lv_iconst (v := 0) F.1 F.2.1 dL_law_1212 (by decide) ?_
    refine x_laldN F hw 0 1 rfl rfl 0 rfl (by decide) (by decide) dL_law_1213 ?_
    refine lv_iload F.1 F.2.1 dL_law_1214 (lv_at hl 0 rfl) ?_
    refine lv_i2l (v := r6.toInt64) F.1 F.2.1 dL_law_1216 (rfl) ?_
    refine x_l_eq (tgt := 1223) F dL_law_1217 dL_law_1218 (by decide) (fun c1217 => ?_) (fun c1217 => ?_)
    rotate_left
    · exact (c1217 (hv0 c1208)).elim
    refine lv_goto (tgt := 1549) F.1 F.2.1 dL_law_1223 (by decide) ?_
    refine lv_iinc (v := nI (9 * (k + 1))) (lv' := [(4, .int (nI (9 * (k + 1)))), (6, .int r6), (5, .int r9), (0, .ref b), (1, .ref (tH K)), (2, .ref (bH M)), (3, .ref oa)]) F.1 F.2.1 dL_law_1549 hl (k := 6) rfl (by rw [show Int32.ofInt 9 = nI 9 from rfl, nI_add, Nat.mul_succ]) (by decide) rfl (fun ls hl => ?_)
    refine lv_goto (tgt := 23) F.1 F.2.1 dL_law_1552 (by decide) ?_
    refine W.widen (k := 1000 + 60 * (k + 1) + (gL (tG w2.1) - 65)) (n := 40000 + 11000 * (k + 1) + 10 * (gL (tG w2.1) - 65)) (by omega) (by omega) ?_
    exact nx w2.1 kp u2 w2.2 H _ ls (hR2.up (by omega)) (pm_w hw (q_4 _ _ _ _)) (lv_sub hl [3, 4, 5, 6, 0] rfl)
