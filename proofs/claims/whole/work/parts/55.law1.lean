set_option maxHeartbeats 8000000 in
set_option maxRecDepth 100000 in
theorem lc_clear {p : Program} {l : Launch} {e : Env} {s : State} {m : MethodId} {below : List Frame} {meth : Method} {c : Code} {G : va_G} {cI cJ cZ cO : ClassId} {b L oa : Nat} {xs : Nat → Int32} {K : TrA} {M : MA} {k kc ks : Nat} {tr : TrR} {kp : List (StA × StR)} {v : MR} {of9 : Nat → Int64} {H : Heap} {locs : List Loc} {ls : Array Slot}  (F : CallFix p m c cL_law 8 s #[Value.ref b] wsL_law RL) (hst : l.stackTraces = false) (hE : xEn (fun q => s.heap.size ≤ q) s s.heap) (hX : va_X b L xs s s.heap) (hbl : b < s.heap.size) (hL : L ≤ 4608) (hk : 9 * k + 9 ≤ L) (nx : lwN p l e s m below meth c G cI cJ cZ cO b oa K M (k + 1)) (hkc : kc = 1000 + 60 * k + (gL (tG tr) - 65)) (hks : ks = 40000 + 11000 * k + 10 * (gL (tG tr) - 65)) (hR : LRel tr kp v (2081 * k)) (hw : xW G (xK cI cJ cZ cO) (fun q => s.heap.size ≤ q) s.heap s ([(oa, .inl (cJ, 1, .inr (.inl of9)))] ++ (wTr cI cJ cO K tr ++ (wPl cI cJ kp ++ wMo cI cJ cZ M v))) H locs) (hl : lv_has ls 8 [(0, .ref b), (1, .ref (tH K)), (2, .ref (bH M)), (3, .ref oa), (4, .int (nI (9 * k)))]) :
    W p l e room_1 s m #[Value.ref b] below meth c H locs kc ks (lw_Z below #[Value.ref b] s) (F0 m 128 ls []) := by
  have hg5 : 65 ≤ gL (tG tr) ∧ gL (tG tr) ≤ 2080 := by
    have h := hR.1.2.1
    unfold gLok at h
    omega
  refine lv_aload_n F.1 F.2.1 dL_law_128 rfl (lv_at hl 1 rfl) ?_
  refine lw_V (As := []) (rest := []) ([(oa, .inl (cJ, 1, .inr (.inl of9)))] ++ (wPl cI cJ kp ++ wMo cI cJ cZ M v)) F hw (q_5 _ _ _ _) (c_X3_clear l G cI cJ cZ cO _ K tr  hR.1.1.1.1 hR.1.1.2.1.1) (cwV 0 F.2.2.2.2 gL_law_X3_clear rfl rfl rfl (by decide +kernel) ⟨Nat.le_of_ble_eq_true rfl, Nat.le_of_ble_eq_true rfl⟩) rfl rfl rfl hl.1 rfl (lv_room (Nat.le_of_ble_eq_true rfl)) dL_law_129 ⟨by show kc ≤ 601024; omega, by show ks ≤ 7293034; omega⟩ (fun r9 w2 H locs hc hw => ?_)
  refine lv_aload_n F.1 F.2.1 dL_law_132 rfl (lv_at hl 2 rfl) ?_
  refine lw_V (As := []) (rest := [.int r9]) ([(oa, .inl (cJ, 1, .inr (.inl of9)))] ++ (wTr cI cJ cO K w2 ++ wPl cI cJ kp)) F hw (q_6 _ _ _ _) (c_X4_clear l G cI cJ cZ cO _ M v  ) (cwV 0 F.2.2.2.2 gL_law_X4_clear rfl rfl rfl (by decide +kernel) ⟨Nat.le_of_ble_eq_true rfl, Nat.le_of_ble_eq_true rfl⟩) rfl rfl rfl hl.1 rfl (lv_room (Nat.le_of_ble_eq_true rfl)) dL_law_133 ⟨by show kc ≤ 601024; omega, by show ks ≤ 7293034; omega⟩ (fun r6 u2 H locs hm hw => ?_)
  obtain ⟨hcd, hR2⟩ := op_clear hR hc hm
  have hgl : gL (tG w2) = gL (tG tr) := by obtain ⟨-, x, -, h⟩ := hc; rw [h]; rfl
  clear hc hm
  refine lv_icmp_eq (tgt := 1549) F.1 F.2.1 dL_law_136 (by decide) (fun c136 => ?_) (fun c136 => ?_)
  rotate_left
  · exact (c136 hcd).elim
  refine lv_iinc (v := nI (9 * (k + 1))) (lv' := [(4, .int (nI (9 * (k + 1)))), (0, .ref b), (1, .ref (tH K)), (2, .ref (bH M)), (3, .ref oa)]) F.1 F.2.1 dL_law_1549 hl (k := 4) rfl (by rw [show Int32.ofInt 9 = nI 9 from rfl, nI_add, Nat.mul_succ]) (by decide) rfl (fun ls hl => ?_)
  refine lv_goto (tgt := 23) F.1 F.2.1 dL_law_1552 (by decide) ?_
  refine W.widen (k := 1000 + 60 * (k + 1) + (gL (tG w2) - 65)) (n := 40000 + 11000 * (k + 1) + 10 * (gL (tG w2) - 65)) (by omega) (by omega) ?_
  exact nx w2 kp u2 of9 H _ ls (hR2.up (by omega)) (pm_w hw (q_4 _ _ _ _)) (lv_sub hl [1, 2, 3, 4, 0] rfl)

set_option maxHeartbeats 8000000 in
set_option maxRecDepth 100000 in
theorem lc_set {p : Program} {l : Launch} {e : Env} {s : State} {m : MethodId} {below : List Frame} {meth : Method} {c : Code} {G : va_G} {cI cJ cZ cO : ClassId} {b L oa : Nat} {xs : Nat → Int32} {K : TrA} {M : MA} {k kc ks : Nat} {tr : TrR} {kp : List (StA × StR)} {v : MR} {of9 : Nat → Int64} {H : Heap} {locs : List Loc} {ls : Array Slot}  (F : CallFix p m c cL_law 8 s #[Value.ref b] wsL_law RL) (hst : l.stackTraces = false) (hE : xEn (fun q => s.heap.size ≤ q) s s.heap) (hX : va_X b L xs s s.heap) (hbl : b < s.heap.size) (hL : L ≤ 4608) (hk : 9 * k + 9 ≤ L) (nx : lwN p l e s m below meth c G cI cJ cZ cO b oa K M (k + 1)) (hkc : kc = 1000 + 60 * k + (gL (tG tr) - 65)) (hks : ks = 40000 + 11000 * k + 10 * (gL (tG tr) - 65)) (hR : LRel tr kp v (2081 * k)) (hw : xW G (xK cI cJ cZ cO) (fun q => s.heap.size ≤ q) s.heap s ([(oa, .inl (cJ, 1, .inr (.inl of9)))] ++ (wTr cI cJ cO K tr ++ (wPl cI cJ kp ++ wMo cI cJ cZ M v))) H locs) (hl : lv_has ls 8 [(0, .ref b), (1, .ref (tH K)), (2, .ref (bH M)), (3, .ref oa), (4, .int (nI (9 * k)))]) :
    W p l e room_1 s m #[Value.ref b] below meth c H locs kc ks (lw_Z below #[Value.ref b] s) (F0 m 141 ls []) := by
  have hg5 : 65 ≤ gL (tG tr) ∧ gL (tG tr) ≤ 2080 := by
    have h := hR.1.2.1
    unfold gLok at h
    omega
  refine lv_aload_n F.1 F.2.1 dL_law_141 rfl (lv_at hl 1 rfl) ?_
  refine lv_aload_n F.1 F.2.1 dL_law_142 rfl (lv_at hl 0 rfl) ?_
  refine lv_iload F.1 F.2.1 dL_law_143 (lv_at hl 4 rfl) ?_
  refine lv_iconst (v := 1) F.1 F.2.1 dL_law_145 (by decide) ?_
  refine lv_iadd F.1 F.2.1 dL_law_146 ?_
  refine x_topi (v := nI ((9 * k) + 1)) ((nI_add (9 * k) 1).symm) ?_
  refine x_sldN F hX hbl hw ((9 * k) + 1) rfl (by omega) (by omega) dL_law_147 ?_
  refine lv_aload_n F.1 F.2.1 dL_law_148 rfl (lv_at hl 0 rfl) ?_
  refine lv_iload F.1 F.2.1 dL_law_149 (lv_at hl 4 rfl) ?_
  refine lv_iconst (v := 2) F.1 F.2.1 dL_law_151 (by decide) ?_
  refine lv_iadd F.1 F.2.1 dL_law_152 ?_
  refine x_topi (v := nI ((9 * k) + 2)) ((nI_add (9 * k) 2).symm) ?_
  refine x_sldN F hX hbl hw ((9 * k) + 2) rfl (by omega) (by omega) dL_law_153 ?_
  refine lv_i2l (v := (xs ((9 * k) + 2)).toInt64) F.1 F.2.1 dL_law_154 (rfl) ?_
  refine lv_bipush (v := 32) F.1 F.2.1 dL_law_155 (by decide) ?_
  refine lv_lshl (v := ((xs ((9 * k) + 2)).toInt64) <<< ((32 : Int32).toInt64 &&& 63)) F.1 F.2.1 dL_law_157 rfl ?_
  refine lv_aload_n F.1 F.2.1 dL_law_158 rfl (lv_at hl 0 rfl) ?_
  refine lv_iload F.1 F.2.1 dL_law_159 (lv_at hl 4 rfl) ?_
  refine lv_iconst (v := 3) F.1 F.2.1 dL_law_161 (by decide) ?_
  refine lv_iadd F.1 F.2.1 dL_law_162 ?_
  refine x_topi (v := nI ((9 * k) + 3)) ((nI_add (9 * k) 3).symm) ?_
  refine x_sldN F hX hbl hw ((9 * k) + 3) rfl (by omega) (by omega) dL_law_163 ?_
  refine lv_i2l (v := (xs ((9 * k) + 3)).toInt64) F.1 F.2.1 dL_law_164 (rfl) ?_
  refine lv_ldc2 (v := 4294967295) F.1 F.2.1 F.2.2.2.1 (F.2.2.2.2 _ (List.mem_of_getElem? (i := 7) rfl)) dL_law_165 ?_
  refine lv_land F.1 F.2.1 dL_law_168 ?_
  refine lv_lor F.1 F.2.1 dL_law_169 ?_
  refine x_topj (v := lJ (xs ((9 * k) + 2)) (xs ((9 * k) + 3))) rfl ?_
  refine lv_aload_n F.1 F.2.1 dL_law_170 rfl (lv_at hl 0 rfl) ?_
  refine lv_iload F.1 F.2.1 dL_law_171 (lv_at hl 4 rfl) ?_
  refine lv_iconst (v := 4) F.1 F.2.1 dL_law_173 (by decide) ?_
  refine lv_iadd F.1 F.2.1 dL_law_174 ?_
  refine x_topi (v := nI ((9 * k) + 4)) ((nI_add (9 * k) 4).symm) ?_
  refine x_sldN F hX hbl hw ((9 * k) + 4) rfl (by omega) (by omega) dL_law_175 ?_
  refine lv_i2l (v := (xs ((9 * k) + 4)).toInt64) F.1 F.2.1 dL_law_176 (rfl) ?_
  refine lv_bipush (v := 32) F.1 F.2.1 dL_law_177 (by decide) ?_
  refine lv_lshl (v := ((xs ((9 * k) + 4)).toInt64) <<< ((32 : Int32).toInt64 &&& 63)) F.1 F.2.1 dL_law_179 rfl ?_
  refine lv_aload_n F.1 F.2.1 dL_law_180 rfl (lv_at hl 0 rfl) ?_
  refine lv_iload F.1 F.2.1 dL_law_181 (lv_at hl 4 rfl) ?_
  refine lv_iconst (v := 5) F.1 F.2.1 dL_law_183 (by decide) ?_
  refine lv_iadd F.1 F.2.1 dL_law_184 ?_
  refine x_topi (v := nI ((9 * k) + 5)) ((nI_add (9 * k) 5).symm) ?_
  refine x_sldN F hX hbl hw ((9 * k) + 5) rfl (by omega) (by omega) dL_law_185 ?_
  refine lv_i2l (v := (xs ((9 * k) + 5)).toInt64) F.1 F.2.1 dL_law_186 (rfl) ?_
  refine lv_ldc2 (v := 4294967295) F.1 F.2.1 F.2.2.2.1 (F.2.2.2.2 _ (List.mem_of_getElem? (i := 7) rfl)) dL_law_187 ?_
  refine lv_land F.1 F.2.1 dL_law_190 ?_
  refine lv_lor F.1 F.2.1 dL_law_191 ?_
  refine x_topj (v := lJ (xs ((9 * k) + 4)) (xs ((9 * k) + 5))) rfl ?_
  refine lv_aload_n F.1 F.2.1 dL_law_192 rfl (lv_at hl 0 rfl) ?_
  refine lv_iload F.1 F.2.1 dL_law_193 (lv_at hl 4 rfl) ?_
  refine lv_bipush (v := 6) F.1 F.2.1 dL_law_195 (by decide) ?_
  refine lv_iadd F.1 F.2.1 dL_law_197 ?_
  refine x_topi (v := nI ((9 * k) + 6)) ((nI_add (9 * k) 6).symm) ?_
  refine x_sldN F hX hbl hw ((9 * k) + 6) rfl (by omega) (by omega) dL_law_198 ?_
  refine lv_i2l (v := (xs ((9 * k) + 6)).toInt64) F.1 F.2.1 dL_law_199 (rfl) ?_
  refine lv_bipush (v := 32) F.1 F.2.1 dL_law_200 (by decide) ?_
  refine lv_lshl (v := ((xs ((9 * k) + 6)).toInt64) <<< ((32 : Int32).toInt64 &&& 63)) F.1 F.2.1 dL_law_202 rfl ?_
  refine lv_aload_n F.1 F.2.1 dL_law_203 rfl (lv_at hl 0 rfl) ?_
  refine lv_iload F.1 F.2.1 dL_law_204 (lv_at hl 4 rfl) ?_
  refine lv_bipush (v := 7) F.1 F.2.1 dL_law_206 (by decide) ?_
  refine lv_iadd F.1 F.2.1 dL_law_208 ?_
  refine x_topi (v := nI ((9 * k) + 7)) ((nI_add (9 * k) 7).symm) ?_
  refine x_sldN F hX hbl hw ((9 * k) + 7) rfl (by omega) (by omega) dL_law_209 ?_
  refine lv_i2l (v := (xs ((9 * k) + 7)).toInt64) F.1 F.2.1 dL_law_210 (rfl) ?_
  refine lv_ldc2 (v := 4294967295) F.1 F.2.1 F.2.2.2.1 (F.2.2.2.2 _ (List.mem_of_getElem? (i := 7) rfl)) dL_law_211 ?_
  refine lv_land F.1 F.2.1 dL_law_214 ?_
  refine lv_lor F.1 F.2.1 dL_law_215 ?_
  refine x_topj (v := lJ (xs ((9 * k) + 6)) (xs ((9 * k) + 7))) rfl ?_
  refine lv_aload_n F.1 F.2.1 dL_law_216 rfl (lv_at hl 0 rfl) ?_
  refine lv_iload F.1 F.2.1 dL_law_217 (lv_at hl 4 rfl) ?_
  refine lv_bipush (v := 8) F.1 F.2.1 dL_law_219 (by decide) ?_
  refine lv_iadd F.1 F.2.1 dL_law_221 ?_
  refine x_topi (v := nI ((9 * k) + 8)) ((nI_add (9 * k) 8).symm) ?_
  refine x_sldN F hX hbl hw ((9 * k) + 8) rfl (by omega) (by omega) dL_law_222 ?_
  refine lv_aload_n F.1 F.2.1 dL_law_223 rfl (lv_at hl 3 rfl) ?_
  refine lw_S (As := [.ref (tH K), .int (xs ((9 * k) + 1)), .long (lJ (xs ((9 * k) + 2)) (xs ((9 * k) + 3))), .long (lJ (xs ((9 * k) + 4)) (xs ((9 * k) + 5))), .long (lJ (xs ((9 * k) + 6)) (xs ((9 * k) + 7))), .int (xs ((9 * k) + 8)), .ref oa]) (rest := []) (wPl cI cJ kp ++ wMo cI cJ cZ M v) F hw hE (q_1 _ _ _ _) (c_L_set l G cI cJ cZ cO _ hst K tr (xs ((9 * k) + 1)) (lJ (xs ((9 * k) + 2)) (xs ((9 * k) + 3))) (lJ (xs ((9 * k) + 4)) (xs ((9 * k) + 5))) (lJ (xs ((9 * k) + 6)) (xs ((9 * k) + 7))) (xs ((9 * k) + 8)) (ePl (lAb (sT (tX tr))) (sTs (tX tr), xs ((9 * k) + 1), lJ (xs ((9 * k) + 2)) (xs ((9 * k) + 3)), lJ (xs ((9 * k) + 4)) (xs ((9 * k) + 5)), lJ (xs ((9 * k) + 6)) (xs ((9 * k) + 7)), xs ((9 * k) + 8))) hR.1.1.1.1 (lPl_of hR.1.1.1.2 _) oa of9) (vx_cwSW 7 F.2.2.2.2 gL_law_L_set rfl rfl rfl (by decide +kernel) ⟨Nat.le_of_ble_eq_true rfl, Nat.le_of_ble_eq_true rfl⟩) rfl hl.1 rfl (lv_room (Nat.le_of_ble_eq_true rfl)) dL_law_224 ⟨by show kc + 3 ≤ 601024; omega, by show ks + 18 ≤ 7293034; omega⟩ (fun r9 w2 H locs hc hw => ?_)
  refine lv_istore (lv' := [(5, .int r9), (0, .ref b), (1, .ref (tH K)), (2, .ref (bH M)), (3, .ref oa), (4, .int (nI (9 * k)))]) F.1 F.2.1 dL_law_227 hl (by decide) rfl (fun ls hl => ?_)
  refine lv_aload_n F.1 F.2.1 dL_law_229 rfl (lv_at hl 3 rfl) ?_
  refine lv_aload_n F.1 F.2.1 dL_law_230 rfl (lv_at hl 1 rfl) ?_
  refine lv_iload F.1 F.2.1 dL_law_231 (lv_at hl 5 rfl) ?_
  refine lv_iconst (v := 1) F.1 F.2.1 dL_law_233 (by decide) ?_
  refine lv_iadd F.1 F.2.1 dL_law_234 ?_
  refine x_topi (v := nI ((9 * k) + 1)) ((nI_add (9 * k) 1).symm) ?_
  refine x_sldN F hX hbl hw ((9 * k) + 1) rfl (by omega) (by omega) dL_law_235 ?_
  refine lv_aload_n F.1 F.2.1 dL_law_236 rfl (lv_at hl 1 rfl) ?_
  refine lv_iload F.1 F.2.1 dL_law_237 (lv_at hl 5 rfl) ?_
  refine lv_iconst (v := 2) F.1 F.2.1 dL_law_239 (by decide) ?_
  refine lv_iadd F.1 F.2.1 dL_law_240 ?_
  refine x_topi (v := nI ((9 * k) + 2)) ((nI_add (9 * k) 2).symm) ?_
  refine x_sldN F hX hbl hw ((9 * k) + 2) rfl (by omega) (by omega) dL_law_241 ?_
  refine lv_i2l (v := (xs ((9 * k) + 2)).toInt64) F.1 F.2.1 dL_law_242 (rfl) ?_
  refine lv_bipush (v := 32) F.1 F.2.1 dL_law_243 (by decide) ?_
  refine lv_lshl (v := ((xs ((9 * k) + 2)).toInt64) <<< ((32 : Int32).toInt64 &&& 63)) F.1 F.2.1 dL_law_245 rfl ?_
  refine lv_aload_n F.1 F.2.1 dL_law_246 rfl (lv_at hl 1 rfl) ?_
  refine lv_iload F.1 F.2.1 dL_law_247 (lv_at hl 5 rfl) ?_
  refine lv_iconst (v := 3) F.1 F.2.1 dL_law_249 (by decide) ?_
  refine lv_iadd F.1 F.2.1 dL_law_250 ?_
  refine x_topi (v := nI ((9 * k) + 3)) ((nI_add (9 * k) 3).symm) ?_
  refine x_sldN F hX hbl hw ((9 * k) + 3) rfl (by omega) (by omega) dL_law_251 ?_
  refine lv_i2l (v := (xs ((9 * k) + 3)).toInt64) F.1 F.2.1 dL_law_252 (rfl) ?_
  refine lv_ldc2 (v := 4294967295) F.1 F.2.1 F.2.2.2.1 (F.2.2.2.2 _ (List.mem_of_getElem? (i := 7) rfl)) dL_law_253 ?_
  refine lv_land F.1 F.2.1 dL_law_256 ?_
  refine lv_lor F.1 F.2.1 dL_law_257 ?_
  refine x_topj (v := lJ (xs ((9 * k) + 2)) (xs ((9 * k) + 3))) rfl ?_
  refine lv_aload_n F.1 F.2.1 dL_law_258 rfl (lv_at hl 1 rfl) ?_
  refine lv_iload F.1 F.2.1 dL_law_259 (lv_at hl 5 rfl) ?_
  refine lv_iconst (v := 4) F.1 F.2.1 dL_law_261 (by decide) ?_
  refine lv_iadd F.1 F.2.1 dL_law_262 ?_
  refine x_topi (v := nI ((9 * k) + 4)) ((nI_add (9 * k) 4).symm) ?_
  refine x_sldN F hX hbl hw ((9 * k) + 4) rfl (by omega) (by omega) dL_law_263 ?_
  refine lv_i2l (v := (xs ((9 * k) + 4)).toInt64) F.1 F.2.1 dL_law_264 (rfl) ?_
  refine lv_bipush (v := 32) F.1 F.2.1 dL_law_265 (by decide) ?_
  refine lv_lshl (v := ((xs ((9 * k) + 4)).toInt64) <<< ((32 : Int32).toInt64 &&& 63)) F.1 F.2.1 dL_law_267 rfl ?_
  refine lv_aload_n F.1 F.2.1 dL_law_268 rfl (lv_at hl 1 rfl) ?_
  refine lv_iload F.1 F.2.1 dL_law_269 (lv_at hl 5 rfl) ?_
  refine lv_iconst (v := 5) F.1 F.2.1 dL_law_271 (by decide) ?_
  refine lv_iadd F.1 F.2.1 dL_law_272 ?_
  refine x_topi (v := nI ((9 * k) + 5)) ((nI_add (9 * k) 5).symm) ?_
  refine x_sldN F hX hbl hw ((9 * k) + 5) rfl (by omega) (by omega) dL_law_273 ?_
  refine lv_i2l (v := (xs ((9 * k) + 5)).toInt64) F.1 F.2.1 dL_law_274 (rfl) ?_
  refine lv_ldc2 (v := 4294967295) F.1 F.2.1 F.2.2.2.1 (F.2.2.2.2 _ (List.mem_of_getElem? (i := 7) rfl)) dL_law_275 ?_
  refine lv_land F.1 F.2.1 dL_law_278 ?_
  refine lv_lor F.1 F.2.1 dL_law_279 ?_
  refine x_topj (v := lJ (xs ((9 * k) + 4)) (xs ((9 * k) + 5))) rfl ?_
  refine lv_aload_n F.1 F.2.1 dL_law_280 rfl (lv_at hl 1 rfl) ?_
  refine lv_iload F.1 F.2.1 dL_law_281 (lv_at hl 5 rfl) ?_
  refine lv_bipush (v := 6) F.1 F.2.1 dL_law_283 (by decide) ?_
  refine lv_iadd F.1 F.2.1 dL_law_285 ?_
  refine x_topi (v := nI ((9 * k) + 6)) ((nI_add (9 * k) 6).symm) ?_
  refine x_sldN F hX hbl hw ((9 * k) + 6) rfl (by omega) (by omega) dL_law_286 ?_
  refine lv_i2l (v := (xs ((9 * k) + 6)).toInt64) F.1 F.2.1 dL_law_287 (rfl) ?_
  refine lv_bipush (v := 32) F.1 F.2.1 dL_law_288 (by decide) ?_
  refine lv_lshl (v := ((xs ((9 * k) + 6)).toInt64) <<< ((32 : Int32).toInt64 &&& 63)) F.1 F.2.1 dL_law_290 rfl ?_
  refine lv_aload_n F.1 F.2.1 dL_law_291 rfl (lv_at hl 1 rfl) ?_
  refine lv_iload F.1 F.2.1 dL_law_292 (lv_at hl 5 rfl) ?_
  refine lv_bipush (v := 7) F.1 F.2.1 dL_law_294 (by decide) ?_
  refine lv_iadd F.1 F.2.1 dL_law_296 ?_
  refine x_topi (v := nI ((9 * k) + 7)) ((nI_add (9 * k) 7).symm) ?_
  refine x_sldN F hX hbl hw ((9 * k) + 7) rfl (by omega) (by omega) dL_law_297 ?_
  refine lv_i2l (v := (xs ((9 * k) + 7)).toInt64) F.1 F.2.1 dL_law_298 (rfl) ?_
  refine lv_ldc2 (v := 4294967295) F.1 F.2.1 F.2.2.2.1 (F.2.2.2.2 _ (List.mem_of_getElem? (i := 7) rfl)) dL_law_299 ?_
  refine lv_land F.1 F.2.1 dL_law_302 ?_
  refine lv_lor F.1 F.2.1 dL_law_303 ?_
  refine x_topj (v := lJ (xs ((9 * k) + 6)) (xs ((9 * k) + 7))) rfl ?_
  refine lv_aload_n F.1 F.2.1 dL_law_304 rfl (lv_at hl 1 rfl) ?_
  refine lv_iload F.1 F.2.1 dL_law_305 (lv_at hl 5 rfl) ?_
  refine lv_bipush (v := 8) F.1 F.2.1 dL_law_307 (by decide) ?_
  refine lv_iadd F.1 F.2.1 dL_law_309 ?_
  refine x_topi (v := nI ((9 * k) + 8)) ((nI_add (9 * k) 8).symm) ?_
  refine x_sldN F hX hbl hw ((9 * k) + 8) rfl (by omega) (by omega) dL_law_310 ?_
  refine lw_V (As := [.int (xs ((9 * k) + 1)), .long (lJ (xs ((9 * k) + 2)) (xs ((9 * k) + 3))), .long (lJ (xs ((9 * k) + 4)) (xs ((9 * k) + 5))), .long (lJ (xs ((9 * k) + 6)) (xs ((9 * k) + 7))), .int (xs ((9 * k) + 8))]) (rest := []) ([(oa, .inl (cJ, 1, .inr (.inl w2.2)))] ++ (wTr cI cJ cO K w2.1 ++ wPl cI cJ kp)) F hw (q_2 _ _ _ _) (c_X4_set l G cI cJ cZ cO _ M v (xs ((9 * k) + 1)) (lJ (xs ((9 * k) + 2)) (xs ((9 * k) + 3))) (lJ (xs ((9 * k) + 4)) (xs ((9 * k) + 5))) (lJ (xs ((9 * k) + 6)) (xs ((9 * k) + 7))) (xs ((9 * k) + 8)) (hR.2.2.2.2.2.1 0 (by decide)) (by rw [many1 hR.2.2.1]; exact hR.1.1.1.1.1) (fun q => by rw [many1 hR.2.2.1] at q; rw [brel_w hR.2.2.1]; have h1 := hR.1.1.1.1.1; have h2 := hR.1.1.2.1.1.1; omega)) (cwV 5 F.2.2.2.2 gL_law_X4_set rfl rfl rfl (by decide +kernel) ⟨Nat.le_of_ble_eq_true rfl, Nat.le_of_ble_eq_true rfl⟩) rfl rfl rfl hl.1 rfl (lv_room (Nat.le_of_ble_eq_true rfl)) dL_law_311 ⟨by show kc + 3 ≤ 601024; omega, by show ks + 18 ≤ 7293034; omega⟩ (fun r6 u2 H locs hm hw => ?_)
  obtain ⟨hcd, hv0, hR2⟩ := op_set hR (by omega) hc hm
  have hgl : gL (tG w2.1) = gL (tG tr) := by rcases hc with ⟨-, _, ⟨-, -, -, h⟩, -⟩ | ⟨-, h, -⟩ | ⟨-, h, -⟩ <;> rw [h] <;> rfl
  clear hc hm
  refine lv_istore (lv' := [(6, .int r6), (5, .int r9), (0, .ref b), (1, .ref (tH K)), (2, .ref (bH M)), (3, .ref oa), (4, .int (nI (9 * k)))]) F.1 F.2.1 dL_law_314 hl (by decide) rfl (fun ls hl => ?_)
  refine lv_aload_n F.1 F.2.1 dL_law_316 rfl (lv_at hl 4 rfl) ?_
  refine lw_T (As := []) (rest := []) ([(oa, .inl (cJ, 1, .inr (.inl w2.2)))] ++ (wTr cI cJ cO K w2.1 ++ wPl cI cJ kp)) F hw (q_3 _ _) (c_X4_thrown l G cI cJ cZ cO _ M u2) (cwV 0 F.2.2.2.2 gL_law_X4_thrown rfl rfl rfl (by decide +kernel) ⟨Nat.le_of_ble_eq_true rfl, Nat.le_of_ble_eq_true rfl⟩) rfl rfl rfl hl.1 rfl (lv_room (Nat.le_of_ble_eq_true rfl)) dL_law_317 ⟨by show kc + 3 ≤ 601024; omega, by show ks + 18 ≤ 7293034; omega⟩ (fun rt ht => ?_)
  refine lv_iload F.1 F.2.1 dL_law_320 (lv_at hl 1 rfl) ?_
  refine lv_icmp_eq (tgt := 327) F.1 F.2.1 dL_law_322 (by decide) (fun c322 => ?_) (fun c322 => ?_)
  rotate_left
  · exact (c322 (ht.trans hcd)).elim
  refine lv_iload F.1 F.2.1 dL_law_327 (lv_at hl 1 rfl) ?_
  refine lv_if_ne (tgt := 344) F.1 F.2.1 dL_law_329 (by decide) (fun c329 => ?_) (fun c329 => ?_)
  · refine lv_goto (tgt := 1549) F.1 F.2.1 dL_law_344 (by decide) ?_
    refine lv_iinc (v := nI (9 * (k + 1))) (lv' := [(4, .int (nI (9 * (k + 1)))), (6, .int r6), (5, .int r9), (0, .ref b), (1, .ref (tH K)), (2, .ref (bH M)), (3, .ref oa)]) F.1 F.2.1 dL_law_1549 hl (k := 6) rfl (by rw [show Int32.ofInt 9 = nI 9 from rfl, nI_add, Nat.mul_succ]) (by decide) rfl (fun ls hl => ?_)
    refine lv_goto (tgt := 23) F.1 F.2.1 dL_law_1552 (by decide) ?_
    refine W.widen (k := 1000 + 60 * (k + 1) + (gL (tG w2.1) - 65)) (n := 40000 + 11000 * (k + 1) + 10 * (gL (tG w2.1) - 65)) (by omega) (by omega) ?_
    exact nx w2.1 kp u2 w2.2 H _ ls (hR2.up (by omega)) (pm_w hw (q_4 _ _ _ _)) (lv_sub hl [3, 4, 5, 6, 0] rfl)
  · refine lv_aload_n F.1 F.2.1 dL_law_332 rfl (lv_at hl 5 rfl) ?_
    refine lv_iconst (v := 0) F.1 F.2.1 dL_law_333 (by decide) ?_
    refine x_laldN F hw 0 1 rfl rfl 0 rfl (by decide) (by decide) dL_law_334 ?_
    refine lv_iload F.1 F.2.1 dL_law_335 (lv_at hl 0 rfl) ?_
    refine lv_i2l (v := r6.toInt64) F.1 F.2.1 dL_law_337 (rfl) ?_
    refine x_l_eq (tgt := 344) F dL_law_338 dL_law_339 (by decide) (fun c338 => ?_) (fun c338 => ?_)
    rotate_left
    · exact (c338 (hv0 c329)).elim
    refine lv_goto (tgt := 1549) F.1 F.2.1 dL_law_344 (by decide) ?_
    refine lv_iinc (v := nI (9 * (k + 1))) (lv' := [(4, .int (nI (9 * (k + 1)))), (6, .int r6), (5, .int r9), (0, .ref b), (1, .ref (tH K)), (2, .ref (bH M)), (3, .ref oa)]) F.1 F.2.1 dL_law_1549 hl (k := 6) rfl (by rw [show Int32.ofInt 9 = nI 9 from rfl, nI_add, Nat.mul_succ]) (by decide) rfl (fun ls hl => ?_)
    refine lv_goto (tgt := 23) F.1 F.2.1 dL_law_1552 (by decide) ?_
    refine W.widen (k := 1000 + 60 * (k + 1) + (gL (tG w2.1) - 65)) (n := 40000 + 11000 * (k + 1) + 10 * (gL (tG w2.1) - 65)) (by omega) (by omega) ?_
    exact nx w2.1 kp u2 w2.2 H _ ls (hR2.up (by omega)) (pm_w hw (q_4 _ _ _ _)) (lv_sub hl [3, 4, 5, 6, 0] rfl)

set_option maxHeartbeats 8000000 in
set_option maxRecDepth 100000 in
theorem lc_move {p : Program} {l : Launch} {e : Env} {s : State} {m : MethodId} {below : List Frame} {meth : Method} {c : Code} {G : va_G} {cI cJ cZ cO : ClassId} {b L oa : Nat} {xs : Nat → Int32} {K : TrA} {M : MA} {k kc ks : Nat} {tr : TrR} {kp : List (StA × StR)} {v : MR} {of9 : Nat → Int64} {H : Heap} {locs : List Loc} {ls : Array Slot}  (F : CallFix p m c cL_law 8 s #[Value.ref b] wsL_law RL) (hst : l.stackTraces = false) (hE : xEn (fun q => s.heap.size ≤ q) s s.heap) (hX : va_X b L xs s s.heap) (hbl : b < s.heap.size) (hL : L ≤ 4608) (hk : 9 * k + 9 ≤ L) (nx : lwN p l e s m below meth c G cI cJ cZ cO b oa K M (k + 1)) (hkc : kc = 1000 + 60 * k + (gL (tG tr) - 65)) (hks : ks = 40000 + 11000 * k + 10 * (gL (tG tr) - 65)) (hR : LRel tr kp v (2081 * k)) (hw : xW G (xK cI cJ cZ cO) (fun q => s.heap.size ≤ q) s.heap s ([(oa, .inl (cJ, 1, .inr (.inl of9)))] ++ (wTr cI cJ cO K tr ++ (wPl cI cJ kp ++ wMo cI cJ cZ M v))) H locs) (hl : lv_has ls 8 [(0, .ref b), (1, .ref (tH K)), (2, .ref (bH M)), (3, .ref oa), (4, .int (nI (9 * k)))]) :
    W p l e room_1 s m #[Value.ref b] below meth c H locs kc ks (lw_Z below #[Value.ref b] s) (F0 m 347 ls []) := by
  have hg5 : 65 ≤ gL (tG tr) ∧ gL (tG tr) ≤ 2080 := by
    have h := hR.1.2.1
    unfold gLok at h
    omega
  refine lv_aload_n F.1 F.2.1 dL_law_347 rfl (lv_at hl 1 rfl) ?_
  refine lv_aload_n F.1 F.2.1 dL_law_348 rfl (lv_at hl 0 rfl) ?_
  refine lv_iload F.1 F.2.1 dL_law_349 (lv_at hl 4 rfl) ?_
  refine lv_iconst (v := 1) F.1 F.2.1 dL_law_351 (by decide) ?_
  refine lv_iadd F.1 F.2.1 dL_law_352 ?_
  refine x_topi (v := nI ((9 * k) + 1)) ((nI_add (9 * k) 1).symm) ?_
  refine x_sldN F hX hbl hw ((9 * k) + 1) rfl (by omega) (by omega) dL_law_353 ?_
  refine lv_aload_n F.1 F.2.1 dL_law_354 rfl (lv_at hl 0 rfl) ?_
  refine lv_iload F.1 F.2.1 dL_law_355 (lv_at hl 4 rfl) ?_
  refine lv_iconst (v := 2) F.1 F.2.1 dL_law_357 (by decide) ?_
  refine lv_iadd F.1 F.2.1 dL_law_358 ?_
  refine x_topi (v := nI ((9 * k) + 2)) ((nI_add (9 * k) 2).symm) ?_
  refine x_sldN F hX hbl hw ((9 * k) + 2) rfl (by omega) (by omega) dL_law_359 ?_
  refine lv_i2l (v := (xs ((9 * k) + 2)).toInt64) F.1 F.2.1 dL_law_360 (rfl) ?_
  refine lv_bipush (v := 32) F.1 F.2.1 dL_law_361 (by decide) ?_
  refine lv_lshl (v := ((xs ((9 * k) + 2)).toInt64) <<< ((32 : Int32).toInt64 &&& 63)) F.1 F.2.1 dL_law_363 rfl ?_
  refine lv_aload_n F.1 F.2.1 dL_law_364 rfl (lv_at hl 0 rfl) ?_
  refine lv_iload F.1 F.2.1 dL_law_365 (lv_at hl 4 rfl) ?_
  refine lv_iconst (v := 3) F.1 F.2.1 dL_law_367 (by decide) ?_
  refine lv_iadd F.1 F.2.1 dL_law_368 ?_
  refine x_topi (v := nI ((9 * k) + 3)) ((nI_add (9 * k) 3).symm) ?_
  refine x_sldN F hX hbl hw ((9 * k) + 3) rfl (by omega) (by omega) dL_law_369 ?_
  refine lv_i2l (v := (xs ((9 * k) + 3)).toInt64) F.1 F.2.1 dL_law_370 (rfl) ?_
  refine lv_ldc2 (v := 4294967295) F.1 F.2.1 F.2.2.2.1 (F.2.2.2.2 _ (List.mem_of_getElem? (i := 7) rfl)) dL_law_371 ?_
  refine lv_land F.1 F.2.1 dL_law_374 ?_
  refine lv_lor F.1 F.2.1 dL_law_375 ?_
  refine x_topj (v := lJ (xs ((9 * k) + 2)) (xs ((9 * k) + 3))) rfl ?_
  refine lv_aload_n F.1 F.2.1 dL_law_376 rfl (lv_at hl 3 rfl) ?_
  refine lw_S (As := [.ref (tH K), .int (xs ((9 * k) + 1)), .long (lJ (xs ((9 * k) + 2)) (xs ((9 * k) + 3))), .ref oa]) (rest := []) (wPl cI cJ kp ++ wMo cI cJ cZ M v) F hw hE (q_1 _ _ _ _) (c_L_move l G cI cJ cZ cO _ hst K tr (xs ((9 * k) + 1)) (lJ (xs ((9 * k) + 2)) (xs ((9 * k) + 3))) (fun p => ePl (lAb (lLeave (sT (tX tr)) p)) (eSetT (lAt (sT (tX tr)) p) (lJ (xs ((9 * k) + 2)) (xs ((9 * k) + 3))))) hR.1.1.1.1 (fun p hp => lPl2_of hR.1.1.1.2 hp _) oa of9) (vx_cwSW 4 F.2.2.2.2 gL_law_L_move rfl rfl rfl (by decide +kernel) ⟨Nat.le_of_ble_eq_true rfl, Nat.le_of_ble_eq_true rfl⟩) rfl hl.1 rfl (lv_room (Nat.le_of_ble_eq_true rfl)) dL_law_377 ⟨by show kc + 2 ≤ 601024; omega, by show ks + 12 ≤ 7293034; omega⟩ (fun r9 w2 H locs hc hw => ?_)
  refine lv_istore (lv' := [(5, .int r9), (0, .ref b), (1, .ref (tH K)), (2, .ref (bH M)), (3, .ref oa), (4, .int (nI (9 * k)))]) F.1 F.2.1 dL_law_380 hl (by decide) rfl (fun ls hl => ?_)
  refine lv_aload_n F.1 F.2.1 dL_law_382 rfl (lv_at hl 3 rfl) ?_
  refine lv_aload_n F.1 F.2.1 dL_law_383 rfl (lv_at hl 1 rfl) ?_
  refine lv_iload F.1 F.2.1 dL_law_384 (lv_at hl 5 rfl) ?_
  refine lv_iconst (v := 1) F.1 F.2.1 dL_law_386 (by decide) ?_
  refine lv_iadd F.1 F.2.1 dL_law_387 ?_
  refine x_topi (v := nI ((9 * k) + 1)) ((nI_add (9 * k) 1).symm) ?_
  refine x_sldN F hX hbl hw ((9 * k) + 1) rfl (by omega) (by omega) dL_law_388 ?_
  refine lv_aload_n F.1 F.2.1 dL_law_389 rfl (lv_at hl 1 rfl) ?_
  refine lv_iload F.1 F.2.1 dL_law_390 (lv_at hl 5 rfl) ?_
  refine lv_iconst (v := 2) F.1 F.2.1 dL_law_392 (by decide) ?_
  refine lv_iadd F.1 F.2.1 dL_law_393 ?_
  refine x_topi (v := nI ((9 * k) + 2)) ((nI_add (9 * k) 2).symm) ?_
  refine x_sldN F hX hbl hw ((9 * k) + 2) rfl (by omega) (by omega) dL_law_394 ?_
  refine lv_i2l (v := (xs ((9 * k) + 2)).toInt64) F.1 F.2.1 dL_law_395 (rfl) ?_
  refine lv_bipush (v := 32) F.1 F.2.1 dL_law_396 (by decide) ?_
  refine lv_lshl (v := ((xs ((9 * k) + 2)).toInt64) <<< ((32 : Int32).toInt64 &&& 63)) F.1 F.2.1 dL_law_398 rfl ?_
  refine lv_aload_n F.1 F.2.1 dL_law_399 rfl (lv_at hl 1 rfl) ?_
  refine lv_iload F.1 F.2.1 dL_law_400 (lv_at hl 5 rfl) ?_
  refine lv_iconst (v := 3) F.1 F.2.1 dL_law_402 (by decide) ?_
  refine lv_iadd F.1 F.2.1 dL_law_403 ?_
  refine x_topi (v := nI ((9 * k) + 3)) ((nI_add (9 * k) 3).symm) ?_
  refine x_sldN F hX hbl hw ((9 * k) + 3) rfl (by omega) (by omega) dL_law_404 ?_
  refine lv_i2l (v := (xs ((9 * k) + 3)).toInt64) F.1 F.2.1 dL_law_405 (rfl) ?_
  refine lv_ldc2 (v := 4294967295) F.1 F.2.1 F.2.2.2.1 (F.2.2.2.2 _ (List.mem_of_getElem? (i := 7) rfl)) dL_law_406 ?_
  refine lv_land F.1 F.2.1 dL_law_409 ?_
  refine lv_lor F.1 F.2.1 dL_law_410 ?_
  refine x_topj (v := lJ (xs ((9 * k) + 2)) (xs ((9 * k) + 3))) rfl ?_
  refine lw_VL (As := [.int (xs ((9 * k) + 1)), .long (lJ (xs ((9 * k) + 2)) (xs ((9 * k) + 3)))]) (rest := []) ([(oa, .inl (cJ, 1, .inr (.inl w2.2)))] ++ (wTr cI cJ cO K w2.1 ++ wPl cI cJ kp)) F hw (q_2 _ _ _ _) (c_X4_move l G cI cJ cZ cO _ M v (xs ((9 * k) + 1)) (lJ (xs ((9 * k) + 2)) (xs ((9 * k) + 3))) (hR.2.2.2.2.2.1 0 (by decide))) (cwV 2 F.2.2.2.2 gL_law_X4_move rfl rfl rfl (by decide +kernel) ⟨Nat.le_of_ble_eq_true rfl, Nat.le_of_ble_eq_true rfl⟩) rfl rfl rfl hl.1 rfl (lv_room (Nat.le_of_ble_eq_true rfl)) dL_law_411 ⟨by show kc + 2 ≤ 601024; omega, by show ks + 12 ≤ 7293034; omega⟩ (fun r6 u2 H locs hm hw => ?_)
  obtain ⟨hcd, hv0, hR2⟩ := op_move hR hc hm
  have hgl : gL (tG w2.1) = gL (tG tr) := by rcases hc with ⟨-, _, ⟨-, _, -, -, -, h⟩, -⟩ | ⟨-, h, -⟩ | ⟨-, h, -⟩ <;> rw [h] <;> rfl
  clear hc hm
  refine lv_lstore (lv' := [(6, .long r6), (5, .int r9), (0, .ref b), (1, .ref (tH K)), (2, .ref (bH M)), (3, .ref oa), (4, .int (nI (9 * k)))]) F.1 F.2.1 dL_law_414 hl (by decide) rfl (fun ls hl => ?_)
  refine lv_aload_n F.1 F.2.1 dL_law_416 rfl (lv_at hl 4 rfl) ?_
  refine lw_T (As := []) (rest := []) ([(oa, .inl (cJ, 1, .inr (.inl w2.2)))] ++ (wTr cI cJ cO K w2.1 ++ wPl cI cJ kp)) F hw (q_3 _ _) (c_X4_thrown l G cI cJ cZ cO _ M u2) (cwV 0 F.2.2.2.2 gL_law_X4_thrown rfl rfl rfl (by decide +kernel) ⟨Nat.le_of_ble_eq_true rfl, Nat.le_of_ble_eq_true rfl⟩) rfl rfl rfl hl.1 rfl (lv_room (Nat.le_of_ble_eq_true rfl)) dL_law_417 ⟨by show kc + 2 ≤ 601024; omega, by show ks + 12 ≤ 7293034; omega⟩ (fun rt ht => ?_)
  refine lv_iload F.1 F.2.1 dL_law_420 (lv_at hl 1 rfl) ?_
  refine lv_icmp_eq (tgt := 427) F.1 F.2.1 dL_law_422 (by decide) (fun c422 => ?_) (fun c422 => ?_)
  rotate_left
  · exact (c422 (ht.trans hcd)).elim
  refine lv_iload F.1 F.2.1 dL_law_427 (lv_at hl 1 rfl) ?_
  refine lv_if_ne (tgt := 443) F.1 F.2.1 dL_law_429 (by decide) (fun c429 => ?_) (fun c429 => ?_)
  · refine lv_goto (tgt := 1549) F.1 F.2.1 dL_law_443 (by decide) ?_
    refine lv_iinc (v := nI (9 * (k + 1))) (lv' := [(4, .int (nI (9 * (k + 1)))), (6, .long r6), (5, .int r9), (0, .ref b), (1, .ref (tH K)), (2, .ref (bH M)), (3, .ref oa)]) F.1 F.2.1 dL_law_1549 hl (k := 6) rfl (by rw [show Int32.ofInt 9 = nI 9 from rfl, nI_add, Nat.mul_succ]) (by decide) rfl (fun ls hl => ?_)
    refine lv_goto (tgt := 23) F.1 F.2.1 dL_law_1552 (by decide) ?_
    refine W.widen (k := 1000 + 60 * (k + 1) + (gL (tG w2.1) - 65)) (n := 40000 + 11000 * (k + 1) + 10 * (gL (tG w2.1) - 65)) (by omega) (by omega) ?_
    exact nx w2.1 kp u2 w2.2 H _ ls (hR2.up (by omega)) (pm_w hw (q_4 _ _ _ _)) (lv_sub hl [3, 4, 5, 6, 0] rfl)
  · refine lv_aload_n F.1 F.2.1 dL_law_432 rfl (lv_at hl 5 rfl) ?_
    refine lv_iconst (v := 0) F.1 F.2.1 dL_law_433 (by decide) ?_
    refine x_laldN F hw 0 1 rfl rfl 0 rfl (by decide) (by decide) dL_law_434 ?_
    refine lv_lload F.1 F.2.1 dL_law_435 (lv_at hl 0 rfl) ?_
    refine x_l_eq (tgt := 443) F dL_law_437 dL_law_438 (by decide) (fun c437 => ?_) (fun c437 => ?_)
    rotate_left
    · exact (c437 (hv0 c429)).elim
    refine lv_goto (tgt := 1549) F.1 F.2.1 dL_law_443 (by decide) ?_
    refine lv_iinc (v := nI (9 * (k + 1))) (lv' := [(4, .int (nI (9 * (k + 1)))), (6, .long r6), (5, .int r9), (0, .ref b), (1, .ref (tH K)), (2, .ref (bH M)), (3, .ref oa)]) F.1 F.2.1 dL_law_1549 hl (k := 6) rfl (by rw [show Int32.ofInt 9 = nI 9 from rfl, nI_add, Nat.mul_succ]) (by decide) rfl (fun ls hl => ?_)
    refine lv_goto (tgt := 23) F.1 F.2.1 dL_law_1552 (by decide) ?_
    refine W.widen (k := 1000 + 60 * (k + 1) + (gL (tG w2.1) - 65)) (n := 40000 + 11000 * (k + 1) + 10 * (gL (tG w2.1) - 65)) (by omega) (by omega) ?_
    exact nx w2.1 kp u2 w2.2 H _ ls (hR2.up (by omega)) (pm_w hw (q_4 _ _ _ _)) (lv_sub hl [3, 4, 5, 6, 0] rfl)

set_option maxHeartbeats 8000000 in
set_option maxRecDepth 100000 in
theorem lc_cancel {p : Program} {l : Launch} {e : Env} {s : State} {m : MethodId} {below : List Frame} {meth : Method} {c : Code} {G : va_G} {cI cJ cZ cO : ClassId} {b L oa : Nat} {xs : Nat → Int32} {K : TrA} {M : MA} {k kc ks : Nat} {tr : TrR} {kp : List (StA × StR)} {v : MR} {of9 : Nat → Int64} {H : Heap} {locs : List Loc} {ls : Array Slot}  (F : CallFix p m c cL_law 8 s #[Value.ref b] wsL_law RL) (hst : l.stackTraces = false) (hE : xEn (fun q => s.heap.size ≤ q) s s.heap) (hX : va_X b L xs s s.heap) (hbl : b < s.heap.size) (hL : L ≤ 4608) (hk : 9 * k + 9 ≤ L) (nx : lwN p l e s m below meth c G cI cJ cZ cO b oa K M (k + 1)) (hkc : kc = 1000 + 60 * k + (gL (tG tr) - 65)) (hks : ks = 40000 + 11000 * k + 10 * (gL (tG tr) - 65)) (hR : LRel tr kp v (2081 * k)) (hw : xW G (xK cI cJ cZ cO) (fun q => s.heap.size ≤ q) s.heap s ([(oa, .inl (cJ, 1, .inr (.inl of9)))] ++ (wTr cI cJ cO K tr ++ (wPl cI cJ kp ++ wMo cI cJ cZ M v))) H locs) (hl : lv_has ls 8 [(0, .ref b), (1, .ref (tH K)), (2, .ref (bH M)), (3, .ref oa), (4, .int (nI (9 * k)))]) :
    W p l e room_1 s m #[Value.ref b] below meth c H locs kc ks (lw_Z below #[Value.ref b] s) (F0 m 446 ls []) := by
  have hg5 : 65 ≤ gL (tG tr) ∧ gL (tG tr) ≤ 2080 := by
    have h := hR.1.2.1
    unfold gLok at h
    omega
  refine lv_aload_n F.1 F.2.1 dL_law_446 rfl (lv_at hl 1 rfl) ?_
  refine lv_aload_n F.1 F.2.1 dL_law_447 rfl (lv_at hl 0 rfl) ?_
  refine lv_iload F.1 F.2.1 dL_law_448 (lv_at hl 4 rfl) ?_
  refine lv_iconst (v := 1) F.1 F.2.1 dL_law_450 (by decide) ?_
  refine lv_iadd F.1 F.2.1 dL_law_451 ?_
  refine x_topi (v := nI ((9 * k) + 1)) ((nI_add (9 * k) 1).symm) ?_
  refine x_sldN F hX hbl hw ((9 * k) + 1) rfl (by omega) (by omega) dL_law_452 ?_
  refine lw_V (As := [.int (xs ((9 * k) + 1))]) (rest := []) ([(oa, .inl (cJ, 1, .inr (.inl of9)))] ++ (wPl cI cJ kp ++ wMo cI cJ cZ M v)) F hw (q_5 _ _ _ _) (c_X3_cancel l G cI cJ cZ cO _ K tr (xs ((9 * k) + 1)) hR.1.1.1.1) (cwV 1 F.2.2.2.2 gL_law_X3_cancel rfl rfl rfl (by decide +kernel) ⟨Nat.le_of_ble_eq_true rfl, Nat.le_of_ble_eq_true rfl⟩) rfl rfl rfl hl.1 rfl (lv_room (Nat.le_of_ble_eq_true rfl)) dL_law_453 ⟨by show kc ≤ 601024; omega, by show ks ≤ 7293034; omega⟩ (fun r9 w2 H locs hc hw => ?_)
  refine lv_aload_n F.1 F.2.1 dL_law_456 rfl (lv_at hl 2 rfl) ?_
  refine lv_aload_n F.1 F.2.1 dL_law_457 rfl (lv_at hl 0 rfl) ?_
  refine lv_iload F.1 F.2.1 dL_law_458 (lv_at hl 4 rfl) ?_
  refine lv_iconst (v := 1) F.1 F.2.1 dL_law_460 (by decide) ?_
  refine lv_iadd F.1 F.2.1 dL_law_461 ?_
  refine x_topi (v := nI ((9 * k) + 1)) ((nI_add (9 * k) 1).symm) ?_
  refine x_sldN F hX hbl hw ((9 * k) + 1) rfl (by omega) (by omega) dL_law_462 ?_
  refine lw_V (As := [.int (xs ((9 * k) + 1))]) (rest := [.int r9]) ([(oa, .inl (cJ, 1, .inr (.inl of9)))] ++ (wTr cI cJ cO K w2 ++ wPl cI cJ kp)) F hw (q_6 _ _ _ _) (c_X4_cancel l G cI cJ cZ cO _ M v (xs ((9 * k) + 1)) hR.2.2.2.2.1 (hR.2.2.2.2.2.1 0 (by decide))) (cwV 1 F.2.2.2.2 gL_law_X4_cancel rfl rfl rfl (by decide +kernel) ⟨Nat.le_of_ble_eq_true rfl, Nat.le_of_ble_eq_true rfl⟩) rfl rfl rfl hl.1 rfl (lv_room (Nat.le_of_ble_eq_true rfl)) dL_law_463 ⟨by show kc ≤ 601024; omega, by show ks ≤ 7293034; omega⟩ (fun r6 u2 H locs hm hw => ?_)
  obtain ⟨hcd, hR2⟩ := op_cancel hR hc hm
  have hgl : gL (tG w2) = gL (tG tr) := by rcases hc with ⟨-, -, h⟩ | ⟨_, -, -, -, h⟩ <;> rw [h] <;> rfl
  clear hc hm
  refine lv_icmp_eq (tgt := 1549) F.1 F.2.1 dL_law_466 (by decide) (fun c466 => ?_) (fun c466 => ?_)
  rotate_left
  · exact (c466 hcd).elim
  refine lv_iinc (v := nI (9 * (k + 1))) (lv' := [(4, .int (nI (9 * (k + 1)))), (0, .ref b), (1, .ref (tH K)), (2, .ref (bH M)), (3, .ref oa)]) F.1 F.2.1 dL_law_1549 hl (k := 4) rfl (by rw [show Int32.ofInt 9 = nI 9 from rfl, nI_add, Nat.mul_succ]) (by decide) rfl (fun ls hl => ?_)
  refine lv_goto (tgt := 23) F.1 F.2.1 dL_law_1552 (by decide) ?_
  refine W.widen (k := 1000 + 60 * (k + 1) + (gL (tG w2) - 65)) (n := 40000 + 11000 * (k + 1) + 10 * (gL (tG w2) - 65)) (by omega) (by omega) ?_
  exact nx w2 kp u2 of9 H _ ls (hR2.up (by omega)) (pm_w hw (q_4 _ _ _ _)) (lv_sub hl [1, 2, 3, 4, 0] rfl)
