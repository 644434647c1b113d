set_option maxHeartbeats 8000000 in
set_option maxRecDepth 100000 in
theorem lc_waiting {p : Program} {l : Launch} {e : Env} {s : State} {m : MethodId} {below : List Frame} {meth : Method} {c : Code} {G : va_G} {cI cJ cZ cO : ClassId} {b L oa : Nat} {xs : Nat → Int32} {K : TrA} {M : MA} {k kc ks : Nat} {tr : TrR} {kp : List (StA × StR)} {v : MR} {of9 : Nat → Int64} {H : Heap} {locs : List Loc} {ls : Array Slot}  (F : CallFix p m c cL_law 8 s #[Value.ref b] wsL_law RL) (hst : l.stackTraces = false) (hE : xEn (fun q => s.heap.size ≤ q) s s.heap) (hX : va_X b L xs s s.heap) (hbl : b < s.heap.size) (hL : L ≤ 4608) (hk : 9 * k + 9 ≤ L) (nx : lwN p l e s m below meth c G cI cJ cZ cO b oa K M (k + 1)) (hkc : kc = 1000 + 60 * k + (gL (tG tr) - 65)) (hks : ks = 40000 + 11000 * k + 10 * (gL (tG tr) - 65)) (hR : LRel tr kp v (2081 * k)) (hw : xW G (xK cI cJ cZ cO) (fun q => s.heap.size ≤ q) s.heap s ([(oa, .inl (cJ, 1, .inr (.inl of9)))] ++ (wTr cI cJ cO K tr ++ (wPl cI cJ kp ++ wMo cI cJ cZ M v))) H locs) (hl : lv_has ls 8 [(0, .ref b), (1, .ref (tH K)), (2, .ref (bH M)), (3, .ref oa), (4, .int (nI (9 * k)))]) :
    W p l e room_1 s m #[Value.ref b] below meth c H locs kc ks (lw_Z below #[Value.ref b] s) (F0 m 934 ls []) := by
  have hg5 : 65 ≤ gL (tG tr) ∧ gL (tG tr) ≤ 2080 := by
    have h := hR.1.2.1
    unfold gLok at h
    omega
  refine lv_aload_n F.1 F.2.1 dL_law_934 rfl (lv_at hl 1 rfl) ?_
  refine lv_aload_n F.1 F.2.1 dL_law_935 rfl (lv_at hl 0 rfl) ?_
  refine lv_iload F.1 F.2.1 dL_law_936 (lv_at hl 4 rfl) ?_
  refine lv_iconst (v := 1) F.1 F.2.1 dL_law_938 (by decide) ?_
  refine lv_iadd F.1 F.2.1 dL_law_939 ?_
  refine x_topi (v := nI ((9 * k) + 1)) ((nI_add (9 * k) 1).symm) ?_
  refine x_sldN F hX hbl hw ((9 * k) + 1) rfl (by omega) (by omega) dL_law_940 ?_
  refine lv_aload_n F.1 F.2.1 dL_law_941 rfl (lv_at hl 0 rfl) ?_
  refine lv_iload F.1 F.2.1 dL_law_942 (lv_at hl 4 rfl) ?_
  refine lv_iconst (v := 2) F.1 F.2.1 dL_law_944 (by decide) ?_
  refine lv_iadd F.1 F.2.1 dL_law_945 ?_
  refine x_topi (v := nI ((9 * k) + 2)) ((nI_add (9 * k) 2).symm) ?_
  refine x_sldN F hX hbl hw ((9 * k) + 2) rfl (by omega) (by omega) dL_law_946 ?_
  refine lv_i2l (v := (xs ((9 * k) + 2)).toInt64) F.1 F.2.1 dL_law_947 (rfl) ?_
  refine lv_bipush (v := 32) F.1 F.2.1 dL_law_948 (by decide) ?_
  refine lv_lshl (v := ((xs ((9 * k) + 2)).toInt64) <<< ((32 : Int32).toInt64 &&& 63)) F.1 F.2.1 dL_law_950 rfl ?_
  refine lv_aload_n F.1 F.2.1 dL_law_951 rfl (lv_at hl 0 rfl) ?_
  refine lv_iload F.1 F.2.1 dL_law_952 (lv_at hl 4 rfl) ?_
  refine lv_iconst (v := 3) F.1 F.2.1 dL_law_954 (by decide) ?_
  refine lv_iadd F.1 F.2.1 dL_law_955 ?_
  refine x_topi (v := nI ((9 * k) + 3)) ((nI_add (9 * k) 3).symm) ?_
  refine x_sldN F hX hbl hw ((9 * k) + 3) rfl (by omega) (by omega) dL_law_956 ?_
  refine lv_i2l (v := (xs ((9 * k) + 3)).toInt64) F.1 F.2.1 dL_law_957 (rfl) ?_
  refine lv_ldc2 (v := 4294967295) F.1 F.2.1 F.2.2.2.1 (F.2.2.2.2 _ (List.mem_of_getElem? (i := 7) rfl)) dL_law_958 ?_
  refine lv_land F.1 F.2.1 dL_law_961 ?_
  refine lv_lor F.1 F.2.1 dL_law_962 ?_
  refine x_topj (v := lJ (xs ((9 * k) + 2)) (xs ((9 * k) + 3))) rfl ?_
  refine lv_aload_n F.1 F.2.1 dL_law_963 rfl (lv_at hl 0 rfl) ?_
  refine lv_iload F.1 F.2.1 dL_law_964 (lv_at hl 4 rfl) ?_
  refine lv_iconst (v := 4) F.1 F.2.1 dL_law_966 (by decide) ?_
  refine lv_iadd F.1 F.2.1 dL_law_967 ?_
  refine x_topi (v := nI ((9 * k) + 4)) ((nI_add (9 * k) 4).symm) ?_
  refine x_sldN F hX hbl hw ((9 * k) + 4) rfl (by omega) (by omega) dL_law_968 ?_
  refine lv_i2l (v := (xs ((9 * k) + 4)).toInt64) F.1 F.2.1 dL_law_969 (rfl) ?_
  refine lv_bipush (v := 32) F.1 F.2.1 dL_law_970 (by decide) ?_
  refine lv_lshl (v := ((xs ((9 * k) + 4)).toInt64) <<< ((32 : Int32).toInt64 &&& 63)) F.1 F.2.1 dL_law_972 rfl ?_
  refine lv_aload_n F.1 F.2.1 dL_law_973 rfl (lv_at hl 0 rfl) ?_
  refine lv_iload F.1 F.2.1 dL_law_974 (lv_at hl 4 rfl) ?_
  refine lv_iconst (v := 5) F.1 F.2.1 dL_law_976 (by decide) ?_
  refine lv_iadd F.1 F.2.1 dL_law_977 ?_
  refine x_topi (v := nI ((9 * k) + 5)) ((nI_add (9 * k) 5).symm) ?_
  refine x_sldN F hX hbl hw ((9 * k) + 5) rfl (by omega) (by omega) dL_law_978 ?_
  refine lv_i2l (v := (xs ((9 * k) + 5)).toInt64) F.1 F.2.1 dL_law_979 (rfl) ?_
  refine lv_ldc2 (v := 4294967295) F.1 F.2.1 F.2.2.2.1 (F.2.2.2.2 _ (List.mem_of_getElem? (i := 7) rfl)) dL_law_980 ?_
  refine lv_land F.1 F.2.1 dL_law_983 ?_
  refine lv_lor F.1 F.2.1 dL_law_984 ?_
  refine x_topj (v := lJ (xs ((9 * k) + 4)) (xs ((9 * k) + 5))) rfl ?_
  refine lv_aload_n F.1 F.2.1 dL_law_985 rfl (lv_at hl 0 rfl) ?_
  refine lv_iload F.1 F.2.1 dL_law_986 (lv_at hl 4 rfl) ?_
  refine lv_bipush (v := 6) F.1 F.2.1 dL_law_988 (by decide) ?_
  refine lv_iadd F.1 F.2.1 dL_law_990 ?_
  refine x_topi (v := nI ((9 * k) + 6)) ((nI_add (9 * k) 6).symm) ?_
  refine x_sldN F hX hbl hw ((9 * k) + 6) rfl (by omega) (by omega) dL_law_991 ?_
  refine lv_i2l (v := (xs ((9 * k) + 6)).toInt64) F.1 F.2.1 dL_law_992 (rfl) ?_
  refine lv_bipush (v := 32) F.1 F.2.1 dL_law_993 (by decide) ?_
  refine lv_lshl (v := ((xs ((9 * k) + 6)).toInt64) <<< ((32 : Int32).toInt64 &&& 63)) F.1 F.2.1 dL_law_995 rfl ?_
  refine lv_aload_n F.1 F.2.1 dL_law_996 rfl (lv_at hl 0 rfl) ?_
  refine lv_iload F.1 F.2.1 dL_law_997 (lv_at hl 4 rfl) ?_
  refine lv_bipush (v := 7) F.1 F.2.1 dL_law_999 (by decide) ?_
  refine lv_iadd F.1 F.2.1 dL_law_1001 ?_
  refine x_topi (v := nI ((9 * k) + 7)) ((nI_add (9 * k) 7).symm) ?_
  refine x_sldN F hX hbl hw ((9 * k) + 7) rfl (by omega) (by omega) dL_law_1002 ?_
  refine lv_i2l (v := (xs ((9 * k) + 7)).toInt64) F.1 F.2.1 dL_law_1003 (rfl) ?_
  refine lv_ldc2 (v := 4294967295) F.1 F.2.1 F.2.2.2.1 (F.2.2.2.2 _ (List.mem_of_getElem? (i := 7) rfl)) dL_law_1004 ?_
  refine lv_land F.1 F.2.1 dL_law_1007 ?_
  refine lv_lor F.1 F.2.1 dL_law_1008 ?_
  refine x_topj (v := lJ (xs ((9 * k) + 6)) (xs ((9 * k) + 7))) rfl ?_
  refine lv_aload_n F.1 F.2.1 dL_law_1009 rfl (lv_at hl 3 rfl) ?_
  refine lw_S (As := [.ref (tH K), .int (xs ((9 * k) + 1)), .long (lJ (xs ((9 * k) + 2)) (xs ((9 * k) + 3))), .long (lJ (xs ((9 * k) + 4)) (xs ((9 * k) + 5))), .long (lJ (xs ((9 * k) + 6)) (xs ((9 * k) + 7))), .ref oa]) (rest := []) (wPl cI cJ kp ++ wMo cI cJ cZ M v) F hw hE (q_1 _ _ _ _) (c_L_waiting l G cI cJ cZ cO _ hst K tr (xs ((9 * k) + 1)) (lJ (xs ((9 * k) + 2)) (xs ((9 * k) + 3))) (lJ (xs ((9 * k) + 4)) (xs ((9 * k) + 5))) (lJ (xs ((9 * k) + 6)) (xs ((9 * k) + 7))) hR.1.1.1.1 oa of9) (vx_cwSW 6 F.2.2.2.2 gL_law_L_waiting rfl rfl rfl (by decide +kernel) ⟨Nat.le_of_ble_eq_true rfl, Nat.le_of_ble_eq_true rfl⟩) rfl hl.1 rfl (lv_room (Nat.le_of_ble_eq_true rfl)) dL_law_1010 ⟨by show kc + 2 ≤ 601024; omega, by show ks + 12 ≤ 7293034; omega⟩ (fun r9 w2 H locs hc hw => ?_)
  refine lv_istore (lv' := [(5, .int r9), (0, .ref b), (1, .ref (tH K)), (2, .ref (bH M)), (3, .ref oa), (4, .int (nI (9 * k)))]) F.1 F.2.1 dL_law_1013 hl (by decide) rfl (fun ls hl => ?_)
  refine lv_aload_n F.1 F.2.1 dL_law_1015 rfl (lv_at hl 3 rfl) ?_
  refine lv_aload_n F.1 F.2.1 dL_law_1016 rfl (lv_at hl 1 rfl) ?_
  refine lv_iload F.1 F.2.1 dL_law_1017 (lv_at hl 5 rfl) ?_
  refine lv_iconst (v := 1) F.1 F.2.1 dL_law_1019 (by decide) ?_
  refine lv_iadd F.1 F.2.1 dL_law_1020 ?_
  refine x_topi (v := nI ((9 * k) + 1)) ((nI_add (9 * k) 1).symm) ?_
  refine x_sldN F hX hbl hw ((9 * k) + 1) rfl (by omega) (by omega) dL_law_1021 ?_
  refine lv_aload_n F.1 F.2.1 dL_law_1022 rfl (lv_at hl 1 rfl) ?_
  refine lv_iload F.1 F.2.1 dL_law_1023 (lv_at hl 5 rfl) ?_
  refine lv_iconst (v := 2) F.1 F.2.1 dL_law_1025 (by decide) ?_
  refine lv_iadd F.1 F.2.1 dL_law_1026 ?_
  refine x_topi (v := nI ((9 * k) + 2)) ((nI_add (9 * k) 2).symm) ?_
  refine x_sldN F hX hbl hw ((9 * k) + 2) rfl (by omega) (by omega) dL_law_1027 ?_
  refine lv_i2l (v := (xs ((9 * k) + 2)).toInt64) F.1 F.2.1 dL_law_1028 (rfl) ?_
  refine lv_bipush (v := 32) F.1 F.2.1 dL_law_1029 (by decide) ?_
  refine lv_lshl (v := ((xs ((9 * k) + 2)).toInt64) <<< ((32 : Int32).toInt64 &&& 63)) F.1 F.2.1 dL_law_1031 rfl ?_
  refine lv_aload_n F.1 F.2.1 dL_law_1032 rfl (lv_at hl 1 rfl) ?_
  refine lv_iload F.1 F.2.1 dL_law_1033 (lv_at hl 5 rfl) ?_
  refine lv_iconst (v := 3) F.1 F.2.1 dL_law_1035 (by decide) ?_
  refine lv_iadd F.1 F.2.1 dL_law_1036 ?_
  refine x_topi (v := nI ((9 * k) + 3)) ((nI_add (9 * k) 3).symm) ?_
  refine x_sldN F hX hbl hw ((9 * k) + 3) rfl (by omega) (by omega) dL_law_1037 ?_
  refine lv_i2l (v := (xs ((9 * k) + 3)).toInt64) F.1 F.2.1 dL_law_1038 (rfl) ?_
  refine lv_ldc2 (v := 4294967295) F.1 F.2.1 F.2.2.2.1 (F.2.2.2.2 _ (List.mem_of_getElem? (i := 7) rfl)) dL_law_1039 ?_
  refine lv_land F.1 F.2.1 dL_law_1042 ?_
  refine lv_lor F.1 F.2.1 dL_law_1043 ?_
  refine x_topj (v := lJ (xs ((9 * k) + 2)) (xs ((9 * k) + 3))) rfl ?_
  refine lv_aload_n F.1 F.2.1 dL_law_1044 rfl (lv_at hl 1 rfl) ?_
  refine lv_iload F.1 F.2.1 dL_law_1045 (lv_at hl 5 rfl) ?_
  refine lv_iconst (v := 4) F.1 F.2.1 dL_law_1047 (by decide) ?_
  refine lv_iadd F.1 F.2.1 dL_law_1048 ?_
  refine x_topi (v := nI ((9 * k) + 4)) ((nI_add (9 * k) 4).symm) ?_
  refine x_sldN F hX hbl hw ((9 * k) + 4) rfl (by omega) (by omega) dL_law_1049 ?_
  refine lv_i2l (v := (xs ((9 * k) + 4)).toInt64) F.1 F.2.1 dL_law_1050 (rfl) ?_
  refine lv_bipush (v := 32) F.1 F.2.1 dL_law_1051 (by decide) ?_
  refine lv_lshl (v := ((xs ((9 * k) + 4)).toInt64) <<< ((32 : Int32).toInt64 &&& 63)) F.1 F.2.1 dL_law_1053 rfl ?_
  refine lv_aload_n F.1 F.2.1 dL_law_1054 rfl (lv_at hl 1 rfl) ?_
  refine lv_iload F.1 F.2.1 dL_law_1055 (lv_at hl 5 rfl) ?_
  refine lv_iconst (v := 5) F.1 F.2.1 dL_law_1057 (by decide) ?_
  refine lv_iadd F.1 F.2.1 dL_law_1058 ?_
  refine x_topi (v := nI ((9 * k) + 5)) ((nI_add (9 * k) 5).symm) ?_
  refine x_sldN F hX hbl hw ((9 * k) + 5) rfl (by omega) (by omega) dL_law_1059 ?_
  refine lv_i2l (v := (xs ((9 * k) + 5)).toInt64) F.1 F.2.1 dL_law_1060 (rfl) ?_
  refine lv_ldc2 (v := 4294967295) F.1 F.2.1 F.2.2.2.1 (F.2.2.2.2 _ (List.mem_of_getElem? (i := 7) rfl)) dL_law_1061 ?_
  refine lv_land F.1 F.2.1 dL_law_1064 ?_
  refine lv_lor F.1 F.2.1 dL_law_1065 ?_
  refine x_topj (v := lJ (xs ((9 * k) + 4)) (xs ((9 * k) + 5))) rfl ?_
  refine lv_aload_n F.1 F.2.1 dL_law_1066 rfl (lv_at hl 1 rfl) ?_
  refine lv_iload F.1 F.2.1 dL_law_1067 (lv_at hl 5 rfl) ?_
  refine lv_bipush (v := 6) F.1 F.2.1 dL_law_1069 (by decide) ?_
  refine lv_iadd F.1 F.2.1 dL_law_1071 ?_
  refine x_topi (v := nI ((9 * k) + 6)) ((nI_add (9 * k) 6).symm) ?_
  refine x_sldN F hX hbl hw ((9 * k) + 6) rfl (by omega) (by omega) dL_law_1072 ?_
  refine lv_i2l (v := (xs ((9 * k) + 6)).toInt64) F.1 F.2.1 dL_law_1073 (rfl) ?_
  refine lv_bipush (v := 32) F.1 F.2.1 dL_law_1074 (by decide) ?_
  refine lv_lshl (v := ((xs ((9 * k) + 6)).toInt64) <<< ((32 : Int32).toInt64 &&& 63)) F.1 F.2.1 dL_law_1076 rfl ?_
  refine lv_aload_n F.1 F.2.1 dL_law_1077 rfl (lv_at hl 1 rfl) ?_
  refine lv_iload F.1 F.2.1 dL_law_1078 (lv_at hl 5 rfl) ?_
  refine lv_bipush (v := 7) F.1 F.2.1 dL_law_1080 (by decide) ?_
  refine lv_iadd F.1 F.2.1 dL_law_1082 ?_
  refine x_topi (v := nI ((9 * k) + 7)) ((nI_add (9 * k) 7).symm) ?_
  refine x_sldN F hX hbl hw ((9 * k) + 7) rfl (by omega) (by omega) dL_law_1083 ?_
  refine lv_i2l (v := (xs ((9 * k) + 7)).toInt64) F.1 F.2.1 dL_law_1084 (rfl) ?_
  refine lv_ldc2 (v := 4294967295) F.1 F.2.1 F.2.2.2.1 (F.2.2.2.2 _ (List.mem_of_getElem? (i := 7) rfl)) dL_law_1085 ?_
  refine lv_land F.1 F.2.1 dL_law_1088 ?_
  refine lv_lor F.1 F.2.1 dL_law_1089 ?_
  refine x_topj (v := lJ (xs ((9 * k) + 6)) (xs ((9 * k) + 7))) rfl ?_
  refine lw_V (As := [.int (xs ((9 * k) + 1)), .long (lJ (xs ((9 * k) + 2)) (xs ((9 * k) + 3))), .long (lJ (xs ((9 * k) + 4)) (xs ((9 * k) + 5))), .long (lJ (xs ((9 * k) + 6)) (xs ((9 * k) + 7)))]) (rest := []) ([(oa, .inl (cJ, 1, .inr (.inl w2.2)))] ++ (wTr cI cJ cO K w2.1 ++ wPl cI cJ kp)) F hw (q_2 _ _ _ _) (c_X4_waiting l G cI cJ cZ cO _ M v (xs ((9 * k) + 1)) (lJ (xs ((9 * k) + 2)) (xs ((9 * k) + 3))) (lJ (xs ((9 * k) + 4)) (xs ((9 * k) + 5))) (lJ (xs ((9 * k) + 6)) (xs ((9 * k) + 7))) (hR.2.2.2.2.2.1 0 (by decide))) (cwV 4 F.2.2.2.2 gL_law_X4_waiting rfl rfl rfl (by decide +kernel) ⟨Nat.le_of_ble_eq_true rfl, Nat.le_of_ble_eq_true rfl⟩) rfl rfl rfl hl.1 rfl (lv_room (Nat.le_of_ble_eq_true rfl)) dL_law_1090 ⟨by show kc + 2 ≤ 601024; omega, by show ks + 12 ≤ 7293034; omega⟩ (fun r6 u2 H locs hm hw => ?_)
  obtain ⟨hcd, hv0, hR2⟩ := op_waiting hR hc hm
  have hgl : gL (tG w2.1) = gL (tG tr) := by rcases hc with ⟨-, _, ⟨-, h⟩, -⟩ | ⟨-, h, -⟩ <;> rw [h] <;> rfl
  clear hc hm
  refine lv_istore (lv' := [(6, .int r6), (5, .int r9), (0, .ref b), (1, .ref (tH K)), (2, .ref (bH M)), (3, .ref oa), (4, .int (nI (9 * k)))]) F.1 F.2.1 dL_law_1093 hl (by decide) rfl (fun ls hl => ?_)
  refine lv_aload_n F.1 F.2.1 dL_law_1095 rfl (lv_at hl 4 rfl) ?_
  refine lw_T (As := []) (rest := []) ([(oa, .inl (cJ, 1, .inr (.inl w2.2)))] ++ (wTr cI cJ cO K w2.1 ++ wPl cI cJ kp)) F hw (q_3 _ _) (c_X4_thrown l G cI cJ cZ cO _ M u2) (cwV 0 F.2.2.2.2 gL_law_X4_thrown rfl rfl rfl (by decide +kernel) ⟨Nat.le_of_ble_eq_true rfl, Nat.le_of_ble_eq_true rfl⟩) rfl rfl rfl hl.1 rfl (lv_room (Nat.le_of_ble_eq_true rfl)) dL_law_1096 ⟨by show kc + 2 ≤ 601024; omega, by show ks + 12 ≤ 7293034; omega⟩ (fun rt ht => ?_)
  refine lv_iload F.1 F.2.1 dL_law_1099 (lv_at hl 1 rfl) ?_
  refine lv_icmp_eq (tgt := 1106) F.1 F.2.1 dL_law_1101 (by decide) (fun c1101 => ?_) (fun c1101 => ?_)
  rotate_left
  · exact (c1101 (ht.trans hcd)).elim
  refine lv_iload F.1 F.2.1 dL_law_1106 (lv_at hl 1 rfl) ?_
  refine lv_if_ne (tgt := 1123) F.1 F.2.1 dL_law_1108 (by decide) (fun c1108 => ?_) (fun c1108 => ?_)
  · refine lv_goto (tgt := 1549) F.1 F.2.1 dL_law_1123 (by decide) ?_
    refine lv_iinc (v := nI (9 * (k + 1))) (lv' := [(4, .int (nI (9 * (k + 1)))), (6, .int r6), (5, .int r9), (0, .ref b), (1, .ref (tH K)), (2, .ref (bH M)), (3, .ref oa)]) F.1 F.2.1 dL_law_1549 hl (k := 6) rfl (by rw [show Int32.ofInt 9 = nI 9 from rfl, nI_add, Nat.mul_succ]) (by decide) rfl (fun ls hl => ?_)
    refine lv_goto (tgt := 23) F.1 F.2.1 dL_law_1552 (by decide) ?_
    refine W.widen (k := 1000 + 60 * (k + 1) + (gL (tG w2.1) - 65)) (n := 40000 + 11000 * (k + 1) + 10 * (gL (tG w2.1) - 65)) (by omega) (by omega) ?_
    exact nx w2.1 kp u2 w2.2 H _ ls (hR2.up (by omega)) (pm_w hw (q_4 _ _ _ _)) (lv_sub hl [3, 4, 5, 6, 0] rfl)
  · refine lv_aload_n F.1 F.2.1 dL_law_1111 rfl (lv_at hl 5 rfl) ?_
    refine lv_iconst (v := 0) F.1 F.2.1 dL_law_1112 (by decide) ?_
    refine x_laldN F hw 0 1 rfl rfl 0 rfl (by decide) (by decide) dL_law_1113 ?_
    refine lv_iload F.1 F.2.1 dL_law_1114 (lv_at hl 0 rfl) ?_
    refine lv_i2l (v := r6.toInt64) F.1 F.2.1 dL_law_1116 (rfl) ?_
    refine x_l_eq (tgt := 1123) F dL_law_1117 dL_law_1118 (by decide) (fun c1117 => ?_) (fun c1117 => ?_)
    rotate_left
    · exact (c1117 (hv0 c1108)).elim
    refine lv_goto (tgt := 1549) F.1 F.2.1 dL_law_1123 (by decide) ?_
    refine lv_iinc (v := nI (9 * (k + 1))) (lv' := [(4, .int (nI (9 * (k + 1)))), (6, .int r6), (5, .int r9), (0, .ref b), (1, .ref (tH K)), (2, .ref (bH M)), (3, .ref oa)]) F.1 F.2.1 dL_law_1549 hl (k := 6) rfl (by rw [show Int32.ofInt 9 = nI 9 from rfl, nI_add, Nat.mul_succ]) (by decide) rfl (fun ls hl => ?_)
    refine lv_goto (tgt := 23) F.1 F.2.1 dL_law_1552 (by decide) ?_
    refine W.widen (k := 1000 + 60 * (k + 1) + (gL (tG w2.1) - 65)) (n := 40000 + 11000 * (k + 1) + 10 * (gL (tG w2.1) - 65)) (by omega) (by omega) ?_
    exact nx w2.1 kp u2 w2.2 H _ ls (hR2.up (by omega)) (pm_w hw (q_4 _ _ _ _)) (lv_sub hl [3, 4, 5, 6, 0] rfl)

set_option maxHeartbeats 8000000 in
set_option maxRecDepth 100000 in
theorem lc_forget {p : Program} {l : Launch} {e : Env} {s : State} {m : MethodId} {below : List Frame} {meth : Method} {c : Code} {G : va_G} {cI cJ cZ cO : ClassId} {b L oa : Nat} {xs : Nat → Int32} {K : TrA} {M : MA} {k kc ks : Nat} {tr : TrR} {kp : List (StA × StR)} {v : MR} {of9 : Nat → Int64} {H : Heap} {locs : List Loc} {ls : Array Slot}  (F : CallFix p m c cL_law 8 s #[Value.ref b] wsL_law RL) (hst : l.stackTraces = false) (hE : xEn (fun q => s.heap.size ≤ q) s s.heap) (hX : va_X b L xs s s.heap) (hbl : b < s.heap.size) (hL : L ≤ 4608) (hk : 9 * k + 9 ≤ L) (nx : lwN p l e s m below meth c G cI cJ cZ cO b oa K M (k + 1)) (hkc : kc = 1000 + 60 * k + (gL (tG tr) - 65)) (hks : ks = 40000 + 11000 * k + 10 * (gL (tG tr) - 65)) (hR : LRel tr kp v (2081 * k)) (hw : xW G (xK cI cJ cZ cO) (fun q => s.heap.size ≤ q) s.heap s ([(oa, .inl (cJ, 1, .inr (.inl of9)))] ++ (wTr cI cJ cO K tr ++ (wPl cI cJ kp ++ wMo cI cJ cZ M v))) H locs) (hl : lv_has ls 8 [(0, .ref b), (1, .ref (tH K)), (2, .ref (bH M)), (3, .ref oa), (4, .int (nI (9 * k)))]) :
    W p l e room_1 s m #[Value.ref b] below meth c H locs kc ks (lw_Z below #[Value.ref b] s) (F0 m 1226 ls []) := by
  have hg5 : 65 ≤ gL (tG tr) ∧ gL (tG tr) ≤ 2080 := by
    have h := hR.1.2.1
    unfold gLok at h
    omega
  refine lv_aload_n F.1 F.2.1 dL_law_1226 rfl (lv_at hl 1 rfl) ?_
  refine lv_aload_n F.1 F.2.1 dL_law_1227 rfl (lv_at hl 3 rfl) ?_
  refine lw_S (As := [.ref (tH K), .ref oa]) (rest := []) (wPl cI cJ kp ++ wMo cI cJ cZ M v) F hw hE (q_1 _ _ _ _) (c_L_forget l G cI cJ cZ cO _ hst K tr  hR.2.2.2.2.2.2.2.1 oa of9) (vx_cwSW 2 F.2.2.2.2 gL_law_L_forget rfl rfl rfl (by decide +kernel) ⟨Nat.le_of_ble_eq_true rfl, Nat.le_of_ble_eq_true rfl⟩) rfl hl.1 rfl (lv_room (Nat.le_of_ble_eq_true rfl)) dL_law_1228 ⟨by show kc + 1 ≤ 601024; omega, by show ks + 6 ≤ 7293034; omega⟩ (fun r9 w2 H locs hc hw => ?_)
  refine lv_istore (lv' := [(5, .int r9), (0, .ref b), (1, .ref (tH K)), (2, .ref (bH M)), (3, .ref oa), (4, .int (nI (9 * k)))]) F.1 F.2.1 dL_law_1231 hl (by decide) rfl (fun ls hl => ?_)
  refine lv_aload_n F.1 F.2.1 dL_law_1233 rfl (lv_at hl 3 rfl) ?_
  refine lw_V (As := []) (rest := []) ([(oa, .inl (cJ, 1, .inr (.inl w2.2)))] ++ (wTr cI cJ cO K w2.1 ++ wPl cI cJ kp)) F hw (q_2 _ _ _ _) (c_X4_forget l G cI cJ cZ cO _ M v  (by have h1 := hR.2.2.2.2.2.2.1; have h2 := hR.2.2.2.2.2.2.2.1; omega)) (cwV 0 F.2.2.2.2 gL_law_X4_forget rfl rfl rfl (by decide +kernel) ⟨Nat.le_of_ble_eq_true rfl, Nat.le_of_ble_eq_true rfl⟩) rfl rfl rfl hl.1 rfl (lv_room (Nat.le_of_ble_eq_true rfl)) dL_law_1234 ⟨by show kc + 1 ≤ 601024; omega, by show ks + 6 ≤ 7293034; omega⟩ (fun r6 u2 H locs hm hw => ?_)
  obtain ⟨hcd, hv0, hR2⟩ := op_forget hR hc hm
  have hgl : gL (tG w2.1) = gL (tG tr) := by rcases hc with ⟨-, _, ⟨-, -, h⟩, -⟩ | ⟨-, h, -⟩ <;> rw [h] <;> rfl
  clear hc hm
  refine lv_istore (lv' := [(6, .int r6), (5, .int r9), (0, .ref b), (1, .ref (tH K)), (2, .ref (bH M)), (3, .ref oa), (4, .int (nI (9 * k)))]) F.1 F.2.1 dL_law_1237 hl (by decide) rfl (fun ls hl => ?_)
  refine lv_aload_n F.1 F.2.1 dL_law_1239 rfl (lv_at hl 4 rfl) ?_
  refine lw_T (As := []) (rest := []) ([(oa, .inl (cJ, 1, .inr (.inl w2.2)))] ++ (wTr cI cJ cO K w2.1 ++ wPl cI cJ kp)) F hw (q_3 _ _) (c_X4_thrown l G cI cJ cZ cO _ M u2) (cwV 0 F.2.2.2.2 gL_law_X4_thrown rfl rfl rfl (by decide +kernel) ⟨Nat.le_of_ble_eq_true rfl, Nat.le_of_ble_eq_true rfl⟩) rfl rfl rfl hl.1 rfl (lv_room (Nat.le_of_ble_eq_true rfl)) dL_law_1240 ⟨by show kc + 1 ≤ 601024; omega, by show ks + 6 ≤ 7293034; omega⟩ (fun rt ht => ?_)
  refine lv_iload F.1 F.2.1 dL_law_1243 (lv_at hl 1 rfl) ?_
  refine lv_icmp_eq (tgt := 1250) F.1 F.2.1 dL_law_1245 (by decide) (fun c1245 => ?_) (fun c1245 => ?_)
  rotate_left
  · exact (c1245 (ht.trans hcd)).elim
  refine lv_iload F.1 F.2.1 dL_law_1250 (lv_at hl 1 rfl) ?_
  refine lv_if_ne (tgt := 1267) F.1 F.2.1 dL_law_1252 (by decide) (fun c1252 => ?_) (fun c1252 => ?_)
  · refine lv_goto (tgt := 1549) F.1 F.2.1 dL_law_1267 (by decide) ?_
    refine lv_iinc (v := nI (9 * (k + 1))) (lv' := [(4, .int (nI (9 * (k + 1)))), (6, .int r6), (5, .int r9), (0, .ref b), (1, .ref (tH K)), (2, .ref (bH M)), (3, .ref oa)]) F.1 F.2.1 dL_law_1549 hl (k := 6) rfl (by rw [show Int32.ofInt 9 = nI 9 from rfl, nI_add, Nat.mul_succ]) (by decide) rfl (fun ls hl => ?_)
    refine lv_goto (tgt := 23) F.1 F.2.1 dL_law_1552 (by decide) ?_
    refine W.widen (k := 1000 + 60 * (k + 1) + (gL (tG w2.1) - 65)) (n := 40000 + 11000 * (k + 1) + 10 * (gL (tG w2.1) - 65)) (by omega) (by omega) ?_
    exact nx w2.1 kp u2 w2.2 H _ ls (hR2.up (by omega)) (pm_w hw (q_4 _ _ _ _)) (lv_sub hl [3, 4, 5, 6, 0] rfl)
  · refine lv_aload_n F.1 F.2.1 dL_law_1255 rfl (lv_at hl 5 rfl) ?_
    refine lv_iconst (v := 0) F.1 F.2.1 dL_law_1256 (by decide) ?_
    refine x_laldN F hw 0 1 rfl rfl 0 rfl (by decide) (by decide) dL_law_1257 ?_
    refine lv_iload F.1 F.2.1 dL_law_1258 (lv_at hl 0 rfl) ?_
    refine lv_i2l (v := r6.toInt64) F.1 F.2.1 dL_law_1260 (rfl) ?_
    refine x_l_eq (tgt := 1267) F dL_law_1261 dL_law_1262 (by decide) (fun c1261 => ?_) (fun c1261 => ?_)
    rotate_left
    · exact (c1261 (hv0 c1252)).elim
    refine lv_goto (tgt := 1549) F.1 F.2.1 dL_law_1267 (by decide) ?_
    refine lv_iinc (v := nI (9 * (k + 1))) (lv' := [(4, .int (nI (9 * (k + 1)))), (6, .int r6), (5, .int r9), (0, .ref b), (1, .ref (tH K)), (2, .ref (bH M)), (3, .ref oa)]) F.1 F.2.1 dL_law_1549 hl (k := 6) rfl (by rw [show Int32.ofInt 9 = nI 9 from rfl, nI_add, Nat.mul_succ]) (by decide) rfl (fun ls hl => ?_)
    refine lv_goto (tgt := 23) F.1 F.2.1 dL_law_1552 (by decide) ?_
    refine W.widen (k := 1000 + 60 * (k + 1) + (gL (tG w2.1) - 65)) (n := 40000 + 11000 * (k + 1) + 10 * (gL (tG w2.1) - 65)) (by omega) (by omega) ?_
    exact nx w2.1 kp u2 w2.2 H _ ls (hR2.up (by omega)) (pm_w hw (q_4 _ _ _ _)) (lv_sub hl [3, 4, 5, 6, 0] rfl)

set_option maxHeartbeats 8000000 in
set_option maxRecDepth 100000 in
theorem lc_task {p : Program} {l : Launch} {e : Env} {s : State} {m : MethodId} {below : List Frame} {meth : Method} {c : Code} {G : va_G} {cI cJ cZ cO : ClassId} {b L oa : Nat} {xs : Nat → Int32} {K : TrA} {M : MA} {k kc ks : Nat} {tr : TrR} {kp : List (StA × StR)} {v : MR} {of9 : Nat → Int64} {H : Heap} {locs : List Loc} {ls : Array Slot}  (F : CallFix p m c cL_law 8 s #[Value.ref b] wsL_law RL) (hst : l.stackTraces = false) (hE : xEn (fun q => s.heap.size ≤ q) s s.heap) (hX : va_X b L xs s s.heap) (hbl : b < s.heap.size) (hL : L ≤ 4608) (hk : 9 * k + 9 ≤ L) (nx : lwN p l e s m below meth c G cI cJ cZ cO b oa K M (k + 1)) (hkc : kc = 1000 + 60 * k + (gL (tG tr) - 65)) (hks : ks = 40000 + 11000 * k + 10 * (gL (tG tr) - 65)) (hR : LRel tr kp v (2081 * k)) (hw : xW G (xK cI cJ cZ cO) (fun q => s.heap.size ≤ q) s.heap s ([(oa, .inl (cJ, 1, .inr (.inl of9)))] ++ (wTr cI cJ cO K tr ++ (wPl cI cJ kp ++ wMo cI cJ cZ M v))) H locs) (hl : lv_has ls 8 [(0, .ref b), (1, .ref (tH K)), (2, .ref (bH M)), (3, .ref oa), (4, .int (nI (9 * k)))]) :
    W p l e room_1 s m #[Value.ref b] below meth c H locs kc ks (lw_Z below #[Value.ref b] s) (F0 m 1270 ls []) := by
  have hg5 : 65 ≤ gL (tG tr) ∧ gL (tG tr) ≤ 2080 := by
    have h := hR.1.2.1
    unfold gLok at h
    omega
  refine lv_aload_n F.1 F.2.1 dL_law_1270 rfl (lv_at hl 1 rfl) ?_
  refine lv_aload_n F.1 F.2.1 dL_law_1271 rfl (lv_at hl 0 rfl) ?_
  refine lv_iload F.1 F.2.1 dL_law_1272 (lv_at hl 4 rfl) ?_
  refine lv_iconst (v := 1) F.1 F.2.1 dL_law_1274 (by decide) ?_
  refine lv_iadd F.1 F.2.1 dL_law_1275 ?_
  refine x_topi (v := nI ((9 * k) + 1)) ((nI_add (9 * k) 1).symm) ?_
  refine x_sldN F hX hbl hw ((9 * k) + 1) rfl (by omega) (by omega) dL_law_1276 ?_
  refine lv_i2l (v := (xs ((9 * k) + 1)).toInt64) F.1 F.2.1 dL_law_1277 (rfl) ?_
  refine lv_bipush (v := 32) F.1 F.2.1 dL_law_1278 (by decide) ?_
  refine lv_lshl (v := ((xs ((9 * k) + 1)).toInt64) <<< ((32 : Int32).toInt64 &&& 63)) F.1 F.2.1 dL_law_1280 rfl ?_
  refine lv_aload_n F.1 F.2.1 dL_law_1281 rfl (lv_at hl 0 rfl) ?_
  refine lv_iload F.1 F.2.1 dL_law_1282 (lv_at hl 4 rfl) ?_
  refine lv_iconst (v := 2) F.1 F.2.1 dL_law_1284 (by decide) ?_
  refine lv_iadd F.1 F.2.1 dL_law_1285 ?_
  refine x_topi (v := nI ((9 * k) + 2)) ((nI_add (9 * k) 2).symm) ?_
  refine x_sldN F hX hbl hw ((9 * k) + 2) rfl (by omega) (by omega) dL_law_1286 ?_
  refine lv_i2l (v := (xs ((9 * k) + 2)).toInt64) F.1 F.2.1 dL_law_1287 (rfl) ?_
  refine lv_ldc2 (v := 4294967295) F.1 F.2.1 F.2.2.2.1 (F.2.2.2.2 _ (List.mem_of_getElem? (i := 7) rfl)) dL_law_1288 ?_
  refine lv_land F.1 F.2.1 dL_law_1291 ?_
  refine lv_lor F.1 F.2.1 dL_law_1292 ?_
  refine x_topj (v := lJ (xs ((9 * k) + 1)) (xs ((9 * k) + 2))) rfl ?_
  refine lv_aload_n F.1 F.2.1 dL_law_1293 rfl (lv_at hl 0 rfl) ?_
  refine lv_iload F.1 F.2.1 dL_law_1294 (lv_at hl 4 rfl) ?_
  refine lv_iconst (v := 3) F.1 F.2.1 dL_law_1296 (by decide) ?_
  refine lv_iadd F.1 F.2.1 dL_law_1297 ?_
  refine x_topi (v := nI ((9 * k) + 3)) ((nI_add (9 * k) 3).symm) ?_
  refine x_sldN F hX hbl hw ((9 * k) + 3) rfl (by omega) (by omega) dL_law_1298 ?_
  refine lv_aload_n F.1 F.2.1 dL_law_1299 rfl (lv_at hl 3 rfl) ?_
  refine lw_S (As := [.ref (tH K), .long (lJ (xs ((9 * k) + 1)) (xs ((9 * k) + 2))), .int (xs ((9 * k) + 3)), .ref oa]) (rest := []) (wPl cI cJ kp ++ wMo cI cJ cZ M v) F hw hE (q_1 _ _ _ _) (c_L_task l G cI cJ cZ cO _ hst K tr (lJ (xs ((9 * k) + 1)) (xs ((9 * k) + 2))) (xs ((9 * k) + 3))  oa of9) (vx_cwSW 4 F.2.2.2.2 gL_law_L_task rfl rfl rfl (by decide +kernel) ⟨Nat.le_of_ble_eq_true rfl, Nat.le_of_ble_eq_true rfl⟩) rfl hl.1 rfl (lv_room (Nat.le_of_ble_eq_true rfl)) dL_law_1300 ⟨by show kc + 1 ≤ 601024; omega, by show ks + 6 ≤ 7293034; omega⟩ (fun r9 w2 H locs hc hw => ?_)
  refine lv_istore (lv' := [(5, .int r9), (0, .ref b), (1, .ref (tH K)), (2, .ref (bH M)), (3, .ref oa), (4, .int (nI (9 * k)))]) F.1 F.2.1 dL_law_1303 hl (by decide) rfl (fun ls hl => ?_)
  refine lv_aload_n F.1 F.2.1 dL_law_1305 rfl (lv_at hl 3 rfl) ?_
  refine lv_aload_n F.1 F.2.1 dL_law_1306 rfl (lv_at hl 1 rfl) ?_
  refine lv_iload F.1 F.2.1 dL_law_1307 (lv_at hl 5 rfl) ?_
  refine lv_iconst (v := 1) F.1 F.2.1 dL_law_1309 (by decide) ?_
  refine lv_iadd F.1 F.2.1 dL_law_1310 ?_
  refine x_topi (v := nI ((9 * k) + 1)) ((nI_add (9 * k) 1).symm) ?_
  refine x_sldN F hX hbl hw ((9 * k) + 1) rfl (by omega) (by omega) dL_law_1311 ?_
  refine lv_i2l (v := (xs ((9 * k) + 1)).toInt64) F.1 F.2.1 dL_law_1312 (rfl) ?_
  refine lv_bipush (v := 32) F.1 F.2.1 dL_law_1313 (by decide) ?_
  refine lv_lshl (v := ((xs ((9 * k) + 1)).toInt64) <<< ((32 : Int32).toInt64 &&& 63)) F.1 F.2.1 dL_law_1315 rfl ?_
  refine lv_aload_n F.1 F.2.1 dL_law_1316 rfl (lv_at hl 1 rfl) ?_
  refine lv_iload F.1 F.2.1 dL_law_1317 (lv_at hl 5 rfl) ?_
  refine lv_iconst (v := 2) F.1 F.2.1 dL_law_1319 (by decide) ?_
  refine lv_iadd F.1 F.2.1 dL_law_1320 ?_
  refine x_topi (v := nI ((9 * k) + 2)) ((nI_add (9 * k) 2).symm) ?_
  refine x_sldN F hX hbl hw ((9 * k) + 2) rfl (by omega) (by omega) dL_law_1321 ?_
  refine lv_i2l (v := (xs ((9 * k) + 2)).toInt64) F.1 F.2.1 dL_law_1322 (rfl) ?_
  refine lv_ldc2 (v := 4294967295) F.1 F.2.1 F.2.2.2.1 (F.2.2.2.2 _ (List.mem_of_getElem? (i := 7) rfl)) dL_law_1323 ?_
  refine lv_land F.1 F.2.1 dL_law_1326 ?_
  refine lv_lor F.1 F.2.1 dL_law_1327 ?_
  refine x_topj (v := lJ (xs ((9 * k) + 1)) (xs ((9 * k) + 2))) rfl ?_
  refine lv_aload_n F.1 F.2.1 dL_law_1328 rfl (lv_at hl 1 rfl) ?_
  refine lv_iload F.1 F.2.1 dL_law_1329 (lv_at hl 5 rfl) ?_
  refine lv_iconst (v := 3) F.1 F.2.1 dL_law_1331 (by decide) ?_
  refine lv_iadd F.1 F.2.1 dL_law_1332 ?_
  refine x_topi (v := nI ((9 * k) + 3)) ((nI_add (9 * k) 3).symm) ?_
  refine x_sldN F hX hbl hw ((9 * k) + 3) rfl (by omega) (by omega) dL_law_1333 ?_
  refine lw_V (As := [.long (lJ (xs ((9 * k) + 1)) (xs ((9 * k) + 2))), .int (xs ((9 * k) + 3))]) (rest := []) ([(oa, .inl (cJ, 1, .inr (.inl w2.2)))] ++ (wTr cI cJ cO K w2.1 ++ wPl cI cJ kp)) F hw (q_2 _ _ _ _) (c_X4_task l G cI cJ cZ cO _ M v (lJ (xs ((9 * k) + 1)) (xs ((9 * k) + 2))) (xs ((9 * k) + 3)) ) (cwV 2 F.2.2.2.2 gL_law_X4_task rfl rfl rfl (by decide +kernel) ⟨Nat.le_of_ble_eq_true rfl, Nat.le_of_ble_eq_true rfl⟩) rfl rfl rfl hl.1 rfl (lv_room (Nat.le_of_ble_eq_true rfl)) dL_law_1334 ⟨by show kc + 1 ≤ 601024; omega, by show ks + 6 ≤ 7293034; omega⟩ (fun r6 u2 H locs hm hw => ?_)
  obtain ⟨hcd, hv0, hR2⟩ := op_task hR hc hm
  have hgl : gL (tG w2.1) = gL (tG tr) := by rcases hc with ⟨-, _, ⟨-, h⟩, -⟩ | ⟨-, h, -⟩ <;> rw [h] <;> rfl
  clear hc hm
  refine lv_istore (lv' := [(6, .int r6), (5, .int r9), (0, .ref b), (1, .ref (tH K)), (2, .ref (bH M)), (3, .ref oa), (4, .int (nI (9 * k)))]) F.1 F.2.1 dL_law_1337 hl (by decide) rfl (fun ls hl => ?_)
  refine lv_aload_n F.1 F.2.1 dL_law_1339 rfl (lv_at hl 4 rfl) ?_
  refine lw_T (As := []) (rest := []) ([(oa, .inl (cJ, 1, .inr (.inl w2.2)))] ++ (wTr cI cJ cO K w2.1 ++ wPl cI cJ kp)) F hw (q_3 _ _) (c_X4_thrown l G cI cJ cZ cO _ M u2) (cwV 0 F.2.2.2.2 gL_law_X4_thrown rfl rfl rfl (by decide +kernel) ⟨Nat.le_of_ble_eq_true rfl, Nat.le_of_ble_eq_true rfl⟩) rfl rfl rfl hl.1 rfl (lv_room (Nat.le_of_ble_eq_true rfl)) dL_law_1340 ⟨by show kc + 1 ≤ 601024; omega, by show ks + 6 ≤ 7293034; omega⟩ (fun rt ht => ?_)
  refine lv_iload F.1 F.2.1 dL_law_1343 (lv_at hl 1 rfl) ?_
  refine lv_icmp_eq (tgt := 1350) F.1 F.2.1 dL_law_1345 (by decide) (fun c1345 => ?_) (fun c1345 => ?_)
  rotate_left
  · exact (c1345 (ht.trans hcd)).elim
  refine lv_iload F.1 F.2.1 dL_law_1350 (lv_at hl 1 rfl) ?_
  refine lv_if_ne (tgt := 1367) F.1 F.2.1 dL_law_1352 (by decide) (fun c1352 => ?_) (fun c1352 => ?_)
  · refine lv_goto (tgt := 1549) F.1 F.2.1 dL_law_1367 (by decide) ?_
    refine lv_iinc (v := nI (9 * (k + 1))) (lv' := [(4, .int (nI (9 * (k + 1)))), (6, .int r6), (5, .int r9), (0, .ref b), (1, .ref (tH K)), (2, .ref (bH M)), (3, .ref oa)]) F.1 F.2.1 dL_law_1549 hl (k := 6) rfl (by rw [show Int32.ofInt 9 = nI 9 from rfl, nI_add, Nat.mul_succ]) (by decide) rfl (fun ls hl => ?_)
    refine lv_goto (tgt := 23) F.1 F.2.1 dL_law_1552 (by decide) ?_
    refine W.widen (k := 1000 + 60 * (k + 1) + (gL (tG w2.1) - 65)) (n := 40000 + 11000 * (k + 1) + 10 * (gL (tG w2.1) - 65)) (by omega) (by omega) ?_
    exact nx w2.1 kp u2 w2.2 H _ ls (hR2.up (by omega)) (pm_w hw (q_4 _ _ _ _)) (lv_sub hl [3, 4, 5, 6, 0] rfl)
  · refine lv_aload_n F.1 F.2.1 dL_law_1355 rfl (lv_at hl 5 rfl) ?_
    refine lv_iconst (v := 0) F.1 F.2.1 dL_law_1356 (by decide) ?_
    refine x_laldN F hw 0 1 rfl rfl 0 rfl (by decide) (by decide) dL_law_1357 ?_
    refine lv_iload F.1 F.2.1 dL_law_1358 (lv_at hl 0 rfl) ?_
    refine lv_i2l (v := r6.toInt64) F.1 F.2.1 dL_law_1360 (rfl) ?_
    refine x_l_eq (tgt := 1367) F dL_law_1361 dL_law_1362 (by decide) (fun c1361 => ?_) (fun c1361 => ?_)
    rotate_left
    · exact (c1361 (hv0 c1352)).elim
    refine lv_goto (tgt := 1549) F.1 F.2.1 dL_law_1367 (by decide) ?_
    refine lv_iinc (v := nI (9 * (k + 1))) (lv' := [(4, .int (nI (9 * (k + 1)))), (6, .int r6), (5, .int r9), (0, .ref b), (1, .ref (tH K)), (2, .ref (bH M)), (3, .ref oa)]) F.1 F.2.1 dL_law_1549 hl (k := 6) rfl (by rw [show Int32.ofInt 9 = nI 9 from rfl, nI_add, Nat.mul_succ]) (by decide) rfl (fun ls hl => ?_)
    refine lv_goto (tgt := 23) F.1 F.2.1 dL_law_1552 (by decide) ?_
    refine W.widen (k := 1000 + 60 * (k + 1) + (gL (tG w2.1) - 65)) (n := 40000 + 11000 * (k + 1) + 10 * (gL (tG w2.1) - 65)) (by omega) (by omega) ?_
    exact nx w2.1 kp u2 w2.2 H _ ls (hR2.up (by omega)) (pm_w hw (q_4 _ _ _ _)) (lv_sub hl [3, 4, 5, 6, 0] rfl)

set_option maxHeartbeats 8000000 in
set_option maxRecDepth 100000 in
theorem lc_load {p : Program} {l : Launch} {e : Env} {s : State} {m : MethodId} {below : List Frame} {meth : Method} {c : Code} {G : va_G} {cI cJ cZ cO : ClassId} {b L oa : Nat} {xs : Nat → Int32} {K : TrA} {M : MA} {k kc ks : Nat} {tr : TrR} {kp : List (StA × StR)} {v : MR} {of9 : Nat → Int64} {H : Heap} {locs : List Loc} {ls : Array Slot}  (F : CallFix p m c cL_law 8 s #[Value.ref b] wsL_law RL) (hst : l.stackTraces = false) (hE : xEn (fun q => s.heap.size ≤ q) s s.heap) (hX : va_X b L xs s s.heap) (hbl : b < s.heap.size) (hL : L ≤ 4608) (hk : 9 * k + 9 ≤ L) (nx : lwN p l e s m below meth c G cI cJ cZ cO b oa K M (k + 1)) (hkc : kc = 1000 + 60 * k + (gL (tG tr) - 65)) (hks : ks = 40000 + 11000 * k + 10 * (gL (tG tr) - 65)) (hR : LRel tr kp v (2081 * k)) (hw : xW G (xK cI cJ cZ cO) (fun q => s.heap.size ≤ q) s.heap s ([(oa, .inl (cJ, 1, .inr (.inl of9)))] ++ (wTr cI cJ cO K tr ++ (wPl cI cJ kp ++ wMo cI cJ cZ M v))) H locs) (hl : lv_has ls 8 [(0, .ref b), (1, .ref (tH K)), (2, .ref (bH M)), (3, .ref oa), (4, .int (nI (9 * k)))]) :
    W p l e room_1 s m #[Value.ref b] below meth c H locs kc ks (lw_Z below #[Value.ref b] s) (F0 m 1370 ls []) := by
  have hg5 : 65 ≤ gL (tG tr) ∧ gL (tG tr) ≤ 2080 := by
    have h := hR.1.2.1
    unfold gLok at h
    omega
  refine lv_aload_n F.1 F.2.1 dL_law_1370 rfl (lv_at hl 1 rfl) ?_
  refine lv_aload_n F.1 F.2.1 dL_law_1371 rfl (lv_at hl 0 rfl) ?_
  refine lv_iload F.1 F.2.1 dL_law_1372 (lv_at hl 4 rfl) ?_
  refine lv_iconst (v := 1) F.1 F.2.1 dL_law_1374 (by decide) ?_
  refine lv_iadd F.1 F.2.1 dL_law_1375 ?_
  refine x_topi (v := nI ((9 * k) + 1)) ((nI_add (9 * k) 1).symm) ?_
  refine x_sldN F hX hbl hw ((9 * k) + 1) rfl (by omega) (by omega) dL_law_1376 ?_
  refine lv_aload_n F.1 F.2.1 dL_law_1377 rfl (lv_at hl 0 rfl) ?_
  refine lv_iload F.1 F.2.1 dL_law_1378 (lv_at hl 4 rfl) ?_
  refine lv_iconst (v := 2) F.1 F.2.1 dL_law_1380 (by decide) ?_
  refine lv_iadd F.1 F.2.1 dL_law_1381 ?_
  refine x_topi (v := nI ((9 * k) + 2)) ((nI_add (9 * k) 2).symm) ?_
  refine x_sldN F hX hbl hw ((9 * k) + 2) rfl (by omega) (by omega) dL_law_1382 ?_
  refine lv_aload_n F.1 F.2.1 dL_law_1383 rfl (lv_at hl 3 rfl) ?_
  refine lw_S (As := [.ref (tH K), .int (xs ((9 * k) + 1)), .int (xs ((9 * k) + 2)), .ref oa]) (rest := []) (wPl cI cJ kp ++ wMo cI cJ cZ M v) F hw hE (q_1 _ _ _ _) (c_L_load l G cI cJ cZ cO _ hst K tr (xs ((9 * k) + 1)) (xs ((9 * k) + 2)) hR.1.1.1.1 hR.1.1.2.1.1 oa of9) (vx_cwSW 4 F.2.2.2.2 gL_law_L_load rfl rfl rfl (by decide +kernel) ⟨Nat.le_of_ble_eq_true rfl, Nat.le_of_ble_eq_true rfl⟩) rfl hl.1 rfl (lv_room (Nat.le_of_ble_eq_true rfl)) dL_law_1384 ⟨by show kc + 2 ≤ 601024; omega, by show ks + 12 ≤ 7293034; omega⟩ (fun r9 w2 H locs hc hw => ?_)
  refine lv_istore (lv' := [(5, .int r9), (0, .ref b), (1, .ref (tH K)), (2, .ref (bH M)), (3, .ref oa), (4, .int (nI (9 * k)))]) F.1 F.2.1 dL_law_1387 hl (by decide) rfl (fun ls hl => ?_)
  refine lv_aload_n F.1 F.2.1 dL_law_1389 rfl (lv_at hl 3 rfl) ?_
  refine lv_aload_n F.1 F.2.1 dL_law_1390 rfl (lv_at hl 1 rfl) ?_
  refine lv_iload F.1 F.2.1 dL_law_1391 (lv_at hl 5 rfl) ?_
  refine lv_iconst (v := 1) F.1 F.2.1 dL_law_1393 (by decide) ?_
  refine lv_iadd F.1 F.2.1 dL_law_1394 ?_
  refine x_topi (v := nI ((9 * k) + 1)) ((nI_add (9 * k) 1).symm) ?_
  refine x_sldN F hX hbl hw ((9 * k) + 1) rfl (by omega) (by omega) dL_law_1395 ?_
  refine lv_aload_n F.1 F.2.1 dL_law_1396 rfl (lv_at hl 1 rfl) ?_
  refine lv_iload F.1 F.2.1 dL_law_1397 (lv_at hl 5 rfl) ?_
  refine lv_iconst (v := 2) F.1 F.2.1 dL_law_1399 (by decide) ?_
  refine lv_iadd F.1 F.2.1 dL_law_1400 ?_
  refine x_topi (v := nI ((9 * k) + 2)) ((nI_add (9 * k) 2).symm) ?_
  refine x_sldN F hX hbl hw ((9 * k) + 2) rfl (by omega) (by omega) dL_law_1401 ?_
  refine lw_V (As := [.int (xs ((9 * k) + 1)), .int (xs ((9 * k) + 2))]) (rest := []) ([(oa, .inl (cJ, 1, .inr (.inl w2.2)))] ++ (wTr cI cJ cO K w2.1 ++ wPl cI cJ kp)) F hw (q_2 _ _ _ _) (c_X4_load l G cI cJ cZ cO _ M v (xs ((9 * k) + 1)) (xs ((9 * k) + 2)) (hR.2.2.2.2.2.1 0 (by decide))) (cwV 2 F.2.2.2.2 gL_law_X4_load rfl rfl rfl (by decide +kernel) ⟨Nat.le_of_ble_eq_true rfl, Nat.le_of_ble_eq_true rfl⟩) rfl rfl rfl hl.1 rfl (lv_room (Nat.le_of_ble_eq_true rfl)) dL_law_1402 ⟨by show kc + 2 ≤ 601024; omega, by show ks + 12 ≤ 7293034; omega⟩ (fun r6 u2 H locs hm hw => ?_)
  obtain ⟨hcd, hv0, hR2⟩ := op_load hR hc hm
  have hgl : gL (tG w2.1) = gL (tG tr) := by rcases hc with ⟨-, _, ⟨-, h⟩, -⟩ | ⟨-, h, -⟩ <;> rw [h] <;> rfl
  clear hc hm
  refine lv_istore (lv' := [(6, .int r6), (5, .int r9), (0, .ref b), (1, .ref (tH K)), (2, .ref (bH M)), (3, .ref oa), (4, .int (nI (9 * k)))]) F.1 F.2.1 dL_law_1405 hl (by decide) rfl (fun ls hl => ?_)
  refine lv_aload_n F.1 F.2.1 dL_law_1407 rfl (lv_at hl 4 rfl) ?_
  refine lw_T (As := []) (rest := []) ([(oa, .inl (cJ, 1, .inr (.inl w2.2)))] ++ (wTr cI cJ cO K w2.1 ++ wPl cI cJ kp)) F hw (q_3 _ _) (c_X4_thrown l G cI cJ cZ cO _ M u2) (cwV 0 F.2.2.2.2 gL_law_X4_thrown rfl rfl rfl (by decide +kernel) ⟨Nat.le_of_ble_eq_true rfl, Nat.le_of_ble_eq_true rfl⟩) rfl rfl rfl hl.1 rfl (lv_room (Nat.le_of_ble_eq_true rfl)) dL_law_1408 ⟨by show kc + 2 ≤ 601024; omega, by show ks + 12 ≤ 7293034; omega⟩ (fun rt ht => ?_)
  refine lv_iload F.1 F.2.1 dL_law_1411 (lv_at hl 1 rfl) ?_
  refine lv_icmp_eq (tgt := 1418) F.1 F.2.1 dL_law_1413 (by decide) (fun c1413 => ?_) (fun c1413 => ?_)
  rotate_left
  · exact (c1413 (ht.trans hcd)).elim
  refine lv_iload F.1 F.2.1 dL_law_1418 (lv_at hl 1 rfl) ?_
  refine lv_if_ne (tgt := 1435) F.1 F.2.1 dL_law_1420 (by decide) (fun c1420 => ?_) (fun c1420 => ?_)
  · refine lv_goto (tgt := 1549) F.1 F.2.1 dL_law_1435 (by decide) ?_
    refine lv_iinc (v := nI (9 * (k + 1))) (lv' := [(4, .int (nI (9 * (k + 1)))), (6, .int r6), (5, .int r9), (0, .ref b), (1, .ref (tH K)), (2, .ref (bH M)), (3, .ref oa)]) F.1 F.2.1 dL_law_1549 hl (k := 6) rfl (by rw [show Int32.ofInt 9 = nI 9 from rfl, nI_add, Nat.mul_succ]) (by decide) rfl (fun ls hl => ?_)
    refine lv_goto (tgt := 23) F.1 F.2.1 dL_law_1552 (by decide) ?_
    refine W.widen (k := 1000 + 60 * (k + 1) + (gL (tG w2.1) - 65)) (n := 40000 + 11000 * (k + 1) + 10 * (gL (tG w2.1) - 65)) (by omega) (by omega) ?_
    exact nx w2.1 kp u2 w2.2 H _ ls (hR2.up (by omega)) (pm_w hw (q_4 _ _ _ _)) (lv_sub hl [3, 4, 5, 6, 0] rfl)
  · refine lv_aload_n F.1 F.2.1 dL_law_1423 rfl (lv_at hl 5 rfl) ?_
    refine lv_iconst (v := 0) F.1 F.2.1 dL_law_1424 (by decide) ?_
    refine x_laldN F hw 0 1 rfl rfl 0 rfl (by decide) (by decide) dL_law_1425 ?_
    refine lv_iload F.1 F.2.1 dL_law_1426 (lv_at hl 0 rfl) ?_
    refine lv_i2l (v := r6.toInt64) F.1 F.2.1 dL_law_1428 (rfl) ?_
    refine x_l_eq (tgt := 1435) F dL_law_1429 dL_law_1430 (by decide) (fun c1429 => ?_) (fun c1429 => ?_)
    rotate_left
    · exact (c1429 (hv0 c1420)).elim
    refine lv_goto (tgt := 1549) F.1 F.2.1 dL_law_1435 (by decide) ?_
    refine lv_iinc (v := nI (9 * (k + 1))) (lv' := [(4, .int (nI (9 * (k + 1)))), (6, .int r6), (5, .int r9), (0, .ref b), (1, .ref (tH K)), (2, .ref (bH M)), (3, .ref oa)]) F.1 F.2.1 dL_law_1549 hl (k := 6) rfl (by rw [show Int32.ofInt 9 = nI 9 from rfl, nI_add, Nat.mul_succ]) (by decide) rfl (fun ls hl => ?_)
    refine lv_goto (tgt := 23) F.1 F.2.1 dL_law_1552 (by decide) ?_
    refine W.widen (k := 1000 + 60 * (k + 1) + (gL (tG w2.1) - 65)) (n := 40000 + 11000 * (k + 1) + 10 * (gL (tG w2.1) - 65)) (by omega) (by omega) ?_
    exact nx w2.1 kp u2 w2.2 H _ ls (hR2.up (by omega)) (pm_w hw (q_4 _ _ _ _)) (lv_sub hl [3, 4, 5, 6, 0] rfl)

set_option maxHeartbeats 8000000 in
set_option maxRecDepth 100000 in
theorem lc_of {p : Program} {l : Launch} {e : Env} {s : State} {m : MethodId} {below : List Frame} {meth : Method} {c : Code} {G : va_G} {cI cJ cZ cO : ClassId} {b L oa : Nat} {xs : Nat → Int32} {K : TrA} {M : MA} {k kc ks : Nat} {tr : TrR} {kp : List (StA × StR)} {v : MR} {of9 : Nat → Int64} {H : Heap} {locs : List Loc} {ls : Array Slot}  (F : CallFix p m c cL_law 8 s #[Value.ref b] wsL_law RL) (hst : l.stackTraces = false) (hE : xEn (fun q => s.heap.size ≤ q) s s.heap) (hX : va_X b L xs s s.heap) (hbl : b < s.heap.size) (hL : L ≤ 4608) (hk : 9 * k + 9 ≤ L) (nx : lwN p l e s m below meth c G cI cJ cZ cO b oa K M (k + 1)) (hkc : kc = 1000 + 60 * k + (gL (tG tr) - 65)) (hks : ks = 40000 + 11000 * k + 10 * (gL (tG tr) - 65)) (hR : LRel tr kp v (2081 * k)) (hw : xW G (xK cI cJ cZ cO) (fun q => s.heap.size ≤ q) s.heap s ([(oa, .inl (cJ, 1, .inr (.inl of9)))] ++ (wTr cI cJ cO K tr ++ (wPl cI cJ kp ++ wMo cI cJ cZ M v))) H locs) (hl : lv_has ls 8 [(0, .ref b), (1, .ref (tH K)), (2, .ref (bH M)), (3, .ref oa), (4, .int (nI (9 * k)))]) :
    W p l e room_1 s m #[Value.ref b] below meth c H locs kc ks (lw_Z below #[Value.ref b] s) (F0 m 1438 ls []) := by
  have hg5 : 65 ≤ gL (tG tr) ∧ gL (tG tr) ≤ 2080 := by
    have h := hR.1.2.1
    unfold gLok at h
    omega
  refine lv_aload_n F.1 F.2.1 dL_law_1438 rfl (lv_at hl 1 rfl) ?_
  refine lv_aload_n F.1 F.2.1 dL_law_1439 rfl (lv_at hl 0 rfl) ?_
  refine lv_iload F.1 F.2.1 dL_law_1440 (lv_at hl 4 rfl) ?_
  refine lv_iconst (v := 1) F.1 F.2.1 dL_law_1442 (by decide) ?_
  refine lv_iadd F.1 F.2.1 dL_law_1443 ?_
  refine x_topi (v := nI ((9 * k) + 1)) ((nI_add (9 * k) 1).symm) ?_
  refine x_sldN F hX hbl hw ((9 * k) + 1) rfl (by omega) (by omega) dL_law_1444 ?_
  refine lv_aload_n F.1 F.2.1 dL_law_1445 rfl (lv_at hl 3 rfl) ?_
  refine lw_S (As := [.ref (tH K), .int (xs ((9 * k) + 1)), .ref oa]) (rest := []) (wPl cI cJ kp ++ wMo cI cJ cZ M v) F hw hE (q_1 _ _ _ _) (c_L_of l G cI cJ cZ cO _ hst K tr (xs ((9 * k) + 1))  oa of9) (vx_cwSW 3 F.2.2.2.2 gL_law_L_of rfl rfl rfl (by decide +kernel) ⟨Nat.le_of_ble_eq_true rfl, Nat.le_of_ble_eq_true rfl⟩) rfl hl.1 rfl (lv_room (Nat.le_of_ble_eq_true rfl)) dL_law_1446 ⟨by show kc + 1 ≤ 601024; omega, by show ks + 6 ≤ 7293034; omega⟩ (fun r9 w2 H locs hc hw => ?_)
  refine lv_istore (lv' := [(5, .int r9), (0, .ref b), (1, .ref (tH K)), (2, .ref (bH M)), (3, .ref oa), (4, .int (nI (9 * k)))]) F.1 F.2.1 dL_law_1449 hl (by decide) rfl (fun ls hl => ?_)
  refine lv_aload_n F.1 F.2.1 dL_law_1451 rfl (lv_at hl 3 rfl) ?_
  refine lv_aload_n F.1 F.2.1 dL_law_1452 rfl (lv_at hl 1 rfl) ?_
  refine lv_iload F.1 F.2.1 dL_law_1453 (lv_at hl 5 rfl) ?_
  refine lv_iconst (v := 1) F.1 F.2.1 dL_law_1455 (by decide) ?_
  refine lv_iadd F.1 F.2.1 dL_law_1456 ?_
  refine x_topi (v := nI ((9 * k) + 1)) ((nI_add (9 * k) 1).symm) ?_
  refine x_sldN F hX hbl hw ((9 * k) + 1) rfl (by omega) (by omega) dL_law_1457 ?_
  refine lw_V (As := [.int (xs ((9 * k) + 1))]) (rest := []) ([(oa, .inl (cJ, 1, .inr (.inl w2.2)))] ++ (wTr cI cJ cO K w2.1 ++ wPl cI cJ kp)) F hw (q_2 _ _ _ _) (c_X4_of l G cI cJ cZ cO _ M v (xs ((9 * k) + 1)) (hR.2.2.2.2.2.1 0 (by decide))) (cwV 1 F.2.2.2.2 gL_law_X4_of rfl rfl rfl (by decide +kernel) ⟨Nat.le_of_ble_eq_true rfl, Nat.le_of_ble_eq_true rfl⟩) rfl rfl rfl hl.1 rfl (lv_room (Nat.le_of_ble_eq_true rfl)) dL_law_1458 ⟨by show kc + 1 ≤ 601024; omega, by show ks + 6 ≤ 7293034; omega⟩ (fun r6 u2 H locs hm hw => ?_)
  obtain ⟨hcd, hv0, hR2⟩ := op_of hR hc hm
  have hgl : gL (tG w2.1) = gL (tG tr) := by rcases hc with ⟨-, _, ⟨-, h⟩, -⟩ | ⟨-, h, -⟩ <;> rw [h] <;> rfl
  clear hc hm
  refine lv_istore (lv' := [(6, .int r6), (5, .int r9), (0, .ref b), (1, .ref (tH K)), (2, .ref (bH M)), (3, .ref oa), (4, .int (nI (9 * k)))]) F.1 F.2.1 dL_law_1461 hl (by decide) rfl (fun ls hl => ?_)
  refine lv_aload_n F.1 F.2.1 dL_law_1463 rfl (lv_at hl 4 rfl) ?_
  refine lw_T (As := []) (rest := []) ([(oa, .inl (cJ, 1, .inr (.inl w2.2)))] ++ (wTr cI cJ cO K w2.1 ++ wPl cI cJ kp)) F hw (q_3 _ _) (c_X4_thrown l G cI cJ cZ cO _ M u2) (cwV 0 F.2.2.2.2 gL_law_X4_thrown rfl rfl rfl (by decide +kernel) ⟨Nat.le_of_ble_eq_true rfl, Nat.le_of_ble_eq_true rfl⟩) rfl rfl rfl hl.1 rfl (lv_room (Nat.le_of_ble_eq_true rfl)) dL_law_1464 ⟨by show kc + 1 ≤ 601024; omega, by show ks + 6 ≤ 7293034; omega⟩ (fun rt ht => ?_)
  refine lv_iload F.1 F.2.1 dL_law_1467 (lv_at hl 1 rfl) ?_
  refine lv_icmp_eq (tgt := 1474) F.1 F.2.1 dL_law_1469 (by decide) (fun c1469 => ?_) (fun c1469 => ?_)
  rotate_left
  · exact (c1469 (ht.trans hcd)).elim
  refine lv_iload F.1 F.2.1 dL_law_1474 (lv_at hl 1 rfl) ?_
  refine lv_if_ne (tgt := 1491) F.1 F.2.1 dL_law_1476 (by decide) (fun c1476 => ?_) (fun c1476 => ?_)
  · refine lv_goto (tgt := 1549) F.1 F.2.1 dL_law_1491 (by decide) ?_
    refine lv_iinc (v := nI (9 * (k + 1))) (lv' := [(4, .int (nI (9 * (k + 1)))), (6, .int r6), (5, .int r9), (0, .ref b), (1, .ref (tH K)), (2, .ref (bH M)), (3, .ref oa)]) F.1 F.2.1 dL_law_1549 hl (k := 6) rfl (by rw [show Int32.ofInt 9 = nI 9 from rfl, nI_add, Nat.mul_succ]) (by decide) rfl (fun ls hl => ?_)
    refine lv_goto (tgt := 23) F.1 F.2.1 dL_law_1552 (by decide) ?_
    refine W.widen (k := 1000 + 60 * (k + 1) + (gL (tG w2.1) - 65)) (n := 40000 + 11000 * (k + 1) + 10 * (gL (tG w2.1) - 65)) (by omega) (by omega) ?_
    exact nx w2.1 kp u2 w2.2 H _ ls (hR2.up (by omega)) (pm_w hw (q_4 _ _ _ _)) (lv_sub hl [3, 4, 5, 6, 0] rfl)
  · refine lv_aload_n F.1 F.2.1 dL_law_1479 rfl (lv_at hl 5 rfl) ?_
    refine lv_iconst (v := 0) F.1 F.2.1 dL_law_1480 (by decide) ?_
    refine x_laldN F hw 0 1 rfl rfl 0 rfl (by decide) (by decide) dL_law_1481 ?_
    refine lv_iload F.1 F.2.1 dL_law_1482 (lv_at hl 0 rfl) ?_
    refine lv_i2l (v := r6.toInt64) F.1 F.2.1 dL_law_1484 (rfl) ?_
    refine x_l_eq (tgt := 1491) F dL_law_1485 dL_law_1486 (by decide) (fun c1485 => ?_) (fun c1485 => ?_)
    rotate_left
    · exact (c1485 (hv0 c1476)).elim
    refine lv_goto (tgt := 1549) F.1 F.2.1 dL_law_1491 (by decide) ?_
    refine lv_iinc (v := nI (9 * (k + 1))) (lv' := [(4, .int (nI (9 * (k + 1)))), (6, .int r6), (5, .int r9), (0, .ref b), (1, .ref (tH K)), (2, .ref (bH M)), (3, .ref oa)]) F.1 F.2.1 dL_law_1549 hl (k := 6) rfl (by rw [show Int32.ofInt 9 = nI 9 from rfl, nI_add, Nat.mul_succ]) (by decide) rfl (fun ls hl => ?_)
    refine lv_goto (tgt := 23) F.1 F.2.1 dL_law_1552 (by decide) ?_
    refine W.widen (k := 1000 + 60 * (k + 1) + (gL (tG w2.1) - 65)) (n := 40000 + 11000 * (k + 1) + 10 * (gL (tG w2.1) - 65)) (by omega) (by omega) ?_
    exact nx w2.1 kp u2 w2.2 H _ ls (hR2.up (by omega)) (pm_w hw (q_4 _ _ _ _)) (lv_sub hl [3, 4, 5, 6, 0] rfl)

set_option maxHeartbeats 8000000 in
set_option maxRecDepth 100000 in
theorem lc_now {p : Program} {l : Launch} {e : Env} {s : State} {m : MethodId} {below : List Frame} {meth : Method} {c : Code} {G : va_G} {cI cJ cZ cO : ClassId} {b L oa : Nat} {xs : Nat → Int32} {K : TrA} {M : MA} {k kc ks : Nat} {tr : TrR} {kp : List (StA × StR)} {v : MR} {of9 : Nat → Int64} {H : Heap} {locs : List Loc} {ls : Array Slot}  (F : CallFix p m c cL_law 8 s #[Value.ref b] wsL_law RL) (hst : l.stackTraces = false) (hE : xEn (fun q => s.heap.size ≤ q) s s.heap) (hX : va_X b L xs s s.heap) (hbl : b < s.heap.size) (hL : L ≤ 4608) (hk : 9 * k + 9 ≤ L) (nx : lwN p l e s m below meth c G cI cJ cZ cO b oa K M (k + 1)) (hkc : kc = 1000 + 60 * k + (gL (tG tr) - 65)) (hks : ks = 40000 + 11000 * k + 10 * (gL (tG tr) - 65)) (hR : LRel tr kp v (2081 * k)) (hw : xW G (xK cI cJ cZ cO) (fun q => s.heap.size ≤ q) s.heap s ([(oa, .inl (cJ, 1, .inr (.inl of9)))] ++ (wTr cI cJ cO K tr ++ (wPl cI cJ kp ++ wMo cI cJ cZ M v))) H locs) (hl : lv_has ls 8 [(0, .ref b), (1, .ref (tH K)), (2, .ref (bH M)), (3, .ref oa), (4, .int (nI (9 * k)))]) :
    W p l e room_1 s m #[Value.ref b] below meth c H locs kc ks (lw_Z below #[Value.ref b] s) (F0 m 1494 ls []) := by
  have hg5 : 65 ≤ gL (tG tr) ∧ gL (tG tr) ≤ 2080 := by
    have h := hR.1.2.1
    unfold gLok at h
    omega
  refine lv_aload_n F.1 F.2.1 dL_law_1494 rfl (lv_at hl 1 rfl) ?_
  refine lv_aload_n F.1 F.2.1 dL_law_1495 rfl (lv_at hl 0 rfl) ?_
  refine lv_iload F.1 F.2.1 dL_law_1496 (lv_at hl 4 rfl) ?_
  refine lv_iconst (v := 1) F.1 F.2.1 dL_law_1498 (by decide) ?_
  refine lv_iadd F.1 F.2.1 dL_law_1499 ?_
  refine x_topi (v := nI ((9 * k) + 1)) ((nI_add (9 * k) 1).symm) ?_
  refine x_sldN F hX hbl hw ((9 * k) + 1) rfl (by omega) (by omega) dL_law_1500 ?_
  refine lv_aload_n F.1 F.2.1 dL_law_1501 rfl (lv_at hl 3 rfl) ?_
  refine lw_S (As := [.ref (tH K), .int (xs ((9 * k) + 1)), .ref oa]) (rest := []) (wPl cI cJ kp ++ wMo cI cJ cZ M v) F hw hE (q_1 _ _ _ _) (c_L_now l G cI cJ cZ cO _ hst K tr (xs ((9 * k) + 1))  oa of9) (vx_cwSW 3 F.2.2.2.2 gL_law_L_now rfl rfl rfl (by decide +kernel) ⟨Nat.le_of_ble_eq_true rfl, Nat.le_of_ble_eq_true rfl⟩) rfl hl.1 rfl (lv_room (Nat.le_of_ble_eq_true rfl)) dL_law_1502 ⟨by show kc + 1 ≤ 601024; omega, by show ks + 6 ≤ 7293034; omega⟩ (fun r9 w2 H locs hc hw => ?_)
  refine lv_istore (lv' := [(5, .int r9), (0, .ref b), (1, .ref (tH K)), (2, .ref (bH M)), (3, .ref oa), (4, .int (nI (9 * k)))]) F.1 F.2.1 dL_law_1505 hl (by decide) rfl (fun ls hl => ?_)
  refine lv_aload_n F.1 F.2.1 dL_law_1507 rfl (lv_at hl 3 rfl) ?_
  refine lv_aload_n F.1 F.2.1 dL_law_1508 rfl (lv_at hl 1 rfl) ?_
  refine lv_iload F.1 F.2.1 dL_law_1509 (lv_at hl 5 rfl) ?_
  refine lv_iconst (v := 1) F.1 F.2.1 dL_law_1511 (by decide) ?_
  refine lv_iadd F.1 F.2.1 dL_law_1512 ?_
  refine x_topi (v := nI ((9 * k) + 1)) ((nI_add (9 * k) 1).symm) ?_
  refine x_sldN F hX hbl hw ((9 * k) + 1) rfl (by omega) (by omega) dL_law_1513 ?_
  refine lw_VL (As := [.int (xs ((9 * k) + 1))]) (rest := []) ([(oa, .inl (cJ, 1, .inr (.inl w2.2)))] ++ (wTr cI cJ cO K w2.1 ++ wPl cI cJ kp)) F hw (q_2 _ _ _ _) (c_X4_now l G cI cJ cZ cO _ M v (xs ((9 * k) + 1)) ) (cwV 1 F.2.2.2.2 gL_law_X4_now rfl rfl rfl (by decide +kernel) ⟨Nat.le_of_ble_eq_true rfl, Nat.le_of_ble_eq_true rfl⟩) rfl rfl rfl hl.1 rfl (lv_room (Nat.le_of_ble_eq_true rfl)) dL_law_1514 ⟨by show kc + 1 ≤ 601024; omega, by show ks + 6 ≤ 7293034; omega⟩ (fun r6 u2 H locs hm hw => ?_)
  obtain ⟨hcd, hv0, hR2⟩ := op_now hR hc hm
  have hgl : gL (tG w2.1) = gL (tG tr) := by rcases hc with ⟨-, _, ⟨-, h⟩, -⟩ | ⟨-, h, -⟩ <;> rw [h] <;> rfl
  clear hc hm
  refine lv_lstore (lv' := [(6, .long r6), (5, .int r9), (0, .ref b), (1, .ref (tH K)), (2, .ref (bH M)), (3, .ref oa), (4, .int (nI (9 * k)))]) F.1 F.2.1 dL_law_1517 hl (by decide) rfl (fun ls hl => ?_)
  refine lv_aload_n F.1 F.2.1 dL_law_1519 rfl (lv_at hl 4 rfl) ?_
  refine lw_T (As := []) (rest := []) ([(oa, .inl (cJ, 1, .inr (.inl w2.2)))] ++ (wTr cI cJ cO K w2.1 ++ wPl cI cJ kp)) F hw (q_3 _ _) (c_X4_thrown l G cI cJ cZ cO _ M u2) (cwV 0 F.2.2.2.2 gL_law_X4_thrown rfl rfl rfl (by decide +kernel) ⟨Nat.le_of_ble_eq_true rfl, Nat.le_of_ble_eq_true rfl⟩) rfl rfl rfl hl.1 rfl (lv_room (Nat.le_of_ble_eq_true rfl)) dL_law_1520 ⟨by show kc + 1 ≤ 601024; omega, by show ks + 6 ≤ 7293034; omega⟩ (fun rt ht => ?_)
  refine lv_iload F.1 F.2.1 dL_law_1523 (lv_at hl 1 rfl) ?_
  refine lv_icmp_eq (tgt := 1530) F.1 F.2.1 dL_law_1525 (by decide) (fun c1525 => ?_) (fun c1525 => ?_)
  rotate_left
  · exact (c1525 (ht.trans hcd)).elim
  refine lv_iload F.1 F.2.1 dL_law_1530 (lv_at hl 1 rfl) ?_
  refine lv_if_ne (tgt := 1546) F.1 F.2.1 dL_law_1532 (by decide) (fun c1532 => ?_) (fun c1532 => ?_)
  · refine lv_goto (tgt := 1549) F.1 F.2.1 dL_law_1546 (by decide) ?_
    refine lv_iinc (v := nI (9 * (k + 1))) (lv' := [(4, .int (nI (9 * (k + 1)))), (6, .long r6), (5, .int r9), (0, .ref b), (1, .ref (tH K)), (2, .ref (bH M)), (3, .ref oa)]) F.1 F.2.1 dL_law_1549 hl (k := 6) rfl (by rw [show Int32.ofInt 9 = nI 9 from rfl, nI_add, Nat.mul_succ]) (by decide) rfl (fun ls hl => ?_)
    refine lv_goto (tgt := 23) F.1 F.2.1 dL_law_1552 (by decide) ?_
    refine W.widen (k := 1000 + 60 * (k + 1) + (gL (tG w2.1) - 65)) (n := 40000 + 11000 * (k + 1) + 10 * (gL (tG w2.1) - 65)) (by omega) (by omega) ?_
    exact nx w2.1 kp u2 w2.2 H _ ls (hR2.up (by omega)) (pm_w hw (q_4 _ _ _ _)) (lv_sub hl [3, 4, 5, 6, 0] rfl)
  · refine lv_aload_n F.1 F.2.1 dL_law_1535 rfl (lv_at hl 5 rfl) ?_
    refine lv_iconst (v := 0) F.1 F.2.1 dL_law_1536 (by decide) ?_
    refine x_laldN F hw 0 1 rfl rfl 0 rfl (by decide) (by decide) dL_law_1537 ?_
    refine lv_lload F.1 F.2.1 dL_law_1538 (lv_at hl 0 rfl) ?_
    refine x_l_eq (tgt := 1546) F dL_law_1540 dL_law_1541 (by decide) (fun c1540 => ?_) (fun c1540 => ?_)
    rotate_left
    · exact (c1540 (hv0 c1532)).elim
    refine lv_goto (tgt := 1549) F.1 F.2.1 dL_law_1546 (by decide) ?_
    refine lv_iinc (v := nI (9 * (k + 1))) (lv' := [(4, .int (nI (9 * (k + 1)))), (6, .long r6), (5, .int r9), (0, .ref b), (1, .ref (tH K)), (2, .ref (bH M)), (3, .ref oa)]) F.1 F.2.1 dL_law_1549 hl (k := 6) rfl (by rw [show Int32.ofInt 9 = nI 9 from rfl, nI_add, Nat.mul_succ]) (by decide) rfl (fun ls hl => ?_)
    refine lv_goto (tgt := 23) F.1 F.2.1 dL_law_1552 (by decide) ?_
    refine W.widen (k := 1000 + 60 * (k + 1) + (gL (tG w2.1) - 65)) (n := 40000 + 11000 * (k + 1) + 10 * (gL (tG w2.1) - 65)) (by omega) (by omega) ?_
    exact nx w2.1 kp u2 w2.2 H _ ls (hR2.up (by omega)) (pm_w hw (q_4 _ _ _ _)) (lv_sub hl [3, 4, 5, 6, 0] rfl)
