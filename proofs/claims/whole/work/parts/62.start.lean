theorem q_9 {α : Type} (a T M : List α) : ((T ++ M) ++ a).Perm (a ++ (T ++ ([] ++ M))) := List.perm_append_comm
section LI
variable {p : Program} {l : Launch} {e : Env} {R : Room} {s : State} {m : MethodId} {args : Array Value} {below : List Frame} {meth : Method} {c : Code} {H : Heap} {locs : List Loc} {cells slots : Nat} {Q : State → Prop}
variable {pc : Nat} {ls : Array Slot} {rest st0 : List Value} {G : va_G} {ty : xT} {A : Nat → Prop} {ws wc : va_W} {mc ms : Nat}
variable {y : MethodName} {bytes cc : ByteArray} {maxL nL n index : Nat} {wy : List Cond} {rm : Room} {own : String} {Ts : List Cond} {As : List Value} {S : Type} {f : S → va_W} {b : Nat} {Pc : Array Value → State → Prop}
/-- a constructor's call in the law -/
theorem lw_I {post : S → Prop} (wr : va_W) (F : CallFix p m c cc nL s args Ts own) (hw : xW G ty A s.heap s ws H locs) (hp : ws.Perm (wc ++ wr))
    (hM : Met l y wy rm Pc (va_Qv post (xB G ty wc H.size f) (va_A wc H.size)) mc ms (va_A wc H.size)) (cw : CallB R s args own index y bytes maxL none wy rm mc ms n ∧ y.name = "<init>" ∧ (Cond.instanceMethod y).before args s = true)
    (hpre : xW G ty A s.heap s (wc ++ wr) H locs → PreS s H Pc (.ref b :: As))
    (hn : As.length = n) (hsize : ls.size = nL) (hstack : st0 = As.reverse ++ .ref b :: rest) (hW : 2 * (F0 m pc ls st0).monitorRoom + (rest.map fun v => v.category).sum ≤ 8) (hdg : decode cc pc = .ok (.invokespecial index, 3)) (hf : cells + mc ≤ R.cells ∧ slots + ms ≤ R.slots)
    (kk : ∀ (u : S) (H1 : Heap) (locs1 : List Loc), post u → xW G ty A s.heap s (wr ++ f u) H1 locs1 → W p l e R s m args below meth c H1 locs1 (cells + mc) (slots + ms) Q (F0 m (pc + 3) ls rest)) : W p l e R s m args below meth c H locs cells slots Q (F0 m pc ls st0) := by
  have hw2 := pm_w hw hp
  exact x_wv (va_runI (As := As) (rest := rest) (g := F0 m pc ls st0) F hM cw (hpre hw2) rfl hn hsize hstack hW hdg hf) hw2 (List.range wc.length) (List.range' wc.length wr.length) (rg_c wc wr) (rg_r wc wr) (nd_of _ List.nodup_range') (rg_d _ _) kk
end LI
set_option maxHeartbeats 8000000 in
set_option maxRecDepth 100000 in
/-- THE LAW, from its entry -/
theorem whole_start {p : Program} {e : Env} {s : State} {m : MethodId} {below : List Frame} {meth : Method} {c : Code} (l : Launch) (hst : l.stackTraces = false) {b L : Nat} {xs : Nat → Int32} (hL : L ≤ 4608) (C0 : lw_At p s m meth c b L xs) : W p l e room_1 s m #[Value.ref b] below meth c s.heap [] 0 0 (lw_Z below #[Value.ref b] s) (entryFrame m ([Value.ref b] : List Value).toArray 8) := by
  obtain ⟨hx, hb, hr, hml, hown, hts, hX, hbl, hlk, hgv⟩ := C0
  have F : CallFix p m c cL_law 8 s #[Value.ref b] wsL_law RL := ⟨hx, hb, hml, hown, fun w h => hts w (wsL_law_in w h)⟩
  have hE := lw_env hts hgv
  obtain ⟨c0, i0, k0⟩ := u_known (C := RX0) (T := TX0) (N := 8) (n := 8) hts inX0 (F.2.2.2.2 _ (List.mem_of_getElem? (i := 29) rfl))
  obtain ⟨c1, i1, k1⟩ := u_known (C := RX1) (T := TX1) (N := 6) (n := 6) hts inX1 (F.2.2.2.2 _ (List.mem_of_getElem? (i := 20) rfl))
  obtain ⟨c2, i2, k2⟩ := u_known (C := RX2) (T := TX2) (N := 7) (n := 7) hts inX2 (F.2.2.2.2 _ (List.mem_of_getElem? (i := 15) rfl))
  obtain ⟨c3, i3, k3⟩ := u_known (C := RX3) (T := TX3) (N := 4) (n := 4) hts inX3 (F.2.2.2.2 _ (List.mem_of_getElem? (i := 1) rfl))
  obtain ⟨c4, i4, k4⟩ := u_known (C := RX4) (T := TX4) (N := 18) (n := 18) hts inX4 (F.2.2.2.2 _ (List.mem_of_getElem? (i := 4) rfl))
  obtain ⟨dC, dI, hKc⟩ : ∃ (dC : Nat → ClassId) (dI : Nat → Nat → Nat), ∀ (k : Nat) (q : vw_C), vwCl[k]? = some q → u_Kn s q.1 q.2.1 q.2.2 (dC k) (dI k) := by
    refine ⟨fun k => if k = 0 then c0 else if k = 1 then c1 else if k = 2 then c2 else if k = 3 then c3 else c4, fun k => if k = 0 then i0 else if k = 1 then i1 else if k = 2 then i2 else if k = 3 then i3 else i4, ?_⟩
    intro k q hq
    match k, hq with
    | 0, hq => cases hq; exact k0
    | 1, hq => cases hq; exact k1
    | 2, hq => cases hq; exact k2
    | 3, hq => cases hq; exact k3
    | 4, hq => cases hq; exact k4
    | k + 5, hq => simp [vwCl] at hq
  obtain ⟨cI, kI, pI, fI, gI, eI⟩ := Cond.arrayClass_spec (F.2.2.2.2 (.arrayClass .int) (List.mem_of_getElem? (i := 38) rfl))
  obtain ⟨cJ, kJ, pJ, fJ, gJ, eJ⟩ := Cond.arrayClass_spec (F.2.2.2.2 (.arrayClass .long) (List.mem_of_getElem? (i := 6) rfl))
  obtain ⟨cZ, kZ, pZ, fZ, gZ, eZ⟩ := Cond.arrayClass_spec (F.2.2.2.2 (.arrayClass .boolean) (List.mem_of_getElem? (i := 74) rfl))
  obtain ⟨pO, cO, kO, f1, f2, f3, f4, f5⟩ := Cond.arrayOver_spec (hts (.arrayOver (.object RX2)) z_ao)
  have hK : va_K (dC, dI) vwCl (xK cI cJ cZ cO) s := by
    refine ⟨hKc, fun k q h => ?_⟩
    have h : ([(cI, .int), (cJ, .long), (cZ, .boolean), (cO, .object RX2)] : xT)[k]? = some q := h
    match k, h with
    | 0, h => cases h; exact ⟨fun n z => ⟨fun k h => (by cases h), kI, gI, pI, eI⟩, fI⟩
    | 1, h => cases h; exact ⟨fun n z => ⟨fun k h => (by cases h), kJ, gJ, pJ, eJ⟩, fJ⟩
    | 2, h => cases h; exact ⟨fun n z => ⟨fun k h => (by cases h), kZ, gZ, pZ, eZ⟩, fZ⟩
    | 3, h => cases h; exact ⟨fun n z => ⟨fun k h => (by cases h), kO, f3, pO, f4⟩, kO, pO, f3, f4, f1, f5⟩
    | k + 4, h => simp at h
  have hw : xW (dC, dI) (xK cI cJ cZ cO) (fun q => s.heap.size ≤ q) s.heap s [] s.heap [] := ⟨hK, fun k q h => by simp at h, ⟨fun i j p q h => by simp at h, fun k q h => by simp at h⟩, va_S.rf, fun _ h => h⟩
  have hl := lv_entry ([.ref b]) (n := 8) (Nat.le_of_ble_eq_true rfl)
  rw [lg_entry_eq]
  generalize (lg_sl ([.ref b]) ++ List.replicate (8 - (lg_sl ([.ref b])).length) Slot.unset).toArray = ls at hl ⊢
  have hl : lv_has ls 8 [(0, .ref b)] := hl
  refine x_new F hw inlX3 tyX3 tyX3_ok (List.mem_of_getElem? (i := 0) rfl) (List.mem_of_getElem? (i := 1) rfl) (List.mem_of_getElem? (i := 2) rfl) (ci := 3) (fs := [.null, .null, .null, .int 0]) rfl (by decide) (Nat.le_of_ble_eq_true rfl) (Nat.le_of_ble_eq_true rfl) dL_law_0 (fun q1 H hw => ?_)
  have hw : xW (dC, dI) (xK cI cJ cZ cO) (fun q => s.heap.size ≤ q) s.heap s [(q1, .inr (3, [.null, .null, .null, .int 0]))] H _ := hw
  refine lv_dup F.1 F.2.1 dL_law_3 rfl ?_
  refine lw_I (As := []) (rest := [.ref q1]) [] F hw (List.Perm.of_eq (List.append_nil _).symm) (c_X3_init l (dC, dI) cI cJ cZ cO _ q1) (cwI 0 F.2.2.2.2 gL_law_X3_init rfl rfl rfl (F.2.2.2.2 _ (List.mem_of_getElem? (i := 2) rfl)) (F.2.2.2.2 _ (List.mem_of_getElem? (i := 8) rfl)) (F.2.2.2.2 _ (List.mem_of_getElem? (i := 9) rfl)) rfl (by decide +kernel) ⟨Nat.le_of_ble_eq_true rfl, Nat.le_of_ble_eq_true rfl⟩) (fun hw2 => x_preSE hw2 hE (List.range 1) (rg_c _ _) (nd_of _ List.nodup_range)) rfl hl.1 rfl (lv_room (Nat.le_of_ble_eq_true rfl)) dL_law_4 ⟨Nat.le_of_ble_eq_true rfl, Nat.le_of_ble_eq_true rfl⟩ (fun w2 H locs hp hw3 => ?_)
  obtain ⟨K, tr⟩ := w2
  obtain ⟨hq, g1, g2, g3, g4, g5⟩ := hp
  have hq : tH K = q1 := hq
  subst hq
  have hw : xW (dC, dI) (xK cI cJ cZ cO) (fun q => s.heap.size ≤ q) s.heap s (wTr cI cJ cO K tr) H _ := hw3
  refine lv_astore_n (lv' := [(1, .ref (tH K)), (0, .ref b)]) F.1 F.2.1 dL_law_7 rfl hl (by decide) rfl (fun ls hl => ?_)
  refine x_new F hw inlX4 tyX4 tyX4_ok (List.mem_of_getElem? (i := 3) rfl) (List.mem_of_getElem? (i := 4) rfl) (List.mem_of_getElem? (i := 5) rfl) (ci := 4) (fs := [.int 0, .null, .null, .null, .null, .null, .null, .null, .null, .null, .null, .int 0, .int 0, .null, .null, .null, .null, .null]) rfl (by decide) (Nat.le_of_ble_eq_true rfl) (Nat.le_of_ble_eq_true rfl) dL_law_8 (fun q2 H hw => ?_)
  refine lv_dup F.1 F.2.1 dL_law_11 rfl ?_
  refine lw_I (As := []) (rest := [.ref q2]) (wTr cI cJ cO K tr) F hw List.perm_append_comm (c_X4_init l (dC, dI) cI cJ cZ cO _ q2) (cwI 0 F.2.2.2.2 gL_law_X4_init rfl rfl rfl (F.2.2.2.2 _ (List.mem_of_getElem? (i := 5) rfl)) (F.2.2.2.2 _ (List.mem_of_getElem? (i := 69) rfl)) (F.2.2.2.2 _ (List.mem_of_getElem? (i := 70) rfl)) rfl (by decide +kernel) ⟨Nat.le_of_ble_eq_true rfl, Nat.le_of_ble_eq_true rfl⟩) (fun hw2 => x_preSW hw2 (List.range 1) (rg_c _ _) (nd_of _ List.nodup_range)) rfl hl.1 rfl (lv_room (Nat.le_of_ble_eq_true rfl)) dL_law_12 ⟨Nat.le_of_ble_eq_true rfl, Nat.le_of_ble_eq_true rfl⟩ (fun w2 H locs hp hw3 => ?_)
  obtain ⟨M, v⟩ := w2
  obtain ⟨hq, hv⟩ := hp
  have hq : bH M = q2 := hq
  have hv : v = mBegin mZero := hv
  subst hq
  subst hv
  have hw : xW (dC, dI) (xK cI cJ cZ cO) (fun q => s.heap.size ≤ q) s.heap s (wTr cI cJ cO K tr ++ wMo cI cJ cZ M (mBegin mZero)) H _ := hw3
  refine lv_astore_n (lv' := [(2, .ref (bH M)), (1, .ref (tH K)), (0, .ref b)]) F.1 F.2.1 dL_law_15 rfl hl (by decide) rfl (fun ls hl => ?_)
  refine lv_iconst (v := 1) F.1 F.2.1 dL_law_16 (by decide) ?_
  refine x_newa F hw (t := .long) (a0 := (1, .inr (.inl (fun _ => 0)))) (List.mem_of_getElem? (i := 6) rfl) rfl 1 rfl (fun _ => rfl) (by decide) (by decide) (by decide) (Nat.le_of_ble_eq_true rfl) (Nat.le_of_ble_eq_true rfl) dL_law_17 (fun oa H hw => ?_)
  have hw := pm_w hw (q_9 _ (wTr cI cJ cO K tr) (wMo cI cJ cZ M (mBegin mZero)))
  refine lv_astore_n (lv' := [(3, .ref oa), (2, .ref (bH M)), (1, .ref (tH K)), (0, .ref b)]) F.1 F.2.1 dL_law_19 rfl hl (by decide) rfl (fun ls hl => ?_)
  refine lv_iconst (v := 0) F.1 F.2.1 dL_law_20 (by decide) ?_
  refine lv_istore (lv' := [(4, .int 0), (3, .ref oa), (2, .ref (bH M)), (1, .ref (tH K)), (0, .ref b)]) F.1 F.2.1 dL_law_21 hl (by decide) rfl (fun ls hl => ?_)
  have hR := lrel_new g1 g2 g3 g4 g5
  have g3 : gL (tG tr) = 65 := g3
  refine W.widen (k := 1000 + 60 * 0 + (gL (tG tr) - 65)) (n := 40000 + 11000 * 0 + 10 * (gL (tG tr) - 65)) (by omega) (by omega) ?_
  exact law_loop F hst hE hX hbl hL hr hlk 513 0 (by omega) (by omega) tr [] (mBegin mZero) (fun _ => 0) H _ ls hR hw (lv_sub hl [4, 3, 2, 1, 0] rfl)
