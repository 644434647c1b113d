/-! Worlds as heaps of blocks: parted and joined in any order; the law's calls. -/
theorem pm_pw {ws : va_W} : (∀ (i j : Nat) (p q : Nat × va_E), ws[i]? = some p → ws[j]? = some q → p.1 = q.1 → i = j) ↔ ws.Pairwise (fun p q => p.1 ≠ q.1) := by
  rw [List.pairwise_iff_getElem]
  constructor
  · intro h i j hi hj hij e
    exact absurd (h i j _ _ (List.getElem?_eq_getElem hi) (List.getElem?_eq_getElem hj) e) (by omega)
  · intro h i j p q hi hj e
    obtain ⟨hi', ei⟩ := List.getElem?_eq_some_iff.mp hi
    obtain ⟨hj', ej⟩ := List.getElem?_eq_some_iff.mp hj
    rcases Nat.lt_trichotomy i j with hlt | heq | hgt
    · exact absurd (by rw [ei, ej]; exact e) (h i j hi' hj' hlt)
    · exact heq
    · exact absurd (by rw [ei, ej]; exact e.symm) (h j i hj' hi' hgt)
theorem pm_w {G : va_G} {ty : xT} {A : Nat → Prop} {H0 : Heap} {s : State} {ws ws' : va_W} {H : Heap} {locs : List Loc} (hw : xW G ty A H0 s ws H locs) (hp : ws.Perm ws') : xW G ty A H0 s ws' H locs := by
  have key : ∀ (k : Nat) (q : Nat × va_E), ws'[k]? = some q → ∃ i : Nat, ws[i]? = some q := fun k q hk => List.getElem?_of_mem (hp.mem_iff.mpr (List.mem_of_getElem? hk))
  refine ⟨hw.1, fun k q hk => ?_, ⟨pm_pw.mpr ((hp.pairwise_iff (fun h e => h e.symm)).mp (pm_pw.mp hw.2.2.1.1)), fun k q hk => ?_⟩, hw.2.2.2⟩
  · obtain ⟨i, hi⟩ := key k q hk
    exact hw.2.1 i q hi
  · obtain ⟨i, hi⟩ := key k q hk
    exact hw.2.2.1.2 i q hi
theorem rg_c (wc wr : va_W) : (List.range wc.length).map (fun i => (wc ++ wr)[i]?) = wc.map some := by
  refine List.ext_getElem (by rw [List.length_map, List.length_map, List.length_range]) (fun i h1 h2 => ?_)
  have h3 : i < wc.length := by rw [List.length_map] at h2; exact h2
  rw [List.getElem_map, List.getElem_range, List.getElem_map, List.getElem?_append_left h3, List.getElem?_eq_getElem h3]
theorem rg_r (wc wr : va_W) : (List.range' wc.length wr.length).map (fun i => (wc ++ wr)[i]?) = wr.map some := by
  refine List.ext_getElem (by rw [List.length_map, List.length_map, List.length_range']) (fun i h1 h2 => ?_)
  have h3 : i < wr.length := by rw [List.length_map] at h2; exact h2
  rw [List.getElem_map, List.getElem_map, List.getElem_range', List.getElem?_append_right (by omega), show wc.length + 1 * i - wc.length = i by omega, List.getElem?_eq_getElem h3]
theorem nd_of : ∀ (l : List Nat), l.Nodup → va_nd l = true
  | [], _ => rfl
  | a :: l, h => by
    rw [List.nodup_cons] at h
    simp only [va_nd, Bool.and_eq_true, decide_eq_true_eq]
    exact ⟨h.1, nd_of l h.2⟩
theorem rg_d (n m : Nat) : ∀ i ∈ List.range' n m, i ∉ List.range n := fun i hi hc => by
  have h1 := List.mem_range.mp hc
  have h2 := List.mem_range'_1.mp hi
  omega
section LP
variable {p : Program} {l : Launch} {e : Env} {R : Room} {s : State} {m : MethodId} {args : Array Value} {below : List Frame} {meth : Method} {c : Code} {H : Heap} {locs : List Loc} {cells slots : Nat} {Q : State → Prop}
variable {pc : Nat} {ls : Array Slot} {rest st0 : List Value} {G : va_G} {ty : xT} {A : Nat → Prop} {ws wc : va_W} {mc ms : Nat}
variable {y : MethodName} {bytes cc : ByteArray} {maxL nL n index : Nat} {ret : Option FieldType} {wy : List Cond} {rm : Room} {own C : String} {Ts : List Cond} {As : List Value} {S : Type} {f : S → va_W} {b ci : Nat} {fs : List Value} {T : u_T} {N : Nat}
/-- a static helper of the law -/
theorem lw_S {hh : List (Nat × Nat × Nat × Nat)} {post : Int32 → S → Prop} (wr : va_W) (F : CallFix p m c cc nL s args Ts own) (hw : xW G ty A s.heap s ws H locs) (hE : xEn A s s.heap) (hp : ws.Perm (wc ++ wr))
    (hM : Met l y wy rm (xPe G ty H.size As wc) (va_Qi post (xB G ty wc H.size f) (va_A wc H.size)) mc ms (va_A wc H.size)) (cw : vx_CSW R s args own index y bytes maxL ret hh wy rm mc ms n)
    (hn : As.length = n) (hsize : ls.size = nL) (hstack : st0 = As.reverse ++ rest) (hW : 2 * (F0 m pc ls st0).monitorRoom + (rest.map fun v => v.category).sum ≤ 8) (hdg : decode cc pc = .ok (.invokestatic index, 3)) (hf : cells + mc ≤ R.cells ∧ slots + ms ≤ R.slots)
    (kk : ∀ (r : Int32) (u : S) (H1 : Heap) (locs1 : List Loc), post r u → xW G ty A s.heap s (wr ++ f u) H1 locs1 → W p l e R s m args below meth c H1 locs1 (cells + mc) (slots + ms) Q (F0 m (pc + 3) ls (.int r :: rest))) : W p l e R s m args below meth c H locs cells slots Q (F0 m pc ls st0) := by
  have hw2 := pm_w hw hp
  exact x_wi (vx_runSW (As := As) (rest := rest) (g := F0 m pc ls st0) F hM cw (x_preSE hw2 hE (List.range wc.length) (rg_c wc wr) (nd_of _ List.nodup_range)) rfl hn hsize hstack hW hdg hf) hw2 (List.range wc.length) (List.range' wc.length wr.length) (rg_c wc wr) (rg_r wc wr) (nd_of _ List.nodup_range') (rg_d _ _) kk
theorem lw_he (wr : va_W) (he : wc[0]? = some (b, .inr (ci, fs))) : (wc ++ wr)[0]? = some (b, .inr (ci, fs)) := by
  rw [List.getElem?_append_left (List.getElem?_eq_some_iff.mp he).1]; exact he
/-- a call of an object's method, that answers an int -/
theorem lw_V {post : Int32 → S → Prop} (wr : va_W) (F : CallFix p m c cc nL s args Ts own) (hw : xW G ty A s.heap s ws H locs) (hp : ws.Perm (wc ++ wr))
    (hM : Met l y wy rm (xPc G ty H.size (.ref b :: As) wc) (va_Qi post (xB G ty wc H.size f) (va_A wc H.size)) 0 0 (va_A wc H.size)) (cw : CallW R s args own C index y bytes maxL ret wy rm 0 0 n)
    (he : wc[0]? = some (b, .inr (ci, fs))) (hc : vwCl[ci]? = some (C, T, N))
    (hn : As.length = n) (hsize : ls.size = nL) (hstack : st0 = As.reverse ++ .ref b :: rest) (hW : 2 * (F0 m pc ls st0).monitorRoom + (rest.map fun v => v.category).sum ≤ 8) (hdg : decode cc pc = .ok (.invokevirtual index, 3)) (hf : cells ≤ R.cells ∧ slots ≤ R.slots)
    (kk : ∀ (r : Int32) (u : S) (H1 : Heap) (locs1 : List Loc), post r u → xW G ty A s.heap s (wr ++ f u) H1 locs1 → W p l e R s m args below meth c H1 locs1 cells slots Q (F0 m (pc + 3) ls (.int r :: rest))) : W p l e R s m args below meth c H locs cells slots Q (F0 m pc ls st0) := by
  have hw2 := pm_w hw hp
  exact x_wi (va_runV (As := As) (rest := rest) (g := F0 m pc ls st0) F hM cw (x_preVW hw2 (List.range wc.length) (rg_c wc wr) (nd_of _ List.nodup_range) 0 (lw_he wr he) hc) rfl hn hsize hstack hW hdg hf) hw2 (List.range wc.length) (List.range' wc.length wr.length) (rg_c wc wr) (rg_r wc wr) (nd_of _ List.nodup_range') (rg_d _ _) kk
/-- .. a long -/
theorem lw_VL {post : Int64 → S → Prop} (wr : va_W) (F : CallFix p m c cc nL s args Ts own) (hw : xW G ty A s.heap s ws H locs) (hp : ws.Perm (wc ++ wr))
    (hM : Met l y wy rm (xPc G ty H.size (.ref b :: As) wc) (va_Ql post (xB G ty wc H.size f) (va_A wc H.size)) 0 0 (va_A wc H.size)) (cw : CallW R s args own C index y bytes maxL ret wy rm 0 0 n)
    (he : wc[0]? = some (b, .inr (ci, fs))) (hc : vwCl[ci]? = some (C, T, N))
    (hn : As.length = n) (hsize : ls.size = nL) (hstack : st0 = As.reverse ++ .ref b :: rest) (hW : 2 * (F0 m pc ls st0).monitorRoom + (rest.map fun v => v.category).sum ≤ 8) (hdg : decode cc pc = .ok (.invokevirtual index, 3)) (hf : cells ≤ R.cells ∧ slots ≤ R.slots)
    (kk : ∀ (r : Int64) (u : S) (H1 : Heap) (locs1 : List Loc), post r u → xW G ty A s.heap s (wr ++ f u) H1 locs1 → W p l e R s m args below meth c H1 locs1 cells slots Q (F0 m (pc + 3) ls (.long r :: rest))) : W p l e R s m args below meth c H locs cells slots Q (F0 m pc ls st0) := by
  have hw2 := pm_w hw hp
  exact x_wl (va_runV (As := As) (rest := rest) (g := F0 m pc ls st0) F hM cw (x_preVW hw2 (List.range wc.length) (rg_c wc wr) (nd_of _ List.nodup_range) 0 (lw_he wr he) hc) rfl hn hsize hstack hW hdg hf) hw2 (List.range wc.length) (List.range' wc.length wr.length) (rg_c wc wr) (rg_r wc wr) (nd_of _ List.nodup_range') (rg_d _ _) kk
/-- .. that only reads -/
theorem lw_T {post : Int32 → Prop} (wr : va_W) (F : CallFix p m c cc nL s args Ts own) (hw : xW G ty A s.heap s ws H locs) (hp : ws.Perm (wc ++ wr))
    (hM : Met l y wy rm (xPc G ty H.size (.ref b :: As) wc) (xQi post) 0 0 (fun _ => False)) (cw : CallW R s args own C index y bytes maxL ret wy rm 0 0 n)
    (he : wc[0]? = some (b, .inr (ci, fs))) (hc : vwCl[ci]? = some (C, T, N))
    (hn : As.length = n) (hsize : ls.size = nL) (hstack : st0 = As.reverse ++ .ref b :: rest) (hW : 2 * (F0 m pc ls st0).monitorRoom + (rest.map fun v => v.category).sum ≤ 8) (hdg : decode cc pc = .ok (.invokevirtual index, 3)) (hf : cells ≤ R.cells ∧ slots ≤ R.slots)
    (kk : ∀ r : Int32, post r → W p l e R s m args below meth c H locs cells slots Q (F0 m (pc + 3) ls (.int r :: rest))) : W p l e R s m args below meth c H locs cells slots Q (F0 m pc ls st0) := by
  have hw2 := pm_w hw hp
  exact x_ri (va_runV (As := As) (rest := rest) (g := F0 m pc ls st0) F hM cw (x_preVW hw2 (List.range wc.length) (rg_c wc wr) (nd_of _ List.nodup_range) 0 (lw_he wr he) hc) rfl hn hsize hstack hW hdg hf) kk
/-- the script's k-th -/
theorem x_sldN {L : Nat} {xs : Nat → Int32} (F : CallFix p m c cc nL s args Ts own) (hX : va_X b L xs s s.heap) (hbl : b < s.heap.size) (hw : xW G ty (fun q => s.heap.size ≤ q) s.heap s ws H locs) {i : Int32} (k : Nat) (hi : i = nI k) (hk : k < L) (hn : L < 2 ^ 31) (hd : decode cc pc = .ok (.iaload, 1))
    (kk : W p l e R s m args below meth c H locs cells slots Q (F0 m (pc + 1) ls (.int (xs k) :: rest))) : W p l e R s m args below meth c H locs cells slots Q (F0 m pc ls (.int i :: .ref b :: rest)) := by
  subst hi
  refine va_sld (A := fun q => s.heap.size ≤ q) F.1 F.2.1 hX hbl (Nat.not_le.mpr hbl) hw.2.2.2.1 (vp_in_nI hk hn) hd ?_
  rw [nI_clamp (by omega)]
  exact kk
end LP
section PM
variable {α : Type}
theorem q_1 (a T P M : List α) : (a ++ (T ++ (P ++ M))).Perm ((T ++ a) ++ (P ++ M)) := by
  classical
  rw [List.perm_iff_count]; intro x; simp only [List.count_append]; omega
theorem q_2 (a T P M : List α) : ((P ++ M) ++ (T ++ a)).Perm (M ++ (a ++ (T ++ P))) := by
  classical
  rw [List.perm_iff_count]; intro x; simp only [List.count_append]; omega
theorem q_3 (X M : List α) : (X ++ M).Perm (M ++ X) := List.perm_append_comm
theorem q_4 (a T P M : List α) : ((a ++ (T ++ P)) ++ M).Perm (a ++ (T ++ (P ++ M))) := by
  rw [List.append_assoc, List.append_assoc]
theorem q_5 (a T P M : List α) : (a ++ (T ++ (P ++ M))).Perm (T ++ (a ++ (P ++ M))) := by
  classical
  rw [List.perm_iff_count]; intro x; simp only [List.count_append]; omega
theorem q_6 (a T P M : List α) : ((a ++ (P ++ M)) ++ T).Perm (M ++ (a ++ (T ++ P))) := by
  classical
  rw [List.perm_iff_count]; intro x; simp only [List.count_append]; omega
/-- with one of the kept -/
theorem q_7 {a T P M S P' : List α} (h : P.Perm (S ++ P')) : (a ++ (T ++ (P ++ M))).Perm (((T ++ S) ++ a) ++ (P' ++ M)) := by
  classical
  rw [List.perm_iff_count] at h ⊢; intro x; have := h x; simp only [List.count_append] at this ⊢; omega
theorem q_8 {a T P M S P' : List α} (h : P.Perm (S ++ P')) : ((P' ++ M) ++ ((T ++ S) ++ a)).Perm (M ++ (a ++ (T ++ P))) := by
  classical
  rw [List.perm_iff_count] at h ⊢; intro x; have := h x; simp only [List.count_append] at this ⊢; omega
end PM
/-- what is kept, as cells -/
def wPl (cI cJ : ClassId) (kp : List (StA × StR)) : va_W := kp.flatMap (fun q => wSt cI cJ q.1 q.2)
theorem wPl_out {cI cJ : ClassId} {kp : List (StA × StR)} {j : Nat} {S2 : StA} {y : StR} (h : kp[j]? = some (S2, y)) : (wPl cI cJ kp).Perm (wSt cI cJ S2 y ++ wPl cI cJ (kp.eraseIdx j)) :=
  (erase_perm h).flatMap_right _
theorem wPl_set {cI cJ : ClassId} {kp : List (StA × StR)} {j : Nat} (S2 : StA) (y : StR) (h : j < kp.length) : (wPl cI cJ (kp.set j (S2, y))).Perm (wSt cI cJ S2 y ++ wPl cI cJ (kp.eraseIdx j)) := by
  have h1 := wPl_out (cI := cI) (cJ := cJ) (kp := kp.set j (S2, y)) (j := j) (S2 := S2) (y := y) (by rw [List.getElem?_set_self h])
  rw [List.eraseIdx_set_eq] at h1
  exact h1
theorem wPl_app {cI cJ : ClassId} (kp : List (StA × StR)) (q : StA × StR) : (wPl cI cJ (kp ++ [q])).Perm (wSt cI cJ q.1 q.2 ++ wPl cI cJ kp) := by
  unfold wPl
  rw [List.flatMap_append]
  refine List.perm_append_comm.trans ?_
  rw [List.flatMap_singleton]
/-- two ints as a long -/
def lJ (a b : Int32) : Int64 := (a.toInt64 <<< ((32 : Int32).toInt64 &&& 63)) ||| (b.toInt64 &&& 4294967295)
theorem gGr_le (L : Nat) : ∀ n, gGr n L ≤ L + 2 * n
  | 0 => Nat.le_refl _
  | n + 1 => by
    have h := gGr_le L n
    show (if n < gGr n L then gGr n L else 2 * gGr n L) ≤ _
    split <;> omega
/-- what stands at the loop's head -/
def lwN (p : Program) (l : Launch) (e : Env) (s : State) (m : MethodId) (below : List Frame) (meth : Method) (c : Code) (G : va_G) (cI cJ cZ cO : ClassId) (b oa : Nat) (K : TrA) (M : MA) (k : Nat) : Prop :=
  ∀ (tr : TrR) (kp : List (StA × StR)) (v : MR) (of9 : Nat → Int64) (H : Heap) (locs : List Loc) (ls : Array Slot), LRel tr kp v (2081 * k) → xW G (xK cI cJ cZ cO) (fun q => s.heap.size ≤ q) s.heap s ([(oa, .inl (cJ, 1, .inr (.inl of9)))] ++ (wTr cI cJ cO K tr ++ (wPl cI cJ kp ++ wMo cI cJ cZ M v))) H locs →
    lv_has ls 8 [(0, .ref b), (1, .ref (tH K)), (2, .ref (bH M)), (3, .ref oa), (4, .int (nI (9 * k)))] →
    W p l e room_1 s m #[Value.ref b] below meth c H locs (1000 + 60 * k + (gL (tG tr) - 65)) (40000 + 11000 * k + 10 * (gL (tG tr) - 65)) (lw_Z below #[Value.ref b] s) (F0 m 23 ls [])
