/-! Methods that may throw: what a throw needs of the machine, contracts, calls. -/
def xStr : List (Nat × String) := [(59, "no such gap"), (64, "no such often"), (72, "too many timers wait"), (108, "too many rows wait"), (117, "a time below now"), (129, "not so many were done"), (164, "from above to"), (170, "three are kept"), (176, "nothing is kept there"), (178, "none is kept"), (187, "no such task"), (211, "no timer of this number waits"), (213, "no such clock"), (217, "no such time"), (219, "no such what"), (221, "not so many tasks")]
abbrev xIA : String := "java/lang/IllegalArgumentException"
abbrev xIS : String := "java/lang/IllegalStateException"
abbrev xNS : String := "java/util/NoSuchElementException"
abbrev xNm : List String := ["java/lang/RuntimeException", "java/lang/Exception"]
def xBad : List Cond := (vx_atS RX3 61 xIA xNm).filter (fun w => !goodWord w) ++ ((vx_atS RX3 74 xIS xNm).filter (fun w => !goodWord w) ++ (wy_at RX3 131 xNS 13 prog_18_method_4_code xNm).filter (fun w => !goodWord w))
def isDC : Cond → Bool
  | .declares _ => true
  | .castable _ _ => true
  | _ => false
theorem xBad_dc : xBad.all isDC = true := by decide +kernel
theorem dc_moved {w : Cond} (hw : isDC w = true) {u U : State} (hvm : u.vm.Alike U.vm) (h : w.before #[] u = true) : w.before #[] U = true := by
  have tr : ∀ {c : Cond}, c.onTables = true → c.before #[] (u.setVm U.vm) = true → c.before #[] U = true := by
    intro c hc h
    have e := Cond.onTables_vm (A := #[]) (A' := #[]) (U := u) (U' := U) U.vm c hc
    have hU : U.setVm U.vm = U := rfl
    rw [hU] at e
    rw [← e]
    exact h
  cases w with
  | declares y => exact tr rfl (by rw [Cond.declares_setVm hvm]; exact h)
  | castable a b => exact tr rfl (by rw [Cond.castable_setVm hvm]; exact h)
  | _ => cases hw
theorem dc_any {w : Cond} (hw : isDC w = true) {A A' : Array Value} {u : State} (h : w.before A u = true) : w.before A' u = true := by
  cases w with
  | declares y => exact va_any rfl h
  | castable a b => exact va_any rfl h
  | _ => cases hw
/-- what the tables alone say -/
def xTb (U : State) : Prop := va_Nw (.methodLinkNest RX0 66 yX3_taskOf RX3) U ∧ va_Nw (.methodLinkNest RX3 22 yX1_init RX3) U ∧ va_AO RX2 U ∧ va_Nc xIS xIA U ∧ va_Nc xNS xIA U
theorem xTb.go {s U : State} (h : xTb s) (hW : s.WarmedH U.vm) : xTb U := ⟨h.1.warmM hW, h.2.1.warmM hW, h.2.2.1.moved hW.alike, h.2.2.2.1.moved hW.alike, h.2.2.2.2.moved hW.alike⟩
theorem xTb.same {s U : State} (h : xTb s) (hv : U.vm = s.vm) : xTb U := ⟨h.1.same rfl hv.symm, h.2.1.same rfl hv.symm, h.2.2.1.moved (by rw [hv]; exact Vm.Alike.refl _), h.2.2.2.1.moved (by rw [hv]; exact Vm.Alike.refl _), h.2.2.2.2.moved (by rw [hv]; exact Vm.Alike.refl _)⟩
def xEn (A : Nat → Prop) (U : State) (H : Heap) : Prop := vx_Zq Bundle.tN "UNASSIGNED_STACK" Bundle.steD A U H ∧ vx_Zq Bundle.tN "SUPPRESSED_SENTINEL" Bundle.listD A U H ∧ (∀ w ∈ xBad, w.before #[] U = true) ∧ (∀ q ∈ xStr, ∃ sa, vk_R RX3 q.1 q.2 sa U) ∧ xTb U
theorem xEn.go {A B : Nat → Prop} {s U : State} {H : Heap} (h : xEn A s s.heap) (hW : s.WarmedH U.vm) (hk : ∀ q : Nat, q < s.heap.size → ¬ A q → H[q]? = s.heap[q]?) (hAB : ∀ q, B q → A q) : xEn B U H :=
  ⟨((h.1.kept hk).moved hW.alike).narrow hAB, ((h.2.1.kept hk).moved hW.alike).narrow hAB, fun w hw => dc_moved (List.all_eq_true.mp xBad_dc w hw) hW.alike (h.2.2.1 w hw), fun q hq => by
    obtain ⟨sa, e⟩ := h.2.2.2.1 q hq
    exact ⟨sa, vk_R.warm hW e⟩, h.2.2.2.2.go hW⟩
def xXC (cx : String → Prop) : String → State → State → Prop := fun E st t => cx E ∧ st.heap.size ≤ t.heap.size ∧ ∀ q : Nat, q < st.heap.size → t.heap[q]? = st.heap[q]?
def xPe (G : va_G) (ty : xT) (sz : Nat) (av : List Value) (ws : va_W) : Array Value → State → Prop :=
  va_Pc av (fun U => U.heap.size = sz ∧ va_P G vwCl ws U.heap ∧ va_K G vwCl ty U ∧ va_D (fun _ => True) ws ∧ xEn (va_A ws sz) U U.heap)
theorem xEn.same {A : Nat → Prop} {s U : State} {H : Heap} (hv : U.vm = s.vm) (h : xEn A s H) : xEn A U H :=
  ⟨h.1.moved (by rw [hv]; exact Vm.Alike.refl _), h.2.1.moved (by rw [hv]; exact Vm.Alike.refl _), fun w hw => dc_moved (List.all_eq_true.mp xBad_dc w hw) (by rw [hv]; exact Vm.Alike.refl _) (h.2.2.1 w hw), fun q hq => by
    obtain ⟨sa, e⟩ := h.2.2.2.1 q hq
    exact ⟨sa, vk_R.same hv e⟩, h.2.2.2.2.same hv⟩
theorem xPe_blind {G : va_G} {ty : xT} {sz : Nat} {av : List Value} {ws : va_W} : FrameBlind (xPe G ty sz av ws) := fun a U g mk q => by
  obtain ⟨q0, q1, qP, qK, qD, qE⟩ := q
  exact ⟨q0, q1, qP, va_K.moved (u := U) (U := U.calling g mk a) (Vm.Alike.refl U.vm) qK, qD, xEn.same (s := U) rfl qE⟩
section
variable {l : Launch} {G : va_G} {ty : xT}
theorem x_bodyE {y : MethodName} {wy wy' : List Cond} {rm : Room} {sz mc ms : Nat} {av : List Value} {W0 : va_W} {Qc : Array Value → State → Outcome → State → Prop} {free : Addr → Prop} {cc : ByteArray} {maxL : Nat} {ret : Option FieldType}
    (hy : plainName y.cls = true) (hwy : wy = Cond.code y cc maxL ret :: wy') (hmx : (lg_sl av).length ≤ maxL)
    (body : ∀ (p : Program) (e : Env) (s : State) (m : MethodId) (below : List Frame) (meth : Method) (c : Code), CallFix p m c cc maxL s av.toArray wy y.cls → meth.sig.returnType = ret → meth.locks = false → meth.name = y.name → s.heap.size = sz →
      xW G ty (va_A W0 s.heap.size) s.heap s W0 s.heap [] → xEn (va_A W0 s.heap.size) s s.heap → ∀ ls : Array Slot, lv_has ls maxL (lv_args 0 av) → W p l e rm s m av.toArray below meth c s.heap [] 0 0 (MQ below Qc av.toArray s mc ms free) (F0 m 0 ls [])) :
    Met l y wy rm (xPe G ty sz av W0) Qc mc ms free := by
  refine Met.ofW (cc := cc) (maxL := maxL) (ret := ret) hy hwy ?_
  intro p e s m args below meth c s₁ B hml hv
  obtain ⟨rfl, hsz, hP, hK, hD0, hE⟩ := hv
  have hl := lv_entry av (n := maxL) hmx
  rw [lg_entry_eq]
  rw [← hsz] at hE
  exact body p e s m below meth c ⟨B.exec, B.bytes, hml, findClass_of_methodNamed B.named, atoms_spec (ws := wy) B.pre⟩ B.returns B.notSynchronized (name_of_methodNamed B.named B.method).1 hsz ⟨hK, hP, hD0.self, va_S.rf, fun q h => Or.inr h⟩ hE _ hl
theorem x_bodyX {y : MethodName} {wy wy' : List Cond} {rm : Room} {sz mc ms : Nat} {av : List Value} {W0 : va_W} {Qc : Array Value → State → Outcome → State → Prop} {cx : String → Prop} {free : Addr → Prop} {cc : ByteArray} {maxL : Nat} {ret : Option FieldType}
    (hy : plainName y.cls = true) (hwy : wy = Cond.code y cc maxL ret :: wy') (hmx : (lg_sl av).length ≤ maxL)
    (body : ∀ (p : Program) (e : Env) (s : State) (m : MethodId) (below : List Frame) (meth : Method) (c : Code), CallFix p m c cc maxL s av.toArray wy y.cls → meth.sig.returnType = ret → meth.locks = false → meth.name = y.name → s.heap.size = sz →
      xW G ty (va_A W0 s.heap.size) s.heap s W0 s.heap [] → xEn (va_A W0 s.heap.size) s s.heap → (∀ x ∈ c.exceptionTable.toList, False) → ∀ ls : Array Slot, lv_has ls maxL (lv_args 0 av) → W p l e rm s m av.toArray below meth c s.heap [] 0 0 (vx_MQ below Qc (xXC cx) av.toArray s mc ms free) (F0 m 0 ls [])) :
    vx_Met l y wy rm (xPe G ty sz av W0) Qc (xXC cx) mc ms free := by
  refine vx_ofW (cc := cc) (maxL := maxL) (ret := ret) hy hwy ?_
  intro p e s m args below meth c s₁ B hml hout hv
  obtain ⟨rfl, hsz, hP, hK, hD0, hE⟩ := hv
  have hl := lv_entry av (n := maxL) hmx
  rw [lg_entry_eq]
  rw [← hsz] at hE
  exact body p e s m below meth c ⟨B.exec, B.bytes, hml, findClass_of_methodNamed B.named, atoms_spec (ws := wy) B.pre⟩ B.returns B.notSynchronized (name_of_methodNamed B.named B.method).1 hsz ⟨hK, hP, hD0.self, va_S.rf, fun q h => Or.inr h⟩ hE hout _ hl
end
section
variable {p : Program} {l : Launch} {e : Env} {R : Room} {s : State} {m : MethodId} {args : Array Value} {below : List Frame} {meth : Method} {c : Code} {H : Heap} {locs : List Loc} {cells slots : Nat} {Q : State → Prop}
variable {cc : ByteArray} {nL pc : Nat} {ls : Array Slot} {rest st0 : List Value} {Ts : List Cond} {own : String} {G : va_G} {ty : xT} {A : Nat → Prop} {ws : va_W} {mc ms : Nat} {a : Array Value}
variable {Qc : Array Value → State → Outcome → State → Prop} {cx cy : String → Prop} {free : Addr → Prop}
theorem x_preE {av : List Value} {wc : va_W} (hw : xW G ty A s.heap s ws H locs) (hE : xEn A s s.heap) (isC : List Nat) (hC : isC.map (fun i => ws[i]?) = wc.map some) (hn : va_nd isC = true) :
    ∀ U : State, U.heap = H → s.WarmedH U.vm → xPe G ty H.size av wc av.toArray U := by
  intro U hU hW
  have hF := va_free hw.2.2.1 hw.2.2.2.1 hw.2.2.2.2 isC hC
  exact ⟨rfl, by rw [hU], by rw [hU]; exact hw.2.1.sub isC (x_fm isC hC), va_K.moved hW.alike hw.1, (hw.2.2.1.sub isC hn hC).weaken (fun _ _ _ _ => trivial), by rw [hU]; exact hE.go hW hw.2.2.2.1.2.1 hF⟩
theorem x_preVE {b : Nat} {As : List Value} {wc : va_W} (hw : xW G ty A s.heap s ws H locs) (hE : xEn A s s.heap) (isC : List Nat) (hC : isC.map (fun i => ws[i]?) = wc.map some) (hn : va_nd isC = true) (q0 : Nat) {ci : Nat} {fs : List Value} (he : ws[q0]? = some (b, .inr (ci, fs))) {C : String} {T : u_T} {N : Nat} (hc : vwCl[ci]? = some (C, T, N)) :
    PreV s H C b (xPe G ty H.size (.ref b :: As) wc) As := ⟨xPe_blind, x_rcv hw q0 he hc, x_preE hw hE isC hC hn⟩
theorem x_preSE {As : List Value} {wc : va_W} (hw : xW G ty A s.heap s ws H locs) (hE : xEn A s s.heap) (isC : List Nat) (hC : isC.map (fun i => ws[i]?) = wc.map some) (hn : va_nd isC = true) : PreS s H (xPe G ty H.size As wc) As := ⟨xPe_blind, x_preE hw hE isC hC hn⟩
/-- a callee's throw goes on to the caller -/
theorem x_outX {E : String} {ce : Cell} {q : Addr} {T' : State} (hout : ∀ x ∈ c.exceptionTable.toList, False) (hlk : meth.locks = false) (hcx : cx E) (hz : s.heap.size ≤ H.size) (hk : ∀ q : Nat, q < s.heap.size → H[q]? = s.heap[q]?) (hce : H[q]? = some ce) (hcv : ce.vm = .none) (hcl : s.vm.findClass E = some ce.cls) (hc : cells ≤ mc) (hs : slots ≤ ms) :
    vx_W p l e R s m args below meth c H [] cells slots (vx_MQ below Qc (xXC cx) args s mc ms free) (F0 m pc ls rest) q :=
  vx_out (fun x hx => (hout x hx).elim) hlk hce hcv hcl (fun t ht _ => ⟨hcx, by rw [ht]; exact hz, fun q hq => by rw [ht]; exact hk q hq⟩) (fun z hz => nomatch hz) hc hs
theorem x_xrv {post : Prop} (hr : vx_Run p l e R s m args below meth c s.heap [] cells slots 1 6 (F0 m pc ls st0) rest (xQv post a) (xXC cy) (fun _ => False)) (hout : ∀ x ∈ c.exceptionTable.toList, False) (hlk : meth.locks = false) (hcx : ∀ E, cy E → cx E) (hc : cells + 1 ≤ mc) (hs : slots + 6 ≤ ms)
    (kk : post → W p l e R s m args below meth c s.heap [] (cells + 1) (slots + 6) (vx_MQ below Qc (xXC cx) args s mc ms free) (F0 m (pc + 3) ls rest)) : W p l e R s m args below meth c s.heap [] cells slots (vx_MQ below Qc (xXC cx) args s mc ms free) (F0 m pc ls st0) := by
  intro T hT X
  rcases hr T hT X with ⟨v, st₀, t, T', L, h0, X', hL, e1, e2, ⟨hv, hp, hb⟩, st⟩ | ⟨q, st₀, t, T', L, E, ce, h0, X', hL, e1, e2, ⟨hcy, hz, hk⟩, hce, hcv, hcl, st⟩
  · cases hv
    have hL0 : L = [] := List.eq_nil_iff_forall_not_mem.mpr (fun q hq => hL q hq)
    subst hL0
    rw [List.append_nil] at X'
    obtain ⟨t2, a1, b1⟩ := kk hp T' (by rw [e1, hb, h0]) X'
    exact ⟨t2, st t2 a1, b1⟩
  · have hL0 : L = [] := List.eq_nil_iff_forall_not_mem.mpr (fun q hq => hL q hq)
    subst hL0
    rw [List.append_nil] at X'
    rw [h0] at hz hk
    obtain ⟨t2, a1, b1⟩ := x_outX (p := p) (l := l) (e := e) (R := R) (args := args) (below := below) (pc := pc) (ls := ls) (rest := rest) (Qc := Qc) (free := free) (T' := T') (H := T'.heap) hout hlk (hcx E hcy) (by rw [e1]; exact hz) (fun q hq => by rw [e1]; exact hk q hq) (by rw [e1]; exact hce) hcv hcl hc hs T' rfl X'
    exact ⟨t2, st.trans a1, b1⟩
theorem x_xri {post : Int32 → Prop} (hr : vx_Run p l e R s m args below meth c s.heap [] cells slots 1 6 (F0 m pc ls st0) rest (xQi post a) (xXC cy) (fun _ => False)) (hout : ∀ x ∈ c.exceptionTable.toList, False) (hlk : meth.locks = false) (hcx : ∀ E, cy E → cx E) (hc : cells + 1 ≤ mc) (hs : slots + 6 ≤ ms)
    (kk : ∀ r : Int32, post r → W p l e R s m args below meth c s.heap [] (cells + 1) (slots + 6) (vx_MQ below Qc (xXC cx) args s mc ms free) (F0 m (pc + 3) ls (.int r :: rest))) : W p l e R s m args below meth c s.heap [] cells slots (vx_MQ below Qc (xXC cx) args s mc ms free) (F0 m pc ls st0) := by
  intro T hT X
  rcases hr T hT X with ⟨v, st₀, t, T', L, h0, X', hL, e1, e2, ⟨r, hv, hp, hb⟩, st⟩ | ⟨q, st₀, t, T', L, E, ce, h0, X', hL, e1, e2, ⟨hcy, hz, hk⟩, hce, hcv, hcl, st⟩
  · cases hv
    have hL0 : L = [] := List.eq_nil_iff_forall_not_mem.mpr (fun q hq => hL q hq)
    subst hL0
    rw [List.append_nil] at X'
    obtain ⟨t2, a1, b1⟩ := kk r hp T' (by rw [e1, hb, h0]) X'
    exact ⟨t2, st t2 a1, b1⟩
  · have hL0 : L = [] := List.eq_nil_iff_forall_not_mem.mpr (fun q hq => hL q hq)
    subst hL0
    rw [List.append_nil] at X'
    rw [h0] at hz hk
    obtain ⟨t2, a1, b1⟩ := x_outX (p := p) (l := l) (e := e) (R := R) (args := args) (below := below) (pc := pc) (ls := ls) (rest := rest) (Qc := Qc) (free := free) (T' := T') (H := T'.heap) hout hlk (hcx E hcy) (by rw [e1]; exact hz) (fun q hq => by rw [e1]; exact hk q hq) (by rw [e1]; exact hce) hcv hcl hc hs T' rfl X'
    exact ⟨t2, st.trans a1, b1⟩
/-- 'throw new E("..")' of the first two kinds -/
theorem x_thr {ic ik is : Nat} {cls tx : String} (F : CallFix p m c cc nL s args Ts RX3) (hw : xW G ty A s.heap s ws s.heap []) (hE : xEn A s s.heap) (hst : l.stackTraces = false) (hfit : Bundle.fit cls = true) (hbad : ∀ w ∈ (vx_atS RX3 ic cls xNm).filter (fun w => !goodWord w), w ∈ xBad)
    (hot : ∀ w ∈ Cond.classLink RX3 ik cls :: Cond.initialized cls :: vx_atS RX3 ic cls xNm, vx_ot w = true)
    (hat : ∀ w ∈ (vx_atS RX3 ic cls xNm).filter goodWord, w ∈ Ts) (hk : Cond.classLink RX3 ik cls ∈ Ts) (hini : Cond.initialized cls ∈ Ts) (hs : (is, tx) ∈ xStr) (hsz : ls.size = nL)
    (d0 : decode cc pc = .ok (.new ik, 3)) (d3 : decode cc (pc + 3) = .ok (.dup, 1)) (d4 : decode cc (pc + 4) = .ok (.ldc is, 2)) (d6 : decode cc (pc + 6) = .ok (.invokespecial ic, 3)) (d9 : decode cc (pc + 9) = .ok (.athrow, 1))
    (hout : ∀ x ∈ c.exceptionTable.toList, False) (hlk : meth.locks = false) (hRf : 5 < R.frames) (hRl : (rest.map fun v => v.category).sum + 82 ≤ R.locals) (hRc : cells + 1 ≤ R.cells) (hRs : slots + 6 ≤ R.slots) (hcx : cx cls) (hc : cells + 1 ≤ mc) (hs2 : slots + 6 ≤ ms) :
    W p l e R s m args below meth c s.heap [] cells slots (vx_MQ below Qc (xXC cx) args s mc ms free) (F0 m pc ls rest) := by
  obtain ⟨sa, hsa⟩ := hE.2.2.2.1 _ hs
  refine vx_throwS F.1 F.2.1 hst F.2.2.2.1 hfit (by decide) (F.2.2.2.2 _ hk) (F.2.2.2.2 _ hini) hsa (vx_hat (B := (vx_atS RX3 ic cls xNm).filter (fun w => !goodWord w)) (fun w h => F.2.2.2.2 w (hat w h)) (fun w h => h) (fun w h => dc_any (List.all_eq_true.mp xBad_dc w (hbad w h)) (hE.2.2.1 w (hbad w h)))) hot hE.1 hE.2.1 hw.2.2.2.1 (hsz.trans F.2.2.1.symm) d0 d3 d4 d6 d9 (fun x hx => (hout x hx).elim) hRf hRl hRc hRs hlk (fun t _ hz hk2 => ⟨hcx, hz, hk2⟩) (fun z hz => nomatch hz) hc hs2
theorem x_thrN {ic ik is : Nat} {cls tx : String} (hic : ic = 131) (hcl : cls = xNS) (F : CallFix p m c cc nL s args Ts RX3) (hw : xW G ty A s.heap s ws s.heap []) (hE : xEn A s s.heap) (hst : l.stackTraces = false) (hfit : Bundle.fit cls = true) (hbad : ∀ w ∈ (wy_at RX3 ic cls 13 prog_18_method_4_code xNm).filter (fun w => !goodWord w), w ∈ xBad)
    (hot : ∀ w ∈ Cond.classLink RX3 ik cls :: Cond.initialized cls :: wy_at RX3 ic cls 13 prog_18_method_4_code xNm, vx_ot w = true)
    (hat : ∀ w ∈ (wy_at RX3 ic cls 13 prog_18_method_4_code xNm).filter goodWord, w ∈ Ts) (hk : Cond.classLink RX3 ik cls ∈ Ts) (hini : Cond.initialized cls ∈ Ts) (hs : (is, tx) ∈ xStr) (hsz : ls.size = nL)
    (d0 : decode cc pc = .ok (.new ik, 3)) (d3 : decode cc (pc + 3) = .ok (.dup, 1)) (d4 : decode cc (pc + 4) = .ok (.ldc is, 2)) (d6 : decode cc (pc + 6) = .ok (.invokespecial ic, 3)) (d9 : decode cc (pc + 9) = .ok (.athrow, 1))
    (hout : ∀ x ∈ c.exceptionTable.toList, False) (hlk : meth.locks = false) (hRf : 5 < R.frames) (hRl : (rest.map fun v => v.category).sum + 82 ≤ R.locals) (hRc : cells + 1 ≤ R.cells) (hRs : slots + 6 ≤ R.slots) (hcx : cx cls) (hc : cells + 1 ≤ mc) (hs2 : slots + 6 ≤ ms) :
    W p l e R s m args below meth c s.heap [] cells slots (vx_MQ below Qc (xXC cx) args s mc ms free) (F0 m pc ls rest) := by
  obtain ⟨sa, hsa⟩ := hE.2.2.2.1 _ hs
  refine wy_throwS F.1 F.2.1 hst (show RX3 = "TimerRows" from rfl) hic hcl rfl F.2.2.2.1 hfit (by decide) (F.2.2.2.2 _ hk) (F.2.2.2.2 _ hini) hsa (vx_hat (B := (wy_at RX3 ic cls 13 prog_18_method_4_code xNm).filter (fun w => !goodWord w)) (fun w h => F.2.2.2.2 w (hat w h)) (fun w h => h) (fun w h => dc_any (List.all_eq_true.mp xBad_dc w (hbad w h)) (hE.2.2.1 w (hbad w h)))) hot hE.1 hE.2.1 hw.2.2.2.1 (hsz.trans F.2.2.1.symm) d0 d3 d4 d6 d9 (fun x hx => (hout x hx).elim) hRf hRl hRc hRs hlk (fun t _ hz hk2 => ⟨hcx, hz, hk2⟩) (fun z hz => nomatch hz) hc hs2
end
theorem fit_IA : Bundle.fit xIA = true := by decide +kernel
theorem fit_IS : Bundle.fit xIS = true := by decide +kernel
theorem fit_NS : Bundle.fit xNS = true := by decide +kernel
theorem bad_IA : ∀ w ∈ (vx_atS RX3 61 xIA xNm).filter (fun w => !goodWord w), w ∈ xBad := fun _ h => List.mem_append_left _ h
theorem bad_IS : ∀ w ∈ (vx_atS RX3 74 xIS xNm).filter (fun w => !goodWord w), w ∈ xBad := fun _ h => List.mem_append_right _ (List.mem_append_left _ h)
theorem bad_NS : ∀ w ∈ (wy_at RX3 131 xNS 13 prog_18_method_4_code xNm).filter (fun w => !goodWord w), w ∈ xBad := fun _ h => List.mem_append_right _ (List.mem_append_right _ h)
theorem ot_IA : ∀ w ∈ Cond.classLink RX3 57 xIA :: Cond.initialized xIA :: vx_atS RX3 61 xIA xNm, vx_ot w = true := by decide +kernel
theorem ot_IS : ∀ w ∈ Cond.classLink RX3 70 xIS :: Cond.initialized xIS :: vx_atS RX3 74 xIS xNm, vx_ot w = true := by decide +kernel
theorem ot_NS : ∀ w ∈ Cond.classLink RX3 127 xNS :: Cond.initialized xNS :: wy_at RX3 131 xNS 13 prog_18_method_4_code xNm, vx_ot w = true := by decide +kernel
