/-! Methods with a table of their own that catch what a callee throws. -/
section XH
section
variable {l : Launch} {G : va_G} {ty : xT}
theorem x_bodyH {y : MethodName} {wy wy' : List Cond} {rm : Room} {sz mc ms : Nat} {av : List Value} {W0 : va_W} {Qc : Array Value → State → Outcome → State → Prop} {free : Addr → Prop} {cc : ByteArray} {maxL : Nat} {ret : Option FieldType} {hh : List (Nat × Nat × Nat × Nat)}
    (hy : plainName y.cls = true) (hwy : wy = Cond.codeWith y cc maxL ret hh :: wy') (hmx : (lg_sl av).length ≤ maxL)
    (body : ∀ (p : Program) (e : Env) (s : State) (m : MethodId) (below : List Frame) (meth : Method) (c : Code), CallFix p m c cc maxL s av.toArray wy y.cls → meth.sig.returnType = ret → meth.locks = false → c.exceptionTable.toList = tableOf hh → s.heap.size = sz →
      xW G ty (va_A W0 s.heap.size) s.heap s W0 s.heap [] → xEn (va_A W0 s.heap.size) s s.heap → ∀ ls : Array Slot, lv_has ls maxL (lv_args 0 av) → W p l e rm s m av.toArray below meth c s.heap [] 0 0 (MQ below Qc av.toArray s mc ms free) (F0 m 0 ls [])) :
    Met l y wy rm (xPe G ty sz av W0) Qc mc ms free := by
  refine va_MetW (cc := cc) (maxL := maxL) (ret := ret) (hh := hh) hy hwy ?_
  intro p e s m args below meth c s₁ B hml hv
  obtain ⟨rfl, hsz, hP, hK, hD0, hE⟩ := hv
  have hl := lv_entry av (n := maxL) hmx
  have htab := vx_table (x := y) B (atoms_spec (ws := wy) B.pre _ (by rw [hwy]; exact List.mem_cons_self))
  rw [lg_entry_eq]
  rw [← hsz] at hE
  exact body p e s m below meth c ⟨B.exec, B.bytes, hml, findClass_of_methodNamed B.named, atoms_spec (ws := wy) B.pre⟩ B.returns B.notSynchronized htab hsz ⟨hK, hP, hD0.self, va_S.rf, fun q h => Or.inr h⟩ hE _ hl
end
section
variable {p : Program} {l : Launch} {e : Env} {R : Room} {s : State} {m : MethodId} {args : Array Value} {below : List Frame} {meth : Method} {c : Code} {H : Heap} {locs : List Loc} {cells slots : Nat} {Q : State → Prop}
variable {pc : Nat} {ls : Array Slot} {rest st0 : List Value} {G : va_G} {ty : xT} {A : Nat → Prop} {H0 : Heap} {ws : va_W} {mc ms : Nat} {a : Array Value} {cy : String → Prop}
theorem x_keepW {H1 : Heap} {L : List Loc} (hw : xW G ty A H0 s ws H locs) (hz : H.size ≤ H1.size) (hk : ∀ q : Nat, q < H.size → H1[q]? = H[q]?) (hL : ∀ z ∈ L, A z.base) : xW G ty A H0 s ws H1 (locs ++ L) := by
  refine ⟨hw.1, hw.2.1.kept (fun k q hq => hk _ (vx_lt hw.2.1 hq)), hw.2.2.1, ⟨Nat.le_trans hw.2.2.2.1.1 hz, fun q h1 h2 => (hk q (Nat.lt_of_lt_of_le h1 hw.2.2.2.1.1)).trans (hw.2.2.2.1.2.1 q h1 h2), fun z hz => ?_⟩, hw.2.2.2.2⟩
  rcases List.mem_append.mp hz with h | h
  · exact hw.2.2.2.1.2.2 z h
  · exact hL z h
/-- what stands behind a callee's throw -/
abbrev xThrown (p : Program) (l : Launch) (e : Env) (R : Room) (s : State) (m : MethodId) (args : Array Value) (below : List Frame) (meth : Method) (c : Code) (cells slots : Nat) (Q : State → Prop) (G : va_G) (ty : xT) (A : Nat → Prop) (H0 : Heap) (ws : va_W) (cy : String → Prop) (pc : Nat) (ls : Array Slot) (rest : List Value) : Prop :=
  ∀ (E : String) (ce : Cell) (q9 : Addr) (H1 : Heap) (locs1 : List Loc), cy E → xW G ty A H0 s ws H1 locs1 → H1[q9]? = some ce → ce.vm = .none → s.vm.findClass E = some ce.cls → vx_W p l e R s m args below meth c H1 locs1 cells slots Q (F0 m pc ls rest) q9
theorem x_hri {post : Int32 → Prop} (hr : vx_Run p l e R s m args below meth c H locs cells slots mc ms (F0 m pc ls st0) rest (xQi post a) (xXC cy) (fun _ => False)) (hw : xW G ty A H0 s ws H locs)
    (kx : xThrown p l e R s m args below meth c (cells + mc) (slots + ms) Q G ty A H0 ws cy pc ls rest)
    (kk : ∀ r : Int32, post r → W p l e R s m args below meth c H locs (cells + mc) (slots + ms) Q (F0 m (pc + 3) ls (.int r :: rest))) : W p l e R s m args below meth c H locs cells slots Q (F0 m pc ls st0) := by
  intro T hT X
  rcases hr T hT X with ⟨v, st₀, t, T', L, h0, X', hL, e1, e2, ⟨r, hv, hp, hb⟩, st⟩ | ⟨q, st₀, t, T', L, E, ce, h0, X', hL, e1, e2, ⟨hcy, hz, hk⟩, hce, hcv, hcl, st⟩
  · cases hv
    have hL0 : L = [] := List.eq_nil_iff_forall_not_mem.mpr (fun q hq => hL q hq)
    subst hL0
    rw [List.append_nil] at X'
    obtain ⟨t2, a1, b1⟩ := kk r hp T' (by rw [e1, hb, h0]) X'
    exact ⟨t2, st t2 a1, b1⟩
  · rw [h0] at hz hk
    obtain ⟨t2, a1, b1⟩ := kx E ce q T'.heap (locs ++ L) hcy (x_keepW hw (by rw [e1]; exact hz) (fun q hq => by rw [e1]; exact hk q hq) (fun z hz => (hL z hz).elim)) (by rw [e1]; exact hce) hcv hcl T' rfl X'
    exact ⟨t2, st.trans a1, b1⟩
theorem x_hrl {post : Int64 → Prop} (hr : vx_Run p l e R s m args below meth c H locs cells slots mc ms (F0 m pc ls st0) rest (xQl post a) (xXC cy) (fun _ => False)) (hw : xW G ty A H0 s ws H locs)
    (kx : xThrown p l e R s m args below meth c (cells + mc) (slots + ms) Q G ty A H0 ws cy pc ls rest)
    (kk : ∀ r : Int64, post r → W p l e R s m args below meth c H locs (cells + mc) (slots + ms) Q (F0 m (pc + 3) ls (.long r :: rest))) : W p l e R s m args below meth c H locs cells slots Q (F0 m pc ls st0) := by
  intro T hT X
  rcases hr T hT X with ⟨v, st₀, t, T', L, h0, X', hL, e1, e2, ⟨r, hv, hp, hb⟩, st⟩ | ⟨q, st₀, t, T', L, E, ce, h0, X', hL, e1, e2, ⟨hcy, hz, hk⟩, hce, hcv, hcl, st⟩
  · cases hv
    have hL0 : L = [] := List.eq_nil_iff_forall_not_mem.mpr (fun q hq => hL q hq)
    subst hL0
    rw [List.append_nil] at X'
    obtain ⟨t2, a1, b1⟩ := kk r hp T' (by rw [e1, hb, h0]) X'
    exact ⟨t2, st t2 a1, b1⟩
  · rw [h0] at hz hk
    obtain ⟨t2, a1, b1⟩ := kx E ce q T'.heap (locs ++ L) hcy (x_keepW hw (by rw [e1]; exact hz) (fun q hq => by rw [e1]; exact hk q hq) (fun z hz => (hL z hz).elim)) (by rw [e1]; exact hce) hcv hcl T' rfl X'
    exact ⟨t2, st.trans a1, b1⟩
theorem x_hwi {S : Type} {post : Int32 → S → Prop} {f : S → va_W} {wc wr : va_W} (hr : vx_Run p l e R s m args below meth c H locs cells slots mc ms (F0 m pc ls st0) rest (va_Qi post (xB G ty wc H.size f) (va_A wc H.size) a) (xXC cy) (va_A wc H.size)) (hw : xW G ty A H0 s ws H locs) (isC isR : List Nat) (hC : isC.map (fun i => ws[i]?) = wc.map some) (hR : isR.map (fun i => ws[i]?) = wr.map some) (hn : va_nd isR = true) (hdis : ∀ i ∈ isR, i ∉ isC)
    (kx : xThrown p l e R s m args below meth c (cells + mc) (slots + ms) Q G ty A H0 ws cy pc ls rest)
    (kk : ∀ (r : Int32) (u : S) (H1 : Heap) (locs1 : List Loc), post r u → xW G ty A H0 s (wr ++ f u) H1 locs1 → W p l e R s m args below meth c H1 locs1 (cells + mc) (slots + ms) Q (F0 m (pc + 3) ls (.int r :: rest))) : W p l e R s m args below meth c H locs cells slots Q (F0 m pc ls st0) := by
  have hF := va_free hw.2.2.1 hw.2.2.2.1 hw.2.2.2.2 isC hC
  intro T hT X
  rcases hr T hT X with ⟨v, st₀, t, T', L, h0, X', hL, e1, e2, ⟨⟨r, u, hv, hp, hb⟩, hFr⟩, st⟩ | ⟨q, st₀, t, T', L, E, ce, h0, X', hL, e1, e2, ⟨hcy, hz, hk⟩, hce, hcv, hcl, st⟩
  · cases hv
    obtain ⟨k1, k2, k3⟩ := vx_keep h0 e1 hw.2.2.2.1 (fun q _ h => hF q h) hF hL hFr
    obtain ⟨t2, a1, b1⟩ := kk r u T'.heap (locs ++ L) hp (x_joined hw isC isR hC hR hn hdis e1.symm hb k2 k3) T' rfl X'
    exact ⟨t2, st t2 a1, b1⟩
  · rw [h0] at hz hk
    obtain ⟨t2, a1, b1⟩ := kx E ce q T'.heap (locs ++ L) hcy (x_keepW hw (by rw [e1]; exact hz) (fun q hq => by rw [e1]; exact hk q hq) (fun z hz => hF _ (hL z hz))) (by rw [e1]; exact hce) hcv hcl T' rfl X'
    exact ⟨t2, st.trans a1, b1⟩
theorem x_hwl {S : Type} {post : Int64 → S → Prop} {f : S → va_W} {wc wr : va_W} (hr : vx_Run p l e R s m args below meth c H locs cells slots mc ms (F0 m pc ls st0) rest (va_Ql post (xB G ty wc H.size f) (va_A wc H.size) a) (xXC cy) (va_A wc H.size)) (hw : xW G ty A H0 s ws H locs) (isC isR : List Nat) (hC : isC.map (fun i => ws[i]?) = wc.map some) (hR : isR.map (fun i => ws[i]?) = wr.map some) (hn : va_nd isR = true) (hdis : ∀ i ∈ isR, i ∉ isC)
    (kx : xThrown p l e R s m args below meth c (cells + mc) (slots + ms) Q G ty A H0 ws cy pc ls rest)
    (kk : ∀ (r : Int64) (u : S) (H1 : Heap) (locs1 : List Loc), post r u → xW G ty A H0 s (wr ++ f u) H1 locs1 → W p l e R s m args below meth c H1 locs1 (cells + mc) (slots + ms) Q (F0 m (pc + 3) ls (.long r :: rest))) : W p l e R s m args below meth c H locs cells slots Q (F0 m pc ls st0) := by
  have hF := va_free hw.2.2.1 hw.2.2.2.1 hw.2.2.2.2 isC hC
  intro T hT X
  rcases hr T hT X with ⟨v, st₀, t, T', L, h0, X', hL, e1, e2, ⟨⟨r, u, hv, hp, hb⟩, hFr⟩, st⟩ | ⟨q, st₀, t, T', L, E, ce, h0, X', hL, e1, e2, ⟨hcy, hz, hk⟩, hce, hcv, hcl, st⟩
  · cases hv
    obtain ⟨k1, k2, k3⟩ := vx_keep h0 e1 hw.2.2.2.1 (fun q _ h => hF q h) hF hL hFr
    obtain ⟨t2, a1, b1⟩ := kk r u T'.heap (locs ++ L) hp (x_joined hw isC isR hC hR hn hdis e1.symm hb k2 k3) T' rfl X'
    exact ⟨t2, st t2 a1, b1⟩
  · rw [h0] at hz hk
    obtain ⟨t2, a1, b1⟩ := kx E ce q T'.heap (locs ++ L) hcy (x_keepW hw (by rw [e1]; exact hz) (fun q hq => by rw [e1]; exact hk q hq) (fun z hz => hF _ (hL z hz))) (by rw [e1]; exact hce) hcv hcl T' rfl X'
    exact ⟨t2, st.trans a1, b1⟩
end
theorem cast_IA : Cond.castable xIA xIA ∈ xBad := by decide +kernel
theorem cast_IS : Cond.castable xIS xIS ∈ xBad := by decide +kernel
theorem cast_NS : Cond.castable xNS xNS ∈ xBad := by decide +kernel
end XH
