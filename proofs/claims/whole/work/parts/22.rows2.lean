/-! More rows: lengths, the least of two, answers that are cells. -/
section XR2
variable {p : Program} {l : Launch} {e : Env} {R : Room} {s : State} {m : MethodId} {args : Array Value} {below : List Frame} {meth : Method} {c : Code} {H : Heap} {locs : List Loc} {cells slots : Nat} {Q : State → Prop}
variable {cc : ByteArray} {nL pc : Nat} {ls : Array Slot} {rest st0 : List Value} {Ts : List Cond} {own : String} {G : va_G} {ty : xT} {A : Nat → Prop} {H0 : Heap} {ws ws0 : va_W} {mc ms : Nat} {a : Array Value}
theorem x_alen (F : CallFix p m c cc nL s args Ts own) (hw : xW G ty A H0 s ws H locs) (q0 t0 : Nat) {a : Nat} {cA : ClassId} {x : vp_A} (ha : ws[q0]? = some (a, .inl (cA, x))) {t : FieldType} (ht : ty[t0]? = some (cA, t)) (hd : decode cc pc = .ok (.arraylength, 1))
    (kk : W p l e R s m args below meth c H locs cells slots Q (F0 m (pc + 1) ls (.int (nI x.1) :: rest))) : W p l e R s m args below meth c H locs cells slots Q (F0 m pc ls (.ref a :: rest)) := va_alen F.1 F.2.1 hw.1 hw.2.1 q0 t0 ha ht rfl hd kk
theorem x_mmin (F : CallFix p m c cc nL s args Ts own) {index : Nat} (hl : Cond.methodLink own index Lib.Math.min.name ∈ Ts) (hst : Cond.static Lib.Math.min.name ∈ Ts) (hini : Cond.initialized "java/lang/Math" ∈ Ts) (hcd : Cond.code Lib.Math.min.name Lib.Math.min.code 2 (some .int) ∈ Ts) (hls : ls.size = nL)
    (hframes : 1 ≤ R.frames) (hlocals : (rest.map fun v => v.category).sum + 13 ≤ R.locals) (hc : cells ≤ R.cells) (hs : slots ≤ R.slots) {x y : Int32} {i j : Nat} (ex : x = nI i) (ey : y = nI j) (hij : i ≤ j) (hj : j < 2 ^ 31) (hd : decode cc pc = .ok (.invokestatic index, 3))
    (kk : W p l e R s m args below meth c H locs cells slots Q (F0 m (pc + 3) ls (.int (nI i) :: rest))) : W p l e R s m args below meth c H locs cells slots Q (F0 m pc ls (.int y :: .int x :: rest)) := by
  refine va_mmin F.1 F.2.1 (F.2.2.1.trans hls.symm) F.2.2.2.1 (F.2.2.2.2 _ hl) (F.2.2.2.2 _ hst) (F.2.2.2.2 _ hini) (F.2.2.2.2 _ hcd) hframes hlocals hc hs hd ?_
  rw [ex, ey, if_neg (nI_nlt hij hj)]
  exact kk
/-- an answer that is a cell -/
theorem x_wr {S : Type} {post : S → Prop} {f : S → Nat → va_W} {wc wr : va_W} (hr : va_Run p l e R s m args below meth c H locs cells slots mc ms (F0 m pc ls st0) rest (va_Qr post (fun u ra t => xB G ty wc H.size (fun u9 : S × Nat => f u9.1 u9.2) (u, ra) t) (va_A wc H.size) a) (va_A wc H.size)) (hw : xW G ty A H0 s ws H locs) (isC isR : List Nat) (hC : isC.map (fun i => ws[i]?) = wc.map some) (hR : isR.map (fun i => ws[i]?) = wr.map some) (hn : va_nd isR = true) (hdis : ∀ i ∈ isR, i ∉ isC)
    (kk : ∀ (u : S) (ra : Nat) (H1 : Heap) (locs1 : List Loc), post u → xW G ty A H0 s (wr ++ f u ra) H1 locs1 → W p l e R s m args below meth c H1 locs1 (cells + mc) (slots + ms) Q (F0 m (pc + 3) ls (.ref ra :: rest))) : W p l e R s m args below meth c H locs cells slots Q (F0 m pc ls st0) := by
  have hF := va_free hw.2.2.1 hw.2.2.2.1 hw.2.2.2.2 isC hC
  exact va_callr hr hw.2.2.2.1 (fun q _ h => hF q h) hF (fun u ra t H1 locs1 ht hvm hp hB hz hk hS => kk u ra H1 locs1 hp (x_joined (u := (u, ra)) hw isC isR hC hR hn hdis ht hB hk hS))
theorem x_aret {S : Type} {post : S → Prop} {f : S → Nat → va_W} {v : Nat} (u : S) {rt : FieldType} (F : CallFix p m c cc nL s args Ts own) (hr : meth.sig.returnType = some (.array rt)) (hlk : meth.locks = false) (hw : xW G ty (va_A ws0 s.heap.size) s.heap s (f u v) H locs) (hp : post u) (hd : decode cc pc = .ok (.areturn, 1)) :
    W p l e R s m args below meth c H locs cells slots (MQ below (va_Qr post (fun u ra t => xB G ty ws0 s.heap.size (fun u9 : S × Nat => f u9.1 u9.2) (u, ra) t) (va_A ws0 s.heap.size)) args s cells slots (va_A ws0 s.heap.size)) (F0 m pc ls [.ref v]) :=
  W.aret F.1 F.2.1 hr (Or.inr ⟨_, rfl⟩) (Or.inr ⟨_, rfl⟩) (fun t ht hW => ⟨⟨u, v, rfl, hp, by rw [ht]; exact hw.2.1, va_K.moved hW.alike hw.1, hw.2.2.1⟩, hw.2.2.2.1.F ht⟩) hw.2.2.2.1.2.2 hd hlk
end XR2
section
variable {l : Launch} {G : va_G} {ty : xT}
/-- a method's contract out of the walk of its body -/
theorem x_bodyF {y : MethodName} {wy wy' : List Cond} {rm : Room} {sz mc ms : Nat} {av : List Value} {W0 : va_W} {Qc : Array Value → State → Outcome → State → Prop} {free : Addr → Prop} {cc : ByteArray} {maxL : Nat} {ret : Option FieldType}
    (hy : plainFor y = true) (hwy : wy = Cond.code y cc maxL ret :: wy') (hmx : (lg_sl av).length ≤ maxL)
    (body : ∀ (p : Program) (e : Env) (s : State) (m : MethodId) (below : List Frame) (meth : Method) (c : Code), CallFix p m c cc maxL s av.toArray wy y.cls → meth.sig.returnType = ret → meth.locks = false → meth.name = y.name → s.heap.size = sz →
      xW G ty (va_A W0 s.heap.size) s.heap s W0 s.heap [] → ∀ ls : Array Slot, lv_has ls maxL (lv_args 0 av) → W p l e rm s m av.toArray below meth c s.heap [] 0 0 (MQ below Qc av.toArray s mc ms free) (F0 m 0 ls [])) :
    Met l y wy rm (xPc G ty sz av W0) Qc mc ms free := by
  refine va_MetF (cc := cc) (maxL := maxL) (ret := ret) hy hwy ?_
  intro p e s m args below meth c s₁ B hml hv
  obtain ⟨rfl, hsz, hP, hK, hD0⟩ := hv
  have hl := lv_entry av (n := maxL) hmx
  rw [lg_entry_eq]
  exact body p e s m below meth c ⟨B.exec, B.bytes, hml, findClass_of_methodNamed B.named, atoms_spec (ws := wy) B.pre⟩ B.returns B.notSynchronized (name_of_methodNamed B.named B.method).1 hsz ⟨hK, hP, hD0.self, va_S.rf, fun q h => Or.inr h⟩ _ hl
end
/-- the remainder by 128 and the sign of k -/
theorem rem128 (k : Int64) : (k - k / 128 * 128).toInt = k.toInt.tmod 128 := by
  have hd : (k / 128).toInt = k.toInt.tdiv 128 := by
    rw [Int64.toInt_div]
    show (k.toInt.tdiv 128).bmod (2 ^ 64) = _
    obtain ⟨h1, h2⟩ := (⟨Int64.le_toInt k, Int64.toInt_lt k⟩ : -9223372036854775808 ≤ k.toInt ∧ k.toInt < 9223372036854775808)
    have h3 : k.toInt.tdiv 128 * 128 + k.toInt.tmod 128 = k.toInt := Int.tdiv_mul_add_tmod _ _
    have h4 := Int.tmod_lt_of_pos k.toInt (show (0 : Int) < 128 by decide)
    have h5 := Int.lt_tmod_of_pos k.toInt (show (0 : Int) < 128 by decide)
    exact Int.bmod_eq_of_le (by omega) (by omega)
  have h1 := Int64.le_toInt k
  have h2 := Int64.toInt_lt k
  have h3 : k.toInt.tdiv 128 * 128 + k.toInt.tmod 128 = k.toInt := Int.tdiv_mul_add_tmod _ _
  have h4 := Int.tmod_lt_of_pos k.toInt (show (0 : Int) < 128 by decide)
  have h5 := Int.lt_tmod_of_pos k.toInt (show (0 : Int) < 128 by decide)
  have h6 : k.toInt.tdiv 128 * 128 < 9223372036854775808 ∧ -9223372036854775808 ≤ k.toInt.tdiv 128 * 128 := by
    rcases Int.le_total 0 k.toInt with q | q
    · have := Int.tmod_nonneg 128 q
      have := Int.tdiv_nonneg q (show (0 : Int) ≤ 128 by decide)
      omega
    · have : k.toInt.tmod 128 ≤ 0 := by
        have e := Int.neg_tmod k.toInt 128
        have := Int.tmod_nonneg 128 (show 0 ≤ -k.toInt by omega)
        omega
      omega
  have hm : (k / 128 * 128).toInt = k.toInt.tdiv 128 * 128 := by
    rw [Int64.toInt_mul, hd]
    exact Int.bmod_eq_of_le (by simpa using h6.2) (by simpa using h6.1)
  rw [Int64.toInt_sub, hm]
  rw [show k.toInt - k.toInt.tdiv 128 * 128 = k.toInt.tmod 128 by omega]
  exact Int.bmod_eq_of_le (by omega) (by omega)
theorem xor128 (k : Int64) : (0 ≤ k ^^^ 128) ↔ 0 ≤ k := by
  have e1 : ∀ z : Int64, (0 ≤ z) ↔ z.toBitVec.msb = false := fun z => by
    rw [Int64.le_iff_toBitVec_sle]
    show BitVec.sle 0#64 z.toBitVec = true ↔ _
    rw [BitVec.sle_eq_not_slt, BitVec.slt_zero_eq_msb]
    simp
  rw [e1, e1, show (k ^^^ 128).toBitVec = k.toBitVec ^^^ (128 : Int64).toBitVec from rfl, BitVec.msb_xor, show (128 : Int64).toBitVec.msb = false by decide, Bool.xor_false]
theorem rem_nonneg {k : Int64} (h : 0 ≤ k) : ¬ k - k / 128 * 128 < 0 := by
  rw [Int64.lt_iff_toInt_lt, rem128]
  have := Int.tmod_nonneg 128 (show 0 ≤ k.toInt from Int64.le_iff_toInt_le.mp h)
  show ¬ _ < (0 : Int)
  omega
theorem fm_a {k : Int64} (c : 0 ≤ k ^^^ 128) : (if k - k / 128 * 128 < 0 then k - k / 128 * 128 + 128 else k - k / 128 * 128) = k - k / 128 * 128 := if_neg (rem_nonneg ((xor128 k).mp c))
theorem fm_b {k : Int64} (c : k - k / 128 * 128 = 0) : (if k - k / 128 * 128 < 0 then k - k / 128 * 128 + 128 else k - k / 128 * 128) = k - k / 128 * 128 := if_neg (by rw [c]; decide)
theorem fm_c {k : Int64} (c : ¬ 0 ≤ k ^^^ 128) (c2 : ¬ k - k / 128 * 128 = 0) : (if k - k / 128 * 128 < 0 then k - k / 128 * 128 + 128 else k - k / 128 * 128) = k - k / 128 * 128 + 128 := by
  refine if_pos ?_
  have hk : ¬ 0 ≤ k := fun h => c ((xor128 k).mpr h)
  rw [Int64.lt_iff_toInt_lt, rem128]
  have h1 : k.toInt < 0 := by
    have := mt Int64.le_iff_toInt_le.mpr hk
    have h2 : ¬ (0 : Int) ≤ k.toInt := this
    omega
  have h2 : ¬ k.toInt.tmod 128 = 0 := fun h => c2 (Int64.toInt_inj.mp (by rw [rem128, h]; rfl))
  have h3 : k.toInt.tmod 128 ≤ 0 := by
    have e := Int.neg_tmod k.toInt 128
    have := Int.tmod_nonneg 128 (show 0 ≤ -k.toInt by omega)
    omega
  show _ < (0 : Int)
  omega
