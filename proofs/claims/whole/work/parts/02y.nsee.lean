/-! NoSuchElementException's constructor has bytes of its own (its super constructor stands at 13 in its pool). What a throw of it does, out of the library's laws of Throwable's parts. -/
/-- the words of such a throw: the library's for an exception of one's own, but for the class's own constructor -/
def wy_words (own : String) (ic : Nat) (X : String) (ix : Nat) (rx : ByteArray) (names : List String) : List Cond :=
  (Bundle.ownAtoms own ic X names).filter (fun w => decide (w ∉ Bundle.passSAtoms X (names.headD Bundle.tN) 7 Bundle.six)) ++ Bundle.passSAtoms X (names.headD Bundle.tN) ix rx
def wy_at (own : String) (ic : Nat) (X : String) (ix : Nat) (rx : ByteArray) (names : List String) : List Cond := (wy_words own ic X ix rx names).filter vx_no
abbrev wyE : String := "java/util/NoSuchElementException"
abbrev wyR : String := "java/lang/RuntimeException"
abbrev wyU : List String := [wyR, "java/lang/Exception"]
def wyW : List Cond := wy_words "TimerRows" 131 wyE 13 prog_18_method_4_code wyU
theorem wy_i1 : ∀ w ∈ Bundle.throwableAtoms, w ∈ wyW := by decide +kernel
theorem wy_i2 : ∀ w ∈ Bundle.throwableSAtoms, w ∈ wyW := by decide +kernel
theorem wy_i3 : ∀ w ∈ Bundle.passSAtoms wyE wyR 13 prog_18_method_4_code, w ∈ wyW := by decide +kernel
theorem wy_i4 : ∀ w ∈ Bundle.chainSAtoms wyR ["java/lang/Exception"], w ∈ wyW := by decide +kernel
section WY
variable {p : Program} {l : Launch} {e : Env} {R : Room} {s : State} {m : MethodId} {args : Array Value} {below : List Frame} {meth : Method} {c : Code} {W : State} {cells slots : Nat} {pl : Platform} {T : ThrowableC} {Z0 : Init0T}
/-- the three constructors that hand the text on to Throwable's, this class's first -/
theorem wy_three (hpl : pl.magicAccessors = ({} : Platform).magicAccessors) (h : ∀ w ∈ wyW, w.before args s = true) {top : MethodId} (htop : s.methodNamed? (Bundle.initS Bundle.tN) = some top) :
    ∃ P P2 P3 : PassC, (∀ Q ∈ [P, P2, P3], Q.LinksS pl s) ∧ PassesOn top ([P, P2, P3].map (·.toPassT)) ∧ s.methodNamed? (Bundle.initS wyE) = some P.m := by
  obtain ⟨P, p1, p2, p3⟩ := PassC.ofS_atoms (args := args) (s := s) hpl (X := wyE) (Y := wyR) (index := 13) (bytes := prog_18_method_4_code) (by decide +kernel) (by decide +kernel) (by decide +kernel) (by decide +kernel) (by decide +kernel) (by decide +kernel) (fun w hw => h w (wy_i3 w hw))
  obtain ⟨P2, rest, n1, n2, n3, n4, n5, n6⟩ := Bundle.chainS (args := args) (s := s) hpl htop ["java/lang/Exception"] wyR (by decide +kernel) (by decide +kernel) (fun w hw => h w (wy_i4 w hw))
  obtain ⟨P3, rfl⟩ := List.length_eq_one_iff.mp (show rest.length = 1 from n1)
  refine ⟨P, P2, P3, fun Q hQ => ?_, ⟨Option.some.inj (p3.symm.trans n4), n5, n6⟩, p2⟩
  rcases List.mem_cons.mp hQ with t | hQ
  · rw [t]; exact p1
  rcases List.mem_cons.mp hQ with t | hQ
  · rw [t]; exact n2
  · exact n3 _ hQ
/-- a method that the class has from above is the one that is taken -/
theorem wy_pick (ha : l.admits e) {C : String} {k : ClassId} {y : MethodName} {q : MethodId} (hC : s.vm.findClass C = some k) (hy : s.methodNamed? y = some q) (hno : y.cls ≠ "java/lang/invoke/MethodHandle" ∧ y.cls ≠ "java/lang/invoke/VarHandle") (hw : (Cond.selects C y y).before args s = true) : selectMethod e.platform s.vm k q = .method q := by
  obtain ⟨k2, r2, q2, z1, z2, z3, z4, -⟩ := Cond.selects_spec hw
  have t1 : k2 = k := Option.some.inj (z1.symm.trans hC)
  have t2 : r2 = q := Option.some.inj (z2.symm.trans (State.methodFound?_of_named hy hno))
  have t3 : q2 = q := Option.some.inj (z3.symm.trans hy)
  rw [t1, t2, t3] at z4
  exact (Launch.admits_selectMethod ha s.vm k q).trans z4
/-- a new object's field takes a value of its type -/
theorem wy_takes {C O nm ds : String} {k k2 i : Nat} {kc kc2 : Class} {f : Field} {v : Value} (hC : s.vm.findClass C = some k) (hk : s.vm.classes[k]? = some kc) (ho : kc.kind = .ordinary) (hf : s.fieldFound? O nm ds = some (k2, kc2, i, f)) (hw : (Cond.lays C O nm ds).before args s = true) (hv : fits f.type v = true) : Takes s (freshCell k kc) f v :=
  Takes.of_laid hk ho (Cond.laysAt hC hk hf hw).1 hv
/-- a new object's backtrace is null, also behind the three writes of Throwable's constructor -/
theorem wy_skip (hpl : pl.magicAccessors = ({} : Platform).magicAccessors) (L : T.Links pl s) (Y : Bundle.Ties T Z0 s) (h : ∀ w ∈ wyW, w.before args s = true) {k : ClassId} {kc : Class} (hC : s.vm.findClass wyE = some k) (hk : s.vm.classes[k]? = some kc) (a : Addr) (u0 sen : RefV) (who : ThreadId) :
    SkipFacts T pl s (fun u => u) u0 ((preparedCellV T.toThrowableT (freshCell k kc) a u0 sen).withEntry who) := by
  obtain ⟨ci, i, f, f1, f2, f3, f4, -, fn, ft, ff⟩ := Cond.ownField (t := .object "java/lang/Object") Y.found L.cls (by decide +kernel) (h (.fieldLink Bundle.tN 198 Bundle.tN "backtrace" "Ljava/lang/Object;") (by decide +kernel)) (h (.lays Bundle.tN Bundle.tN "backtrace" "Ljava/lang/Object;") (by decide +kernel)) pl hpl
  have own := Cond.laysAt hC hk ff (h (.lays wyE Bundle.tN "backtrace" "Ljava/lang/Object;") (by decide +kernel))
  have far : ∀ {nm ds : String} {k2 j : Nat} {kc2 : Class} {g : Field}, s.fieldFound? Bundle.tN nm ds = some (k2, kc2, j, g) → (Cond.lays wyE Bundle.tN nm ds).before args s = true → g.name ≠ "backtrace" → g.slot ≠ f.slot := fun hg hw hne => by
    obtain ⟨-, d1, p1, q1⟩ := Cond.laysAt hC hk hg hw
    obtain ⟨-, d2, p2, q2⟩ := own
    exact Cond.laysApart p1 p2 q1 q2 (by rw [fn]; exact hne)
  have s1 := far Y.cause (h _ (by decide +kernel)) (by rw [Y.causeName]; decide)
  have s2 := far Y.stack (h _ (by decide +kernel)) (by rw [Y.stackName]; decide)
  have s3 := far Y.supp (h _ (by decide +kernel)) (by rw [Y.suppName]; decide)
  have nul := fresh_default (c := k) own.1
  rw [ft] at nul
  refine ⟨⟨ci, i, f⟩, ⟨f1, f2, f3, f4⟩, ?_, fun _ _ => rfl⟩
  show (((((freshCell k kc).slots.setIfInBounds _ _).setIfInBounds _ _).setIfInBounds _ _))[f.slot]? = _
  rw [Array.getElem?_setIfInBounds_ne s3, Array.getElem?_setIfInBounds_ne s2, Array.getElem?_setIfInBounds_ne s1]
  exact nul
/-- Throwable's two statics, as the walk finds them -/
theorem wy_held (X : Stand p l e R s m args below meth c W [] cells slots) (L : T.Links pl s) (Y : Bundle.Ties T Z0 s) (h : ∀ w ∈ wyW, w.before args s = true) :
    ∃ (cs : Cell) (u0 sen : RefV), W.heap[T.aS]? = some cs ∧ T.aS < s.heap.size ∧ cs.vm ≠ .unknown ∧ cs.slots[T.fUnassigned.slot]? = some u0.v ∧ cs.slots[T.fSentinel.slot]? = some sen.v := by
  obtain ⟨c0, z1, z2⟩ := Y.statics
  obtain ⟨u0, g1⟩ := Cond.staticRefV Y.unassigned L.unassignedStatic L.statics z1 z2 (h (.isRef (.static Bundle.tN "UNASSIGNED_STACK" Bundle.steD)) (by decide +kernel))
  obtain ⟨sen, g2⟩ := Cond.staticRefV Y.sentinel L.sentinelStatic L.statics z1 z2 (h (.isRef (.static Bundle.tN "SUPPRESSED_SENTINEL" Bundle.listD)) (by decide +kernel))
  obtain ⟨cs, w1, w2, -, w3⟩ := X.same.2.2.2.2.2 T.aS c0 z1
  refine ⟨cs, u0, sen, w1, (Array.getElem?_eq_some_iff.mp z1).1, fun q => ?_, (w3 _ List.not_mem_nil).trans g1, (w3 _ List.not_mem_nil).trans g2⟩
  rw [w2] at q
  have q : c0.vm = .unknown := q
  rw [q] at z2
  cases z2
set_option maxHeartbeats 4000000 in
/-- the constructor's call and the throw behind it -/
theorem wy_ctor (X : Stand p l e R s m args below meth c W [] cells slots) (hexec : p.tables.exec = Jvm.exec) (htr : e.platform.stackTraces = false) (hown : s.vm.findClass "TimerRows" = some m.cls) (h : ∀ w ∈ wyW, w.before args s = true)
    {a : Addr} {k : ClassId} {kc : Class} (hC : s.vm.findClass wyE = some k) (hk : s.vm.classes[k]? = some kc) (ha : W.heap[a]? = some (freshCell k kc)) (hnew : s.heap.size ≤ a) {msg : Value} (hmsg : msg.isRef = true)
    {g : JFrame} (hg : g.method = m) (hsize : g.locals.size = c.maxLocals) (h1 : g.locked = none) (h2 : g.entered = []) {rest : List Value} (hst : g.stack = msg :: .ref a :: .ref a :: rest)
    (d6 : decode c.code g.pc = .ok (.invokespecial 131, 3)) (d9 : decode c.code (g.pc + 3) = .ok (.athrow, 1)) (hout : ∀ x ∈ c.exceptionTable.toList, covers x (g.pc + 3) = false)
    (hRf : 5 < R.frames) (hRl : 2 * g.monitorRoom + ((Value.ref a :: rest).map fun v => v.category).sum + 81 ≤ R.locals) (hlk : meth.locks = false) :
    ∃ U : State, Steps p.tables e below (W.setTop g) U ∧ U.status = .running ∧ Ended U below (.threw a) ∧ s.WarmedH U.vm ∧ s.sameButNew ({ U with vm := s.vm } : State) [] cells slots ∧
      ∃ ce, U.heap[a]? = some ce ∧ ce.vm = .none ∧ s.vm.findClass wyE = some ce.cls := by
  have pf : e.platform.frameOwnsMonitors = true ∧ e.platform.finalization = false ∧ e.platform.magicAccessors = ({} : Platform).magicAccessors := by rw [X.admits.platform]; exact ⟨rfl, rfl, rfl⟩
  obtain ⟨T, Z0, L, -, Y⟩ := ThrowableC.of_atoms (args := args) (s := s) pf.1 pf.2.1 pf.2.2 (fun w hw => h w (wy_i1 w hw))
  obtain ⟨Z, M, LZ, LM, hZ⟩ := Init0T.ofS_atoms (args := args) pf.2.2 L Y (fun w hw => h w (wy_i2 w hw))
  obtain ⟨P, P2, P3, hP, hon, hPm⟩ := wy_three pf.2.2 h hZ
  have hPc : P.m.cls = k := Option.some.inj ((findClass_of_methodNamed hPm).symm.trans hC)
  obtain ⟨k9, kc9, q1, q2, hord, -, -, -⟩ := Cond.instantiable_spec (h (.instantiable wyE 6) (by decide +kernel))
  have hord : kc.kind = .ordinary := by
    have t1 : k9 = k := Option.some.inj (q1.symm.trans hC)
    rw [t1] at q2
    rw [Option.some.inj (hk.symm.trans q2)]; exact hord
  obtain ⟨cs, u0, sen, b1, b2, b3, b4, b5⟩ := wy_held X L Y h
  obtain ⟨iM, hM⟩ := Y.msg
  obtain ⟨tm, _, _, _, v1, n1, -, -, -, -, -, -, -, hv1, call⟩ := Steps.initColdS (tb := p.tables) (e := e) (below := below) (s := s) (U := W) X.here hexec X.warmed pf.2.2 hown (t := Bundle.initS wyE) rfl rfl (by decide)
    (h (.methodLink "TimerRows" 131 (Bundle.initS wyE)) (by decide +kernel)) (h (.instanceMethod (Bundle.initS wyE)) (by decide +kernel)) (bytes := prog_18_method_4_code) (maxL := 2) (h (.code (Bundle.initS wyE) prog_18_method_4_code 2 none) (by decide +kernel)) (f := g) hg (rest := .ref a :: rest) hst d6
  have htm : tm = P.m := Option.some.inj (n1.symm.trans hPm)
  subst htm
  obtain ⟨v2, X2, run⟩ := (X.noted hv1).ctorMessageOffV hexec (g := { g with stack := .ref a :: rest }) hg hsize T L Z LZ M LM [P, P2, P3] hP hon (u0 := u0) (sen := sen) hmsg (cell := freshCell k kc) (cellS := cs) ha (fun _ => by simp) (by simp) rfl rfl
    (wy_pick X.admits hC Y.fill0 (by decide) (h _ (by decide +kernel))) (wy_pick X.admits hC Y.fill (by decide) (h _ (by decide +kernel))) b1 (fun q => Nat.not_lt.mpr hnew (q ▸ b2)) b3 b4 b5
    (wy_takes hC hk hord Y.cause (h _ (by decide +kernel)) (by rw [Y.causeType]; rfl)) (wy_takes hC hk hord Y.stack (h _ (by decide +kernel)) (by rw [Y.stackType]; exact fits_refV_array _ u0)) (wy_takes hC hk hord Y.supp (h _ (by decide +kernel)) (by rw [Y.suppType]; exact fits_refV_object _ sen)) (wy_takes hC hk hord hM (h _ (by decide +kernel)) (by rw [Y.msgType]; exact fits_refV_object _ ⟨msg, hmsg⟩))
    Y.objLocals (wy_skip pf.2.2 L Y h hC hk a u0 sen _) htr [] d6 hRf hRl
  obtain ⟨go, o1, o2, o3, o4⟩ := X2.athrowLeaves hexec (g := { g with stack := .ref a :: rest, pc := g.pc + 3 }) hg h1 h2 hout rfl d9 hlk
  have hlt : a < ((W.setVm v1).setVm v2).heap.size := (Array.getElem?_eq_some_iff.mp ha).1
  refine ⟨_, call _ (fun w => by rw [doInvoke_state]; exact run _ go), o1, o2, o3, o4.weaken (fun y hy old => ?_) (Nat.le_refl _) (Nat.le_refl _), _, heapAt_setCell_self _ hlt, rfl, hC⟩
  have hy : y.base = a := by
    simp only [List.nil_append, List.mem_cons, List.not_mem_nil, or_false] at hy
    rcases hy with q | q | q | q | q <;> rw [q]
  exact (Nat.not_lt.mpr hnew (hy ▸ old)).elim
end WY
set_option maxHeartbeats 4000000 in
theorem wy_throwS {p : Program} {l : Launch} {e : Env} {R : Room} {s : State} {m : MethodId} {args : Array Value} {below : List Frame} {meth : Method} {c : Code} {H : Heap} {locs : List Loc} {cells slots : Nat} {free : Addr → Prop} {ls : Array Slot} {rest : List Value} {Qc : Array Value → State → Outcome → State → Prop} {XC : String → State → State → Prop} {cc : ByteArray} {pc : Nat} (hexec : p.tables.exec = Jvm.exec) (hb : c.code = cc) (hl : l.stackTraces = false) {own cls text : String} {names : List String} {ik is ic mc ms sa : Nat} {A : Nat → Prop} (eO : own = "TimerRows") (eI : ic = 131) (eC : cls = wyE) (eN : names = wyU)
    (hown : s.vm.findClass own = some m.cls) (hcls : Bundle.fit cls = true) (hnames : ∀ n ∈ names, Bundle.fit n = true)
    (hk : (Cond.classLink own ik cls).before args s = true) (hini : (Cond.initialized cls).before args s = true) (hstr : vk_R own is text sa s) (hat : ∀ w ∈ wy_at own ic cls 13 prog_18_method_4_code names, w.before args s = true)
    (hgood : ∀ w ∈ Cond.classLink own ik cls :: Cond.initialized cls :: wy_at own ic cls 13 prog_18_method_4_code names, vx_ot w = true)
    (hU : vx_Zq Bundle.tN "UNASSIGNED_STACK" Bundle.steD A s s.heap) (hN : vx_Zq Bundle.tN "SUPPRESSED_SENTINEL" Bundle.listD A s s.heap) (hS : va_S A s.heap H locs) (hsize : ls.size = c.maxLocals)
    (d0 : decode cc pc = .ok (.new ik, 3)) (d3 : decode cc (pc + 3) = .ok (.dup, 1)) (d4 : decode cc (pc + 4) = .ok (.ldc is, 2)) (d6 : decode cc (pc + 6) = .ok (.invokespecial ic, 3)) (d9 : decode cc (pc + 9) = .ok (.athrow, 1))
    (hout : ∀ x ∈ c.exceptionTable.toList, covers x (pc + 9) = false)
    (hRframes : names.length + 3 < R.frames) (hRlocals : (rest.map fun v => v.category).sum + (13 * (names.length + 1) + 43) ≤ R.locals) (hRcells : cells + 1 ≤ R.cells) (hRslots : slots + 6 ≤ R.slots) (hlocks : meth.locks = false)
    (hx : ∀ t : State, s.vm.Alike t.vm → H.size ≤ t.heap.size → (∀ q : Nat, q < H.size → t.heap[q]? = H[q]?) → XC cls s t)
    (hf : ∀ z ∈ locs, free z.base) (hc : cells + 1 ≤ mc) (hs : slots + 6 ≤ ms) :
    W p l e R s m args below meth c H locs cells slots (vx_MQ below Qc XC args s mc ms free) (F0 m pc ls rest) := by
  subst eO eI eC eN
  intro T hT X
  have htr : e.platform.stackTraces = false := (show e.platform.stackTraces = l.stackTraces by rw [X.admits.platform]).trans hl
  have Y := vx_rebase X (R' := { frames := R.frames, locals := R.locals, cells := 1, slots := 6 }) (Nat.le_refl _) (Nat.le_refl _) hRcells hRslots
  obtain ⟨s', hA⟩ : ∃ z, z = (T.setVm s.vm).setFrames (.invoking m args :: below) := ⟨_, rfl⟩
  rw [← hA] at Y
  have hvm : s'.vm = s.vm := by rw [hA]; rfl
  have hhp : s'.heap = H := by rw [hA]; exact hT
  have hW0 : s.WarmedH s'.vm := by rw [hvm]; exact State.WarmedH.refl s
  have hat' : ∀ w ∈ wy_at "TimerRows" 131 wyE 13 prog_18_method_4_code wyU, w.before args s' = true := fun w hw => vx_ot_at hW0 hvm.symm (hgood w (List.mem_cons_of_mem _ (List.mem_cons_of_mem _ hw))) (hat w hw)
  have hk' : (Cond.classLink "TimerRows" ik wyE).before args s' = true := vx_ot_at hW0 hvm.symm (hgood _ List.mem_cons_self) hk
  have hini' : (Cond.initialized wyE).before args s' = true := vx_ot_at hW0 hvm.symm (hgood _ (List.mem_cons_of_mem _ List.mem_cons_self)) hini
  have hU' : vx_Zq Bundle.tN "UNASSIGNED_STACK" Bundle.steD A s' s'.heap := by rw [hhp]; exact vx_Zq.moved hW0.alike (hU.kept hS.2.1)
  have hN' : vx_Zq Bundle.tN "SUPPRESSED_SENTINEL" Bundle.listD A s' s'.heap := by rw [hhp]; exact vx_Zq.moved hW0.alike (hN.kept hS.2.1)
  have h : ∀ w ∈ wy_words "TimerRows" 131 wyE 13 prog_18_method_4_code wyU, w.before args s' = true := vx_own hat' (vx_isRefq hU'.1) (vx_isRefq hN'.1) hU'.2.word hN'.2.word
  have hown' : s'.vm.findClass "TimerRows" = some m.cls := by rw [hvm]; exact hown
  have hins : (Cond.instantiable wyE 6).before args s' = true := h _ (by decide +kernel)
  obtain ⟨vm₁, cX, kX, hfX, hkX, -, -, X₁, st1⟩ := Y.newCold hexec (own := "TimerRows") (C := wyE) (index := ik) (n := 6) hown' hk' hins hini'
    (g := F0 m pc ls rest) rfl (by rw [hb]; exact d0) (Nat.le_refl _) (Nat.le_refl _)
  generalize hT1 : (T.setVm vm₁).pushCell { cls := cX, slots := kX.instanceTypes.map defaultValue, vm := .none } = T1 at X₁ st1
  have hcat : (Value.ref T.heap.size).category = 1 := rfl
  have hcellA : T1.heap[T.heap.size]? = some (freshCell cX kX) := by rw [← hT1]; exact State.heap_pushCell_size _ _
  have d3' : decode c.code (pc + 3) = .ok (.dup, 1) := by rw [hb]; exact d3
  have d4' : decode c.code (pc + 4) = .ok (.ldc is, 2) := by rw [hb]; exact d4
  have hstr' : vk_R "TimerRows" is text sa s' := vk_R.warm hW0 hstr
  obtain ⟨U, hsteps, hrun, hend, hW, hsame, ce, hce, hOv, hOc⟩ := wy_ctor X₁ hexec htr hown' h hfX hkX hcellA (by rw [hhp, hT]; exact Nat.le_refl _) (msg := .ref sa) rfl
    (g := { method := m, pc := pc + 6, locals := ls, stack := .ref sa :: .ref T.heap.size :: .ref T.heap.size :: rest, locked := none }) rfl hsize rfl rfl (rest := rest) rfl
    (by rw [hb]; exact d6) (by rw [hb]; exact d9) hout hRframes (by simp only [List.map_cons, List.sum_cons, hcat]; simp only [List.length_cons, List.length_nil] at hRlocals; omega) hlocks
  obtain ⟨f1, f2⟩ := vx_frame hsame
  rw [hhp] at f1 f2
  have hWs : s.WarmedH U.vm := State.WarmedH.trans hW0 hW
  have hcl : s.vm.findClass wyE = some ce.cls := by
    have h9 := hOc
    rw [hvm] at h9
    exact h9
  have hall : s.sameButNew ({ U with vm := s.vm } : State) locs mc ms := by
    subst hA
    obtain ⟨e1, e2⟩ := hsame
    rw [State.setFrames_setFrames] at e1
    have h2 : (T.setVm s.vm).sameButNew ({ U with vm := s.vm } : State) [] (0 + 1) (0 + 6) := ⟨e1, e2⟩
    have h3 := X.same.trans h2
    rw [List.append_nil] at h3
    exact h3.mono hc hs
  refine ⟨U, ?_, .threw T.heap.size, hrun, hend, Or.inr ⟨T.heap.size, rfl, wyE, ce, locs, hx U hWs.alike f1 (fun q hq => f2 q hq (fun z hz => nomatch hz)), hce, hOv, hcl, hWs, hall, hf⟩⟩
  refine st1 _ ?_
  show Steps p.tables e below (T1.setTop { method := m, pc := pc + 3, locals := ls, stack := .ref T.heap.size :: rest, locked := none }) _
  jvm_step X₁.here [X₁.here.top, hexec, d3', Value.category]
  exact X₁.ldcString hexec (own := "TimerRows") (text := text) (index := is) (a := sa) hown' hstr'.1 hstr'.2
    (g := { method := m, pc := pc + 4, locals := ls, stack := .ref T.heap.size :: .ref T.heap.size :: rest, locked := none }) rfl d4' _ hsteps
