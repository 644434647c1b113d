section
-- ===== PART A: goes FIRST, ahead of the names: the tables' words, and 'selects' of the private methods out of them =====
/-- a private method of a class that the tables say can be made, by its rows of tables_1 -/
def lw_okq (q : MethodName × Nat) : Prop := (q.1.cls ≠ "java/lang/invoke/MethodHandle" ∧ q.1.cls ≠ "java/lang/invoke/VarHandle") ∧ Cond.instantiable q.1.cls q.2 ∈ tables_1 ∧ Cond.privateMethod q.1 ∈ tables_1 ∧ Cond.instanceMethod q.1 ∈ tables_1
theorem lw_p0 : lw_okq (⟨"java/lang/Throwable", "fillInStackTrace", "(I)Ljava/lang/Throwable;"⟩, 6) := ⟨⟨by decide +kernel, by decide +kernel⟩, List.mem_of_getElem? (i := 235) (by decide +kernel), List.mem_of_getElem? (i := 233) (by decide +kernel), List.mem_of_getElem? (i := 234) (by decide +kernel)⟩
theorem lw_p1 : lw_okq (⟨"TimerRows$Line", "sortInFirstFree", "()V"⟩, 8) := ⟨⟨by decide +kernel, by decide +kernel⟩, List.mem_of_getElem? (i := 30) (by decide +kernel), List.mem_of_getElem? (i := 301) (by decide +kernel), List.mem_of_getElem? (i := 302) (by decide +kernel)⟩
theorem lw_p2 : lw_okq (⟨"TimerRows$Line", "countAheadOf", "(I)I"⟩, 8) := ⟨⟨by decide +kernel, by decide +kernel⟩, List.mem_of_getElem? (i := 30) (by decide +kernel), List.mem_of_getElem? (i := 305) (by decide +kernel), List.mem_of_getElem? (i := 306) (by decide +kernel)⟩
theorem lw_p3 : lw_okq (⟨"TimerRows$Line", "goesAhead", "(II)Z"⟩, 8) := ⟨⟨by decide +kernel, by decide +kernel⟩, List.mem_of_getElem? (i := 30) (by decide +kernel), List.mem_of_getElem? (i := 309) (by decide +kernel), List.mem_of_getElem? (i := 310) (by decide +kernel)⟩
theorem lw_p4 : lw_okq (⟨"TimerRows", "needTimer", "(I)I"⟩, 4) := ⟨⟨by decide +kernel, by decide +kernel⟩, List.mem_of_getElem? (i := 16) (by decide +kernel), List.mem_of_getElem? (i := 321) (by decide +kernel), List.mem_of_getElem? (i := 322) (by decide +kernel)⟩
theorem lw_p5 : lw_okq (⟨"TimerRows", "doFirstDue", "(IJ)Z"⟩, 4) := ⟨⟨by decide +kernel, by decide +kernel⟩, List.mem_of_getElem? (i := 16) (by decide +kernel), List.mem_of_getElem? (i := 366) (by decide +kernel), List.mem_of_getElem? (i := 367) (by decide +kernel)⟩
theorem lw_p6 : lw_okq (⟨"TimerRows$Log", "grow", "()V"⟩, 6) := ⟨⟨by decide +kernel, by decide +kernel⟩, List.mem_of_getElem? (i := 117) (by decide +kernel), List.mem_of_getElem? (i := 388) (by decide +kernel), List.mem_of_getElem? (i := 389) (by decide +kernel)⟩
theorem lw_p7 : lw_okq (⟨"TimerRowsModel", "begin", "()V"⟩, 18) := ⟨⟨by decide +kernel, by decide +kernel⟩, List.mem_of_getElem? (i := 541) (by decide +kernel), List.mem_of_getElem? (i := 547) (by decide +kernel), List.mem_of_getElem? (i := 548) (by decide +kernel)⟩
theorem lw_p8 : lw_okq (⟨"TimerRowsModel", "many", "(Z)I"⟩, 18) := ⟨⟨by decide +kernel, by decide +kernel⟩, List.mem_of_getElem? (i := 541) (by decide +kernel), List.mem_of_getElem? (i := 626) (by decide +kernel), List.mem_of_getElem? (i := 627) (by decide +kernel)⟩
theorem lw_p9 : lw_okq (⟨"TimerRowsModel", "isGood", "(I)Z"⟩, 18) := ⟨⟨by decide +kernel, by decide +kernel⟩, List.mem_of_getElem? (i := 541) (by decide +kernel), List.mem_of_getElem? (i := 630) (by decide +kernel), List.mem_of_getElem? (i := 631) (by decide +kernel)⟩
theorem lw_p10 : lw_okq (⟨"TimerRowsModel", "add", "(ZIIJJJI)V"⟩, 18) := ⟨⟨by decide +kernel, by decide +kernel⟩, List.mem_of_getElem? (i := 541) (by decide +kernel), List.mem_of_getElem? (i := 634) (by decide +kernel), List.mem_of_getElem? (i := 635) (by decide +kernel)⟩
theorem lw_p11 : lw_okq (⟨"TimerRowsModel", "find", "(I)I"⟩, 18) := ⟨⟨by decide +kernel, by decide +kernel⟩, List.mem_of_getElem? (i := 541) (by decide +kernel), List.mem_of_getElem? (i := 642) (by decide +kernel), List.mem_of_getElem? (i := 643) (by decide +kernel)⟩
theorem lw_p12 : lw_okq (⟨"TimerRowsModel", "take", "(I)V"⟩, 18) := ⟨⟨by decide +kernel, by decide +kernel⟩, List.mem_of_getElem? (i := 541) (by decide +kernel), List.mem_of_getElem? (i := 650) (by decide +kernel), List.mem_of_getElem? (i := 651) (by decide +kernel)⟩
theorem lw_p13 : lw_okq (⟨"TimerRowsModel", "copy", "(II)V"⟩, 18) := ⟨⟨by decide +kernel, by decide +kernel⟩, List.mem_of_getElem? (i := 541) (by decide +kernel), List.mem_of_getElem? (i := 654) (by decide +kernel), List.mem_of_getElem? (i := 655) (by decide +kernel)⟩
theorem lw_p14 : lw_okq (⟨"TimerRowsModel", "leastOf", "(IZJ)I"⟩, 18) := ⟨⟨by decide +kernel, by decide +kernel⟩, List.mem_of_getElem? (i := 541) (by decide +kernel), List.mem_of_getElem? (i := 670) (by decide +kernel), List.mem_of_getElem? (i := 671) (by decide +kernel)⟩
theorem lw_p15 : lw_okq (⟨"TimerRowsModel", "isAhead", "(II)Z"⟩, 18) := ⟨⟨by decide +kernel, by decide +kernel⟩, List.mem_of_getElem? (i := 541) (by decide +kernel), List.mem_of_getElem? (i := 674) (by decide +kernel), List.mem_of_getElem? (i := 675) (by decide +kernel)⟩
def lw_privs_1 : List (MethodName × Nat) := [(⟨"java/lang/Throwable", "fillInStackTrace", "(I)Ljava/lang/Throwable;"⟩, 6), (⟨"TimerRows$Line", "sortInFirstFree", "()V"⟩, 8), (⟨"TimerRows$Line", "countAheadOf", "(I)I"⟩, 8), (⟨"TimerRows$Line", "goesAhead", "(II)Z"⟩, 8), (⟨"TimerRows", "needTimer", "(I)I"⟩, 4), (⟨"TimerRows", "doFirstDue", "(IJ)Z"⟩, 4), (⟨"TimerRows$Log", "grow", "()V"⟩, 6), (⟨"TimerRowsModel", "begin", "()V"⟩, 18), (⟨"TimerRowsModel", "many", "(Z)I"⟩, 18), (⟨"TimerRowsModel", "isGood", "(I)Z"⟩, 18), (⟨"TimerRowsModel", "add", "(ZIIJJJI)V"⟩, 18), (⟨"TimerRowsModel", "find", "(I)I"⟩, 18), (⟨"TimerRowsModel", "take", "(I)V"⟩, 18), (⟨"TimerRowsModel", "copy", "(II)V"⟩, 18), (⟨"TimerRowsModel", "leastOf", "(IZJ)I"⟩, 18), (⟨"TimerRowsModel", "isAhead", "(II)Z"⟩, 18)]
theorem lw_r1 : ∀ q ∈ lw_privs_1, lw_okq q := List.forall_mem_cons.mpr ⟨lw_p0, List.forall_mem_cons.mpr ⟨lw_p1, List.forall_mem_cons.mpr ⟨lw_p2, List.forall_mem_cons.mpr ⟨lw_p3, List.forall_mem_cons.mpr ⟨lw_p4, List.forall_mem_cons.mpr ⟨lw_p5, List.forall_mem_cons.mpr ⟨lw_p6, List.forall_mem_cons.mpr ⟨lw_p7, List.forall_mem_cons.mpr ⟨lw_p8, List.forall_mem_cons.mpr ⟨lw_p9, List.forall_mem_cons.mpr ⟨lw_p10, List.forall_mem_cons.mpr ⟨lw_p11, List.forall_mem_cons.mpr ⟨lw_p12, List.forall_mem_cons.mpr ⟨lw_p13, List.forall_mem_cons.mpr ⟨lw_p14, List.forall_mem_cons.mpr ⟨lw_p15, fun _ h => absurd h List.not_mem_nil⟩⟩⟩⟩⟩⟩⟩⟩⟩⟩⟩⟩⟩⟩⟩⟩
theorem lw_p16 : lw_okq (⟨"TimerRowsModel", "lay", "(II)V"⟩, 18) := ⟨⟨by decide +kernel, by decide +kernel⟩, List.mem_of_getElem? (i := 541) (by decide +kernel), List.mem_of_getElem? (i := 700) (by decide +kernel), List.mem_of_getElem? (i := 701) (by decide +kernel)⟩
def lw_privs_2 : List (MethodName × Nat) := [(⟨"TimerRowsModel", "lay", "(II)V"⟩, 18)]
theorem lw_r2 : ∀ q ∈ lw_privs_2, lw_okq q := List.forall_mem_cons.mpr ⟨lw_p16, fun _ h => absurd h List.not_mem_nil⟩
def lw_privs : List (MethodName × Nat) := lw_privs_1 ++ (lw_privs_2)
def lw_tbl : List Cond := k2_sels lw_privs ++ tables_1
theorem lw_privs_ok : ∀ q ∈ lw_privs, lw_okq q := by
  show ∀ q ∈ lw_privs_1 ++ (lw_privs_2), lw_okq q
  exact List.forall_mem_append.mpr ⟨lw_r1, lw_r2⟩
end
section
/-! A throw that a row of the method's table takes, behind rows that it passes: the library has these laws in a shelf that a round does not import (LESSONS.md); here they are proved over what is imported. -/
section WX
def wx_Finds (e : Env) (s : State) (f : JFrame) (a : Addr) (h : Handler) (vm' : Vm) : Prop :=
  ∀ (Q : Handler → Pre) (E : CtlPost) (d : Bool) (acts : List Action), wp (findHandler f a) Q E e d acts s ↔ Q h d acts (s.setVm vm')
def wx_Passed (pl : Platform) (s₀ : State) (d : ClassId) (pc : Nat) (thrown : ClassId) (y : ExceptionTableEntry) : Prop :=
  covers y pc = false ∨ (y.catchType ≠ 0 ∧ ∃ c, s₀.vm.ClassLinks pl d y.catchType c ∧ s₀.vm.assignable thrown c = false)
theorem wx_go {e : Env} {d : Bool} {acts : List Action} {s : State} {f : JFrame} {a : Addr} {Q : Handler → Pre} {E : CtlPost} {x : ExceptionTableEntry} {t : List ExceptionTableEntry} {c : ClassId} {cell : Cell} (hx : covers x f.pc = true) (h0 : x.catchType ≠ 0)
    (hl : s.vm.ClassLinks e.platform f.method.cls x.catchType c) (hcell : s.heap[a]? = some cell) (hobj : ∀ k, cell.vm ≠ .statics k)
    (hk : ∃ k, s.vm.classes[cell.cls]? = some k) (hc : ∃ k, s.vm.classes[c]? = some k) :
    wp (findHandler.go f a (x :: t)) Q E e d acts s ↔ (if s.vm.assignable cell.cls c = true then Q (.found x.handlerPc) d acts (s.setVm (s.vm.noted f.method.cls x.catchType (.cls c))) else wp (findHandler.go f a t) Q E e d acts (s.setVm (s.vm.noted f.method.cls x.catchType (.cls c)))) := by
  simp only [covers] at hx
  obtain ⟨ha, ht⟩ := (resolveClass_links e.toSetting hl).op (op := VmOp.resolveClass f.method.cls x.catchType) rfl
  have hal : s.vm.Alike (s.vm.noted f.method.cls x.catchType (.cls c)) := (Vm.Alike.refl s.vm).noted _ _ _
  obtain ⟨k1, hk1⟩ := hk
  obtain ⟨k2, hk2⟩ := hc
  obtain ⟨k1', hk1', -⟩ := hal.2.2 _ _ hk1
  obtain ⟨k2', hk2', -⟩ := hal.2.2 _ _ hk2
  have hasg : (s.vm.noted f.method.cls x.catchType (.cls c)).assignable cell.cls c = s.vm.assignable cell.cls c := by rw [hal.assignable]
  cases hv : s.vm.assignable cell.cls c
  · rw [hv] at hasg
    simp [findHandler.go, hx, h0, ha, ht, hcell, hobj, hk1', hk2', hasg, VmOp.dirties, VmOp.acts]
  · rw [hv] at hasg
    simp [findHandler.go, hx, h0, ha, ht, hcell, hobj, hk1', hk2', hasg, VmOp.dirties, VmOp.acts]
theorem wx_through {e : Env} {s₀ : State} {f : JFrame} {a : Addr} {cell : Cell} (hobj : ∀ k, cell.vm ≠ .statics k) (hk0 : ∃ k, s₀.vm.classes[cell.cls]? = some k)
    (x : ExceptionTableEntry) (rest : List ExceptionTableEntry) (hx : covers x f.pc = true) (h0 : x.catchType ≠ 0) {cx : ClassId} (hlx : s₀.vm.ClassLinks e.platform f.method.cls x.catchType cx) (hfit : s₀.vm.assignable cell.cls cx = true) :
    ∀ (pre : List ExceptionTableEntry) (S : State), s₀.WarmedH S.vm → S.heap[a]? = some cell → (∀ y ∈ pre, wx_Passed e.platform s₀ f.method.cls f.pc cell.cls y) →
      ∃ vm', s₀.WarmedH vm' ∧ ∀ (Q : Handler → Pre) (E : CtlPost) (d : Bool) (acts : List Action), wp (findHandler.go f a (pre ++ x :: rest)) Q E e d acts S ↔ Q (.found x.handlerPc) d acts (S.setVm vm') := by
  obtain ⟨k0, hk0⟩ := hk0
  intro pre
  induction pre with
  | nil =>
    intro S hW hcell _
    obtain ⟨k0', hk0', -⟩ := hW.alike.2.2 _ _ hk0
    obtain ⟨dk, _, _, kt, hd, _, _, _, _, hkt, _, hopen⟩ := hlx.here
    obtain ⟨kt', hkt', -⟩ := hW.alike.2.2 _ _ hkt
    refine ⟨_, hW.noted hd hopen (State.rightAt_cls hlx), fun Q E d acts => ?_⟩
    rw [List.nil_append, wx_go hx h0 (hW.classLinks hlx) hcell hobj ⟨k0', hk0'⟩ ⟨kt', hkt'⟩, if_pos (by rw [hW.alike.assignable]; exact hfit)]
  | cons y ys ih =>
    intro S hW hcell hpass
    obtain ⟨k0', hk0', -⟩ := hW.alike.2.2 _ _ hk0
    have hrest : ∀ z ∈ ys, wx_Passed e.platform s₀ f.method.cls f.pc cell.cls z := fun z hz => hpass z (List.mem_cons_of_mem _ hz)
    by_cases hcov : covers y f.pc = true
    · rcases hpass y List.mem_cons_self with h | ⟨hy0, c, hl, hno⟩
      · rw [h] at hcov; cases hcov
      · obtain ⟨dk, _, _, kt, hd, _, _, _, _, hkt, _, hopen⟩ := hl.here
        obtain ⟨kt', hkt', -⟩ := hW.alike.2.2 _ _ hkt
        obtain ⟨vm', hW', hq⟩ := ih (S.setVm (S.vm.noted f.method.cls y.catchType (.cls c))) (hW.noted hd hopen (State.rightAt_cls hl)) hcell hrest
        refine ⟨vm', hW', fun Q E d acts => ?_⟩
        rw [List.cons_append, wx_go hcov hy0 (hW.classLinks hl) hcell hobj ⟨k0', hk0'⟩ ⟨kt', hkt'⟩, if_neg (by rw [hW.alike.assignable, hno]; decide)]
        exact hq Q E d acts
    · obtain ⟨vm', hW', hq⟩ := ih S hW hcell hrest
      refine ⟨vm', hW', fun Q E d acts => ?_⟩
      rw [List.cons_append, W.findHandler_go_skip (by simpa using hcov)]
      exact hq Q E d acts
theorem wx_catchTo {e : Env} {s : State} {a : Addr} {f : JFrame} {r : List Frame} {pc : Nat} {vm' : Vm} (hfind : wx_Finds e s f a (.found pc) vm') :
    (stepThrowing e s a (.java f :: r)).Is ((s.setVm vm').setFrames (.java { f with pc := pc, stack := [.ref a] } :: r)) [] := by
  simp only [stepThrowing, searchFrame, vmDo]
  generalize hr : Sem.go _ e false [] s = res
  obtain ⟨as, rfl, ha⟩ := Sem.eq_ok_of hr (a := Handler.found pc) (s' := s.setVm vm') (acts' := []) (by simp [hfind _ _ _ _])
  exact ⟨rfl, ha⟩
theorem wx_frames (u : State) (vm' : Vm) (F G : List Frame) : ((u.setFrames F).setVm vm').setFrames G = (u.setVm vm').setFrames G := by
  have h1 : (u.setFrames F).setVm vm' = (u.setVm vm').setFrames F := rfl
  rw [h1, State.setFrames_setFrames]
theorem wx_caughtTo {tb : Tables} {e : Env} {s target : State} {g : JFrame} {c : Code} {below : List Frame} {a : Addr} (h : At s g.method c below) {pc : Nat} {vm' : Vm}
    (hfind : wx_Finds e ((s.setTop g).pushFrame (.throwing a)) g a (.found pc) vm') (hrest : Steps tb e below ((s.setVm vm').setTop { g with pc := pc, stack := [.ref a] }) target) :
    Steps tb e below ((s.setTop g).pushFrame (.throwing a)) target := by
  obtain ⟨hgo, hw⟩ := h.throwing a
  refine Steps.head hgo hw ?_
  rw [stepThread_throwing (frames_entered h.top _), (wx_catchTo (s := (s.setTop g).pushFrame (.throwing a)) hfind).1]
  obtain ⟨g₀, hg⟩ := Option.isSome_iff_exists.mp h.top
  obtain ⟨r, hr⟩ := State.topJava?_eq_some.mp hg
  have hr' : (s.setVm vm').frames = .java g₀ :: r := hr
  rw [State.setTop_of_frames _ hr'] at hrest
  rw [hr, List.tail_cons, State.pushFrame, wx_frames, State.setTop_of_frames _ hr, wx_frames]
  exact hrest
theorem wx_caught {p : Program} {l : Launch} {e : Env} {R : Room} {s : State} {m₀ : MethodId} {args : Array Value} {below : List Frame} {meth : Method} {c : Code} {T : State} {locs : List Loc} {cells slots : Nat}
    (X : Stand p l e R s m₀ args below meth c T locs cells slots) (a : Addr) {g : JFrame} (hg : g.method = m₀)
    {cell : Cell} (hcell : T.heap[a]? = some cell) (hobj : ∀ k, cell.vm ≠ .statics k) (hk0 : ∃ k, s.vm.classes[cell.cls]? = some k)
    (pre : List ExceptionTableEntry) (x : ExceptionTableEntry) (rest : List ExceptionTableEntry) (hsplit : c.exceptionTable.toList = pre ++ x :: rest)
    (hpass : ∀ y ∈ pre, wx_Passed e.platform s m₀.cls g.pc cell.cls y) (hx : covers x g.pc = true) (h0 : x.catchType ≠ 0) {cx : ClassId} (hlx : s.vm.ClassLinks e.platform m₀.cls x.catchType cx) (hfit : s.vm.assignable cell.cls cx = true) :
    ∃ vm', Stand p l e R s m₀ args below meth c (T.setVm vm') locs cells slots ∧ Steps p.tables e below ((T.setTop g).pushFrame (.throwing a)) ((T.setVm vm').setTop { g with pc := x.handlerPc, stack := [.ref a] }) := by
  subst hg
  obtain ⟨vm', hW', hq⟩ := wx_through (e := e) (s₀ := s) (f := g) (a := a) hobj hk0 x rest hx h0 hlx hfit pre ((T.setTop g).pushFrame (.throwing a)) X.warmed hcell hpass
  refine ⟨vm', X.noted hW', ?_⟩
  have hm : ((T.setTop g).pushFrame (.throwing a)).vm.method? g.method = some meth := X.method'
  have hf : wx_Finds e ((T.setTop g).pushFrame (.throwing a)) g a (.found x.handlerPc) vm' := fun Q E d acts => by
    rw [W.findHandler_eq hm X.code, hsplit]
    exact hq Q E d acts
  exact wx_caughtTo X.here hf (Steps.refl _)
end WX
end
section
/-! ===== BEGIN words of one list among another's, by their places ===== -/
theorem goodIn_r {big : List Cond} (ws : List Cond) (ps : List Nat) (hp : ws = ps.filterMap (fun i => big[i]?)) (h : ws.all goodWord = true) : GoodIn big ws := by
  intro w hw
  have h1 := List.all_eq_true.mp h w hw
  rw [hp] at hw
  obtain ⟨i, -, hi⟩ := List.mem_filterMap.mp hw
  have hm : w ∈ big := by first | exact List.mem_of_getElem? hi | exact List.getElem?_mem hi
  exact ⟨hm, good_of_word h1⟩
theorem goodIn_app {big a b : List Cond} (ha : GoodIn big a) (hb : GoodIn big b) : GoodIn big (a ++ b) := fun w h => (List.mem_append.mp h).elim (ha w) (hb w)
theorem goodIn_ca {big a b : List Cond} {c : Cond} (ha : GoodIn big (c :: a)) (hb : GoodIn big b) : GoodIn big (c :: (a ++ b)) := fun w h => (List.mem_cons.mp h).elim (fun e => ha w (List.mem_cons.mpr (Or.inl e))) (fun h => (List.mem_append.mp h).elim (fun h => ha w (List.mem_cons.mpr (Or.inr h))) (hb w))
theorem goodIn_sub {big ws : List Cond} (hm : ∀ w ∈ ws, w ∈ big) (h : ws.all goodWord = true) : GoodIn big ws := fun w hw => ⟨hm w hw, good_of_word (List.all_eq_true.mp h w hw)⟩
/-! ===== END ===== -/

/-! ===== BEGIN exceptions that leave a method, and their catching by the caller (launches without stack traces) ===== -/
section VXA
/-! The laws vx_back, vx_callV, vx_callS, vx_callSW, vx_throw0, vx_throwS follow proofs of the library, with one case more: JvmDerived/Free/Laws.lean (Back.of_free), Shelf42/LK1.lean (callV, callS), Shelf/KitTraced.lean (throwNew0V, throwNewS). -/
/-- where a method has thrown q: the class by its name, the cell, what was written, the world -/
def vx_T (XC : String → State → State → Prop) (st : State) (q : Addr) (t : State) (mc ms : Nat) (free : Addr → Prop) : Prop :=
  ∃ (E : String) (ce : Cell) (L : List Loc), XC E st t ∧ t.heap[q]? = some ce ∧ ce.vm = .none ∧ st.vm.findClass E = some ce.cls ∧ st.WarmedH t.vm ∧ st.sameButNew ({ t with vm := st.vm } : State) L mc ms ∧ ∀ z ∈ L, free z.base
def vx_Q (Qc : Array Value → State → Outcome → State → Prop) (XC : String → State → State → Prop) (mc ms : Nat) (free : Addr → Prop) : Array Value → State → Outcome → State → Prop := fun a st o t =>
  (Qc a st o t ∧ ∃ L, FrameEnd st o t L mc ms ∧ ∀ q ∈ L, free q.base) ∨ ∃ q, o = .threw q ∧ vx_T XC st q t mc ms free
/-- a callee that returns or throws -/
def vx_Met (l : Launch) (y : MethodName) (ws : List Cond) (rm : Room) (Pc : Array Value → State → Prop) (Qc : Array Value → State → Outcome → State → Prop) (XC : String → State → State → Prop) (mc ms : Nat) (free : Addr → Prop) : Prop :=
  MetFree l y (headSpec ws rm) Pc (fun _ _ _ _ _ => True) (vx_Q Qc XC mc ms free)
def vx_Post (XC : String → State → State → Prop) (mc ms : Nat) (free : Addr → Prop) : Pt → Array Value → Addr → Pt → Prop := fun A a q B =>
  ∃ (g : JFrame) (mk : MethodId) (t : State) (L : List Loc) (E : String) (ce : Cell), B.U.heap = t.heap ∧ B.U.vm = t.vm ∧ XC E (A.U.calling g mk a) t ∧ t.heap[q]? = some ce ∧ ce.vm = .none ∧ A.U.vm.findClass E = some ce.cls ∧ B.locs = A.locs ++ L ∧ (∀ z ∈ L, free z.base) ∧ B.cells = A.cells + mc ∧ B.slots = A.slots + ms
def vx_Back (l : Launch) (R : Room) (p : Program) (e : Env) (below : List Frame) (s : State) (sargs : Array Value) (y : MethodName) (len W9 : Nat)
    (Pre : Pt → Array Value → Prop) (Post : Pt → Array Value → Option Value → Pt → Prop) (PostX : Pt → Array Value → Addr → Pt → Prop) : Prop :=
  ∀ (m : MethodId) (meth : Method) (c : Code) (A : Pt) (g : JFrame) (ig : Instr) (mk : MethodId) (a : Array Value),
    Stand p l e R s m sargs below meth c A.U A.locs A.cells A.slots → g.method = m → g.locals.size = c.maxLocals → decode c.code g.pc = .ok (ig, len) →
    2 * g.monitorRoom + (g.stack.map fun v => v.category).sum ≤ W9 → A.U.methodNamed? y = some mk → Pre A a →
    (∃ (v : Option Value) (B : Pt), Stand p l e R s m sargs below meth c B.U B.locs B.cells B.slots ∧ Post A a v B ∧
      Steps p.tables e below (doInvoke e (A.U.setTop g) [] mk a).1 (B.U.setTop { g with pc := g.pc + len, stack := v.toList ++ g.stack })) ∨
    (∃ (q : Addr) (B : Pt), Stand p l e R s m sargs below meth c B.U B.locs B.cells B.slots ∧ PostX A a q B ∧
      Steps p.tables e below (doInvoke e (A.U.setTop g) [] mk a).1 ((B.U.setTop g).pushFrame (.throwing q)))
section Payer
variable {l : Launch} {R : Room} {p : Program} {e : Env} {below : List Frame} {s : State} {sargs : Array Value} {y : MethodName} {len W9 : Nat}
theorem vx_back {ws : List Cond} {rm : Room} {Pc : Array Value → State → Prop} {Qc : Array Value → State → Outcome → State → Prop} {XC : String → State → State → Prop} {mc ms : Nat} {free : Addr → Prop} {bytes : ByteArray} {maxL : Nat} {ret : Option FieldType}
    (hM : vx_Met l y ws rm Pc Qc XC mc ms free) (hblind : FrameBlind Pc) (hrc : rm.cells = mc) (hrs : rm.slots = ms)
    (hframes : rm.frames + 1 ≤ R.frames) (hlocals : W9 + (maxL + 11) + rm.locals ≤ R.locals)
    (hws : ∀ w ∈ ws, ∀ a' U, s.WarmedH U.vm → w.before a' U = true) (hcode : Cond.code y bytes maxL ret ∈ ws) (hinit : ∀ a' U, s.WarmedH U.vm → (Cond.initialized y.cls).before a' U = true) :
    vx_Back l R p e below s sargs y len W9 (PreOf R mc ms Pc) (PostOf Qc mc ms free) (vx_Post XC mc ms free) := by
  intro m meth c A g ig mk a X hg hsize hdg hW hn hp
  have h1 : (headSpec ws rm).pre.before a A.U = true := atoms_intro fun w hw => hws w hw _ _ X.warmed
  have h2 : (Cond.code y bytes maxL ret).before a A.U = true := hws _ hcode _ _ X.warmed
  have h3 : (Cond.initialized y.cls).before a A.U = true := hinit _ _ X.warmed
  have h4 : A.cells + (headSpec ws rm).room.cells ≤ R.cells := by rw [show (headSpec ws rm).room.cells = mc from hrc]; exact hp.1
  have h5 : A.slots + (headSpec ws rm).room.slots ≤ R.slots := by rw [show (headSpec ws rm).room.slots = ms from hrs]; exact hp.2.1
  have hPc : Pc a (A.U.calling g mk a) := hblind _ _ _ _ hp.2.2
  obtain ⟨U, Ls, c0, s0⟩ := A
  dsimp only [Pt.U, Pt.locs, Pt.cells, Pt.slots] at h1 h2 h3 h4 h5 X hn hPc ⊢
  obtain ⟨methY, cY, hmY, hcY, -, hlY, -, -, -, -⟩ := Cond.code_spec hn h2
  obtain ⟨kY, hkY, -⟩ := className_of_methodNamed hn
  have hinitY : kY.init = .initialized := Cond.initialized_spec (findClass_of_methodNamed hn) hkY h3
  have h : At U g.method c below := by rw [hg]; exact X.here
  have hlocals9 : W9 + (maxL + 11) + (headSpec ws rm).room.locals ≤ R.locals := hlocals
  have happ : (headSpec ws rm).appliesLoose y e.platform (U.calling g mk a) = true :=
    Spec.appliesLoose_calling (g := g) h hdg hn hkY hinitY
      (X.room_calling (g := g) (R' := (headSpec ws rm).room) hsize hmY hcY hframes (by rw [hlY]; omega) h4 h5) h1
  obtain ⟨mid, hmid⟩ := h.above
  have hfr : (U.setTop g).frames = (.java g :: mid) ++ below := by rw [State.frames_setTop' g h.top, hmid]; rfl
  obtain ⟨o, s₂, hsteps, -, hend, hq⟩ := Steps.callFree hM p X.admits X.cas X.clock (acts := []) hfr happ hPc trivial
  have hq' : vx_Q Qc XC mc ms free a (U.calling g mk a) o s₂ := hq
  rw [State.frames_setTop' g h.top] at hend
  obtain ⟨g₀, hg0⟩ := Option.isSome_iff_exists.mp h.top
  obtain ⟨r, hr⟩ := State.topJava?_eq_some.mp hg0
  have hr' : (({ U with heap := s₂.heap, slotsUsed := s₂.slotsUsed } : State).setVm s₂.vm).frames = .java g₀ :: r := hr
  rcases hq' with ⟨hqc, L, hfe, hL⟩ | ⟨q, rfl, E, ce, L, hx, hce, hcv, hcl, hW₂, hsm, hL⟩
  · obtain ⟨⟨v, rfl⟩, hW₂, e2, q2, q3, q4, q5, q6⟩ := id hfe
    have e3 : s₂ = ({ (U.calling g mk a).setFrames s₂.frames with heap := s₂.heap, slotsUsed := s₂.slotsUsed } : State).setVm s₂.vm := by
      have : s₂ = ({ s₂ with vm := (U.calling g mk a).vm } : State).setVm s₂.vm := rfl
      rw [e2] at this
      exact this
    obtain ⟨c₂, i₂, len₂, hc₂, hd₂, hf₂⟩ := hend
    have hW' : U.WarmedH s₂.vm := hW₂
    have hcc : c₂ = c := by
      have h1 : s₂.code? g.method = U.code? g.method := by
        rw [State.code?_eq, State.code?_eq, hW'.alike.method?]
      exact Option.some.inj (hc₂.symm.trans (h1.trans h.code))
    subst hcc
    have hlen : len₂ = len := by rw [hdg] at hd₂; cases hd₂; rfl
    subst hlen
    have hs₂ : s₂ = (({ U with heap := s₂.heap, slotsUsed := s₂.slotsUsed } : State).setVm s₂.vm).setTop { g with pc := g.pc + len₂, stack := v.toList ++ g.stack } := by
      refine e3.trans ?_
      rw [hf₂, State.calling_eq h.top, State.setFrames_setFrames, State.setTop_of_frames _ hr', hr]
      rfl
    have hsame : U.sameButNew ({ U with heap := s₂.heap, slotsUsed := s₂.slotsUsed } : State) L mc ms := by
      refine ⟨?_, q2, q3, q4, q5, q6⟩
      obtain ⟨t, ht, -⟩ := State.frames_cons hr
      show ({ U with heap := s₂.heap, slotsUsed := s₂.slotsUsed } : State) = { U.setFrames U.frames with heap := s₂.heap, slotsUsed := s₂.slotsUsed }
      rw [State.setFrames_self ht]
    subst hg
    refine Or.inl ⟨v, ⟨(({ U with heap := s₂.heap, slotsUsed := s₂.slotsUsed } : State).setVm s₂.vm), Ls ++ L, c0 + mc, s0 + ms⟩,
      ⟨X.admits, X.cas, X.clock, X.frames, X.room, X.hears, X.method, X.code, (X.here.setHeapUsed s₂.heap s₂.slotsUsed).setVm hW'.alike, X.tail, State.WarmedH.trans X.warmed hW', X.limits, X.bytes, X.same.trans (hsame.setVm s.vm)⟩,
      ⟨g, mk, s₂, L, rfl, rfl, hqc, rfl, hL, rfl, rfl⟩, ?_⟩
    show Steps p.tables e below _ ((({ U with heap := s₂.heap, slotsUsed := s₂.slotsUsed } : State).setVm s₂.vm).setTop { g with pc := g.pc + len₂, stack := v.toList ++ g.stack })
    rw [← hs₂]
    exact hsteps
  · obtain ⟨e2, q2, q3, q4, q5, q6⟩ := id hsm
    have e3 : s₂ = ({ (U.calling g mk a).setFrames s₂.frames with heap := s₂.heap, slotsUsed := s₂.slotsUsed } : State).setVm s₂.vm := by
      have : s₂ = ({ s₂ with vm := (U.calling g mk a).vm } : State).setVm s₂.vm := rfl
      rw [e2] at this
      exact this
    have hf₂ : s₂.frames = .throwing q :: .java g :: U.frames.tail := hend
    have hW' : U.WarmedH s₂.vm := hW₂
    have hs₂ : s₂ = ((({ U with heap := s₂.heap, slotsUsed := s₂.slotsUsed } : State).setVm s₂.vm).setTop g).pushFrame (.throwing q) := by
      refine e3.trans ?_
      rw [hf₂, State.calling_eq h.top, State.setFrames_setFrames, State.pushFrame, State.frames_setTop _ hr', State.setTop_of_frames _ hr', State.setFrames_setFrames, hr]
      rfl
    have hsame : U.sameButNew ({ U with heap := s₂.heap, slotsUsed := s₂.slotsUsed } : State) L mc ms := by
      refine ⟨?_, q2, q3, q4, q5, q6⟩
      obtain ⟨t, ht, -⟩ := State.frames_cons hr
      show ({ U with heap := s₂.heap, slotsUsed := s₂.slotsUsed } : State) = { U.setFrames U.frames with heap := s₂.heap, slotsUsed := s₂.slotsUsed }
      rw [State.setFrames_self ht]
    subst hg
    refine Or.inr ⟨q, ⟨(({ U with heap := s₂.heap, slotsUsed := s₂.slotsUsed } : State).setVm s₂.vm), Ls ++ L, c0 + mc, s0 + ms⟩,
      ⟨X.admits, X.cas, X.clock, X.frames, X.room, X.hears, X.method, X.code, (X.here.setHeapUsed s₂.heap s₂.slotsUsed).setVm hW'.alike, X.tail, State.WarmedH.trans X.warmed hW', X.limits, X.bytes, X.same.trans (hsame.setVm s.vm)⟩,
      ⟨g, mk, s₂, L, E, ce, rfl, rfl, hx, hce, hcv, hcl, rfl, hL, rfl, rfl⟩, ?_⟩
    show Steps p.tables e below _ (((({ U with heap := s₂.heap, slotsUsed := s₂.slotsUsed } : State).setVm s₂.vm).setTop g).pushFrame (.throwing q))
    rw [← hs₂]
    exact hsteps
end Payer
section Calls
variable {p : Program} {l : Launch} {e : Env} {R : Room} {s : State} {m : MethodId} {args : Array Value} {below : List Frame} {meth : Method} {c : Code} {T : State} {locs : List Loc} {cells slots : Nat}
theorem vx_callV (X : Stand p l e R s m args below meth c T locs cells slots) (hexec : p.tables.exec = Jvm.exec) {own C : String} {index : Nat} {y : MethodName} {bytes : ByteArray} {maxL : Nat} {ret : Option FieldType}
    (hown : s.vm.findClass own = some m.cls) (hlink : (Cond.methodLink own index y).before args s = true) (hinst : (Cond.instanceMethod y).before args s = true) (hsel : (Cond.selects C y y).before args s = true)
    (hcode : (Cond.code y bytes maxL ret).before args s = true) (hy : y.cls ≠ "java/lang/invoke/MethodHandle" ∧ y.cls ≠ "java/lang/invoke/VarHandle")
    {W9 : Nat} {Pre : Pt → Array Value → Prop} {Post : Pt → Array Value → Option Value → Pt → Prop} {PostX : Pt → Array Value → Addr → Pt → Prop} (hK : vx_Back l R p e below s args y 3 W9 Pre Post PostX)
    {b : Addr} {cellB : Cell} (hcell : T.heap[b]? = some cellB) (hobj : cellB.vm.isStatics = false) (hcls : s.vm.findClass C = some cellB.cls)
    {g : JFrame} (hg : g.method = m) (hsize : g.locals.size = c.maxLocals) {argsL rest : List Value} (hlen : ∀ sig, parseMethodDescriptor y.desc = some sig → argsL.length = sig.parameters.length)
    (hstack : g.stack = argsL.reverse ++ .ref b :: rest) (hW : 2 * g.monitorRoom + (rest.map fun v => v.category).sum ≤ W9) (hdg : decode c.code g.pc = .ok (.invokevirtual index, 3))
    (hpre : ∀ vm₁, s.WarmedH vm₁ → Pre ⟨T.setVm vm₁, locs, cells, slots⟩ (Value.ref b :: argsL).toArray) :
    (∃ (v : Option Value) (vm₁ : Vm) (B : Pt), s.WarmedH vm₁ ∧ Stand p l e R s m args below meth c B.U B.locs B.cells B.slots ∧ Post ⟨T.setVm vm₁, locs, cells, slots⟩ (Value.ref b :: argsL).toArray v B ∧
      ∀ target, Steps p.tables e below (B.U.setTop { g with pc := g.pc + 3, stack := v.toList ++ rest }) target → Steps p.tables e below (T.setTop g) target) ∨
    (∃ (q : Addr) (vm₁ : Vm) (B : Pt), s.WarmedH vm₁ ∧ Stand p l e R s m args below meth c B.U B.locs B.cells B.slots ∧ PostX ⟨T.setVm vm₁, locs, cells, slots⟩ (Value.ref b :: argsL).toArray q B ∧
      Steps p.tables e below (T.setTop g) ((B.U.setTop { g with stack := rest }).pushFrame (.throwing q))) := by
  obtain ⟨mk, methM, hnamed, hmethM, hstM, habM⟩ := Cond.instanceMethod_spec hinst
  obtain ⟨methM', cM, hmethM', -, -, -, -, -, -, hsigM⟩ := Cond.code_spec hnamed hcode
  cases hmethM.symm.trans hmethM'
  obtain ⟨c2, r2, m2, q1, q2, q3, q4, kP, hkP, hkPi⟩ := Cond.selects_spec hsel
  cases hcls.symm.trans q1
  cases (State.methodFound?_of_named hnamed hy).symm.trans q2
  cases hnamed.symm.trans q3
  have hselP : selectMethod e.platform s.vm cellB.cls mk = .method mk := by rw [Launch.admits_selectMethod X.admits]; exact q4
  obtain ⟨vm₁, X₁, hstep₁⟩ := X.invokevirtual hexec hown hlink hnamed hmethM hstM hkP hkPi hy (a := b) (cell := cellB) hcell
    (fun z h => by rw [h] at hobj; cases hobj) hselP hmethM habM hkP hkPi (g := g) hg (argsL := argsL) (rest := rest) (hlen _ hsigM) hstack hdg
  rcases hK m meth c ⟨T.setVm vm₁, locs, cells, slots⟩ { g with stack := rest } (.invokevirtual index) mk (Value.ref b :: argsL).toArray X₁ hg hsize hdg hW (X₁.named hnamed) (hpre vm₁ X₁.warmed) with ⟨v, B, X', hpost, hsteps⟩ | ⟨q, B, X', hpost, hsteps⟩
  · exact Or.inl ⟨v, vm₁, B, X₁.warmed, X', hpost, fun target h => hstep₁ _ fun acts => by rw [doInvoke_state]; exact hsteps.trans h⟩
  · exact Or.inr ⟨q, vm₁, B, X₁.warmed, X', hpost, hstep₁ _ fun acts => by rw [doInvoke_state]; exact hsteps⟩
theorem vx_callS (X : Stand p l e R s m args below meth c T locs cells slots) (hexec : p.tables.exec = Jvm.exec) {own : String} {index : Nat} {y : MethodName} {bytes : ByteArray} {maxL : Nat} {ret : Option FieldType}
    (hown : s.vm.findClass own = some m.cls) (hlink : (Cond.methodLink own index y).before args s = true) (hstat : (Cond.static y).before args s = true) (hinit : (Cond.initialized y.cls).before args s = true)
    (hcode : (Cond.code y bytes maxL ret).before args s = true) (hy : y.cls ≠ "java/lang/invoke/MethodHandle" ∧ y.cls ≠ "java/lang/invoke/VarHandle")
    {W9 : Nat} {Pre : Pt → Array Value → Prop} {Post : Pt → Array Value → Option Value → Pt → Prop} {PostX : Pt → Array Value → Addr → Pt → Prop} (hK : vx_Back l R p e below s args y 3 W9 Pre Post PostX)
    {g : JFrame} (hg : g.method = m) (hsize : g.locals.size = c.maxLocals) {argsL rest : List Value} (hlen : ∀ sig, parseMethodDescriptor y.desc = some sig → argsL.length = sig.parameters.length)
    (hstack : g.stack = argsL.reverse ++ rest) (hW : 2 * g.monitorRoom + (rest.map fun v => v.category).sum ≤ W9) (hdg : decode c.code g.pc = .ok (.invokestatic index, 3))
    (hpre : ∀ vm₁, s.WarmedH vm₁ → Pre ⟨T.setVm vm₁, locs, cells, slots⟩ argsL.toArray) :
    (∃ (v : Option Value) (vm₁ : Vm) (B : Pt), s.WarmedH vm₁ ∧ Stand p l e R s m args below meth c B.U B.locs B.cells B.slots ∧ Post ⟨T.setVm vm₁, locs, cells, slots⟩ argsL.toArray v B ∧
      ∀ target, Steps p.tables e below (B.U.setTop { g with pc := g.pc + 3, stack := v.toList ++ rest }) target → Steps p.tables e below (T.setTop g) target) ∨
    (∃ (q : Addr) (vm₁ : Vm) (B : Pt), s.WarmedH vm₁ ∧ Stand p l e R s m args below meth c B.U B.locs B.cells B.slots ∧ PostX ⟨T.setVm vm₁, locs, cells, slots⟩ argsL.toArray q B ∧
      Steps p.tables e below (T.setTop g) ((B.U.setTop { g with stack := rest }).pushFrame (.throwing q))) := by
  obtain ⟨mk, hnamed⟩ := Cond.code_named hcode
  obtain ⟨methM, cM, hmethM, -, -, -, -, -, -, hsigM⟩ := Cond.code_spec hnamed hcode
  have hstatic : methM.isStatic = true := Cond.static_spec hnamed hmethM hstat
  obtain ⟨kP, hkP, -⟩ := className_of_methodNamed hnamed
  have hinitP : kP.init = .initialized := Cond.initialized_spec (findClass_of_methodNamed hnamed) hkP hinit
  obtain ⟨vm₁, X₁, hstep₁⟩ := X.invokestatic hexec hown hlink hnamed hmethM hstatic hkP hinitP hy (g := g) hg (argsL := argsL) (rest := rest) (hlen _ hsigM) hstack hdg
  rcases hK m meth c ⟨T.setVm vm₁, locs, cells, slots⟩ { g with stack := rest } (.invokestatic index) mk argsL.toArray X₁ hg hsize hdg hW (X₁.named hnamed) (hpre vm₁ X₁.warmed) with ⟨v, B, X', hpost, hsteps⟩ | ⟨q, B, X', hpost, hsteps⟩
  · exact Or.inl ⟨v, vm₁, B, X₁.warmed, X', hpost, fun target h => hstep₁ _ fun acts => by rw [doInvoke_state]; exact hsteps.trans h⟩
  · exact Or.inr ⟨q, vm₁, B, X₁.warmed, X', hpost, hstep₁ _ fun acts => by rw [doInvoke_state]; exact hsteps⟩
end Calls
theorem vx_cls {s : State} {T : State} {vm₁ : Vm} {E : String} {k : ClassId} (hW : s.WarmedH vm₁) (h : (T.setVm vm₁).vm.findClass E = some k) : s.vm.findClass E = some k := by
  have h1 : vm₁.findClass E = some k := h
  rw [hW.alike.findClass] at h1
  exact h1
/-- the method's frame g, with q thrown over it -/
def vx_W (p : Program) (l : Launch) (e : Env) (R : Room) (s : State) (m : MethodId) (args : Array Value) (below : List Frame) (meth : Method) (c : Code) (H : Heap) (locs : List Loc) (cells slots : Nat) (Q : State → Prop) (g : JFrame) (q : Addr) : Prop :=
  ∀ T : State, T.heap = H → Stand p l e R s m args below meth c T locs cells slots → ∃ t, Steps p.tables e below ((T.setTop g).pushFrame (.throwing q)) t ∧ Q t
def vx_Run (p : Program) (l : Launch) (e : Env) (R : Room) (s : State) (m : MethodId) (args : Array Value) (below : List Frame) (meth : Method) (c : Code) (H : Heap) (locs : List Loc) (cells slots mc ms : Nat) (g : JFrame) (rest : List Value) (Qa : State → Outcome → State → Prop) (XC : String → State → State → Prop) (free : Addr → Prop) : Prop :=
  ∀ T : State, T.heap = H → Stand p l e R s m args below meth c T locs cells slots →
    (∃ (v : Option Value) (st₀ t T' : State) (L : List Loc), st₀.heap = H ∧ Stand p l e R s m args below meth c T' (locs ++ L) (cells + mc) (slots + ms) ∧ (∀ q ∈ L, free q.base) ∧ T'.heap = t.heap ∧ T'.vm = t.vm ∧ Qa st₀ (.returned v) t ∧
      Goes p e below T g T' { g with pc := g.pc + 3, stack := v.toList ++ rest }) ∨
    (∃ (q : Addr) (st₀ t T' : State) (L : List Loc) (E : String) (ce : Cell), st₀.heap = H ∧ Stand p l e R s m args below meth c T' (locs ++ L) (cells + mc) (slots + ms) ∧ (∀ z ∈ L, free z.base) ∧ T'.heap = t.heap ∧ T'.vm = t.vm ∧ XC E st₀ t ∧ t.heap[q]? = some ce ∧ ce.vm = .none ∧ s.vm.findClass E = some ce.cls ∧
      Steps p.tables e below (T.setTop g) ((T'.setTop { g with stack := rest }).pushFrame (.throwing q)))
def vx_X {S : Type} (px : S → Prop) (B : String → S → State → Prop) (A : Nat → Prop) : String → State → State → Prop := fun E st t => ∃ u : S, px u ∧ B E u t ∧ va_F A st t
section Runs
variable {p : Program} {l : Launch} {e : Env} {R : Room} {s : State} {m : MethodId} {args : Array Value} {below : List Frame} {meth : Method} {c : Code} {H : Heap} {locs : List Loc} {cells slots : Nat}
variable {y : MethodName} {bytes cc : ByteArray} {maxL nL mc ms n index : Nat} {ret : Option FieldType} {ws : List Cond} {rm : Room} {Pc : Array Value → State → Prop} {Qc : Array Value → State → Outcome → State → Prop} {XC : String → State → State → Prop} {free : Addr → Prop} {Ts : List Cond} {own C : String} {b : Addr} {As rest : List Value} {g : JFrame}
theorem vx_callBack (cb : CallB R s args own index y bytes maxL ret ws rm mc ms n) (hM : vx_Met l y ws rm Pc Qc XC mc ms free) (hbl : FrameBlind Pc) : vx_Back l R p e below s args y 3 8 (PreOf R mc ms Pc) (PostOf Qc mc ms free) (vx_Post XC mc ms free) := by
  obtain ⟨hrc, hrs, hfr, hlo, hws, hcw, -, hini, -⟩ := cb
  exact vx_back (bytes := bytes) (maxL := maxL) (ret := ret) hM hbl hrc hrs hfr hlo hws hcw (fun a' U hW => word_at hW (Or.inl (by first | rfl | simp [Cond.onTables, Cond.keeps, Cond.steady])) hini)
theorem vx_runV (S : CallFix p m c cc nL s args Ts own) (hM : vx_Met l y ws rm Pc Qc XC mc ms free) (cw : CallW R s args own C index y bytes maxL ret ws rm mc ms n) (hp : PreV s H C b Pc As)
    (hg : g.method = m) (hn : As.length = n) (hsize : g.locals.size = nL) (hstack : g.stack = As.reverse ++ .ref b :: rest) (hW : 2 * g.monitorRoom + (rest.map fun v => v.category).sum ≤ 8) (hdg : decode cc g.pc = .ok (.invokevirtual index, 3)) (hf : cells + mc ≤ R.cells ∧ slots + ms ≤ R.slots) :
    vx_Run p l e R s m args below meth c H locs cells slots mc ms g rest (Qc (Value.ref b :: As).toArray) XC free := by
  have hK : vx_Back l R p e below s args y 3 8 (PreOf R mc ms Pc) (PostOf Qc mc ms free) (vx_Post XC mc ms free) := vx_callBack cw.1 hM hp.1
  obtain ⟨⟨-, -, -, -, -, -, hcode, -, hy, hlen, hl⟩, hin, hse⟩ := cw
  obtain ⟨hx, hb, hml, ho, -⟩ := S
  obtain ⟨-, ⟨cellB, hcB, hoB, hclB⟩, hPc⟩ := hp
  intro T hT X
  rcases vx_callV X hx (C := C) (bytes := bytes) (maxL := maxL) (ret := ret) ho hl hin hse hcode hy hK (by rw [hT]; exact hcB) hoB hclB hg (hsize.trans hml.symm) (argsL := As) (rest := rest) (fun sig h => hn.trans (hlen sig h)) hstack hW (by rw [hb]; exact hdg)
    (fun vm₁ hW₁ => ⟨hf.1, hf.2, hPc (T.setVm vm₁) hT hW₁⟩) with ⟨v, vm₁, ⟨U', l2, c2, s2⟩, hW₁, X', ⟨g', mk, t, L, e1, e2, hq, h1, hL, h2, h3⟩, st⟩ | ⟨q, vm₁, ⟨U', l2, c2, s2⟩, hW₁, X', ⟨g', mk, t, L, E, ce, e1, e2, hq, hce, hcv, hcl, h1, hL, h2, h3⟩, st⟩
  · dsimp only [Pt.U, Pt.locs, Pt.cells, Pt.slots] at X' e1 e2 h1 h2 h3 st
    subst h1; subst h2; subst h3
    exact Or.inl ⟨v, (T.setVm vm₁).calling g' mk (Value.ref b :: As).toArray, t, U', L, hT, X', hL, e1, e2, hq, st⟩
  · dsimp only [Pt.U, Pt.locs, Pt.cells, Pt.slots] at X' e1 e2 h1 h2 h3 st hcl
    subst h1; subst h2; subst h3
    exact Or.inr ⟨q, (T.setVm vm₁).calling g' mk (Value.ref b :: As).toArray, t, U', L, E, ce, hT, X', hL, e1, e2, hq, hce, hcv, vx_cls hW₁ hcl, st⟩
theorem vx_runS (S : CallFix p m c cc nL s args Ts own) (hM : vx_Met l y ws rm Pc Qc XC mc ms free) (cw : CallB R s args own index y bytes maxL ret ws rm mc ms n ∧ (Cond.static y).before args s = true) (hp : PreS s H Pc As)
    (hg : g.method = m) (hn : As.length = n) (hsize : g.locals.size = nL) (hstack : g.stack = As.reverse ++ rest) (hW : 2 * g.monitorRoom + (rest.map fun v => v.category).sum ≤ 8) (hdg : decode cc g.pc = .ok (.invokestatic index, 3)) (hf : cells + mc ≤ R.cells ∧ slots + ms ≤ R.slots) :
    vx_Run p l e R s m args below meth c H locs cells slots mc ms g rest (Qc As.toArray) XC free := by
  have hK : vx_Back l R p e below s args y 3 8 (PreOf R mc ms Pc) (PostOf Qc mc ms free) (vx_Post XC mc ms free) := vx_callBack cw.1 hM hp.1
  obtain ⟨⟨-, -, -, -, -, -, hcode, hini, hy, hlen, hl⟩, hstt⟩ := cw
  obtain ⟨hx, hb, hml, ho, -⟩ := S
  intro T hT X
  rcases vx_callS X hx (bytes := bytes) (maxL := maxL) (ret := ret) ho hl hstt hini hcode hy hK hg (hsize.trans hml.symm) (argsL := As) (rest := rest) (fun sig h => hn.trans (hlen sig h)) hstack hW (by rw [hb]; exact hdg)
    (fun vm₁ hW₁ => ⟨hf.1, hf.2, hp.2 (T.setVm vm₁) hT hW₁⟩) with ⟨v, vm₁, ⟨U', l2, c2, s2⟩, hW₁, X', ⟨g', mk, t, L, e1, e2, hq, h1, hL, h2, h3⟩, st⟩ | ⟨q, vm₁, ⟨U', l2, c2, s2⟩, hW₁, X', ⟨g', mk, t, L, E, ce, e1, e2, hq, hce, hcv, hcl, h1, hL, h2, h3⟩, st⟩
  · dsimp only [Pt.U, Pt.locs, Pt.cells, Pt.slots] at X' e1 e2 h1 h2 h3 st
    subst h1; subst h2; subst h3
    exact Or.inl ⟨v, (T.setVm vm₁).calling g' mk As.toArray, t, U', L, hT, X', hL, e1, e2, hq, st⟩
  · dsimp only [Pt.U, Pt.locs, Pt.cells, Pt.slots] at X' e1 e2 h1 h2 h3 st hcl
    subst h1; subst h2; subst h3
    exact Or.inr ⟨q, (T.setVm vm₁).calling g' mk As.toArray, t, U', L, E, ce, hT, X', hL, e1, e2, hq, hce, hcv, vx_cls hW₁ hcl, st⟩
end Runs
section Rows
variable {p : Program} {l : Launch} {e : Env} {R : Room} {s : State} {m : MethodId} {args : Array Value} {below : List Frame} {meth : Method} {c : Code} {H : Heap} {locs : List Loc} {cells slots : Nat} {Q : State → Prop}
variable {mc ms : Nat} {free : Addr → Prop} {A0 A1 : Nat → Prop} {H0 : Heap} {a : Array Value} {pc : Nat} {ls : Array Slot} {st0 rest : List Value}
theorem vx_keep {st₀ t T' : State} {L : List Loc} (h0 : st₀.heap = H) (e1 : T'.heap = t.heap) (hS : va_S A0 H0 H locs) (hA : ∀ q, q < H.size → A1 q → A0 q) (hf : ∀ q, free q → A0 q) (hL : ∀ q ∈ L, free q.base) (hF : va_F A1 st₀ t) :
    H.size ≤ T'.heap.size ∧ (∀ q : Nat, q < H.size → ¬ A1 q → T'.heap[q]? = H[q]?) ∧ va_S A0 H0 T'.heap (locs ++ L) := by
  obtain ⟨hz, hk⟩ := hF
  rw [h0] at hz hk
  exact ⟨by rw [e1]; exact hz, fun q h1 h2 => by rw [e1]; exact hk q h1 h2,
    ⟨Nat.le_trans hS.1 (by rw [e1]; exact hz), fun q h1 h2 => by rw [e1, hk q (Nat.lt_of_lt_of_le h1 hS.1) (fun z => h2 (hA q (Nat.lt_of_lt_of_le h1 hS.1) z))]; exact hS.2.1 q h1 h2, fun q hq => by
      rcases List.mem_append.mp hq with h | h
      · exact hS.2.2 q h
      · exact hf _ (hL q h)⟩⟩
theorem vx_calli {S SX : Type} {post : Int32 → S → Prop} {px : SX → Prop} {B : S → State → Prop} {BX : String → SX → State → Prop} {AX : Nat → Prop} (hr : vx_Run p l e R s m args below meth c H locs cells slots mc ms (F0 m pc ls st0) rest (va_Qi post B A1 a) (vx_X px BX AX) free) (hS : va_S A0 H0 H locs) (hA : ∀ q, q < H.size → A1 q → A0 q) (hf : ∀ q, free q → A0 q) (hAX : ∀ q, q < H.size → AX q → A0 q)
    (kx : ∀ (E : String) (ce : Cell) (q9 : Addr) (u : SX) (t : State) (H1 : Heap) (locs1 : List Loc), t.heap = H1 → s.vm.Alike t.vm → px u → BX E u t → H.size ≤ H1.size → (∀ q : Nat, q < H.size → ¬ AX q → H1[q]? = H[q]?) → va_S A0 H0 H1 locs1 → H1[q9]? = some ce → ce.vm = .none → s.vm.findClass E = some ce.cls → vx_W p l e R s m args below meth c H1 locs1 (cells + mc) (slots + ms) Q (F0 m pc ls rest) q9)
    (kk : ∀ (r : Int32) (u : S) (t : State) (H1 : Heap) (locs1 : List Loc), t.heap = H1 → s.vm.Alike t.vm → post r u → B u t → H.size ≤ H1.size → (∀ q : Nat, q < H.size → ¬ A1 q → H1[q]? = H[q]?) → va_S A0 H0 H1 locs1 → W p l e R s m args below meth c H1 locs1 (cells + mc) (slots + ms) Q (F0 m (pc + 3) ls (.int r :: rest))) : W p l e R s m args below meth c H locs cells slots Q (F0 m pc ls st0) := by
  intro T hT X
  rcases hr T hT X with ⟨v, st₀, t, T', L, h0, X', hL, e1, e2, ⟨⟨r, u, hv, hp, hb⟩, hF⟩, st⟩ | ⟨q, st₀, t, T', L, E, ce, h0, X', hL, e1, e2, ⟨u, hp, hb, hF⟩, hce, hcv, hcl, st⟩
  · cases hv
    obtain ⟨k1, k2, k3⟩ := vx_keep h0 e1 hS hA hf hL hF
    obtain ⟨t2, a1, b1⟩ := kk r u t T'.heap (locs ++ L) e1.symm (by rw [← e2]; exact X'.warmed.alike) hp hb k1 k2 k3 T' rfl X'
    exact ⟨t2, st t2 a1, b1⟩
  · obtain ⟨k1, k2, k3⟩ := vx_keep h0 e1 hS hAX hf hL hF
    obtain ⟨t2, a1, b1⟩ := kx E ce q u t T'.heap (locs ++ L) e1.symm (by rw [← e2]; exact X'.warmed.alike) hp hb k1 k2 k3 (by rw [e1]; exact hce) hcv hcl T' rfl X'
    exact ⟨t2, st.trans a1, b1⟩
theorem vx_calll {S SX : Type} {post : Int64 → S → Prop} {px : SX → Prop} {B : S → State → Prop} {BX : String → SX → State → Prop} {AX : Nat → Prop} (hr : vx_Run p l e R s m args below meth c H locs cells slots mc ms (F0 m pc ls st0) rest (va_Ql post B A1 a) (vx_X px BX AX) free) (hS : va_S A0 H0 H locs) (hA : ∀ q, q < H.size → A1 q → A0 q) (hf : ∀ q, free q → A0 q) (hAX : ∀ q, q < H.size → AX q → A0 q)
    (kx : ∀ (E : String) (ce : Cell) (q9 : Addr) (u : SX) (t : State) (H1 : Heap) (locs1 : List Loc), t.heap = H1 → s.vm.Alike t.vm → px u → BX E u t → H.size ≤ H1.size → (∀ q : Nat, q < H.size → ¬ AX q → H1[q]? = H[q]?) → va_S A0 H0 H1 locs1 → H1[q9]? = some ce → ce.vm = .none → s.vm.findClass E = some ce.cls → vx_W p l e R s m args below meth c H1 locs1 (cells + mc) (slots + ms) Q (F0 m pc ls rest) q9)
    (kk : ∀ (r : Int64) (u : S) (t : State) (H1 : Heap) (locs1 : List Loc), t.heap = H1 → s.vm.Alike t.vm → post r u → B u t → H.size ≤ H1.size → (∀ q : Nat, q < H.size → ¬ A1 q → H1[q]? = H[q]?) → va_S A0 H0 H1 locs1 → W p l e R s m args below meth c H1 locs1 (cells + mc) (slots + ms) Q (F0 m (pc + 3) ls (.long r :: rest))) : W p l e R s m args below meth c H locs cells slots Q (F0 m pc ls st0) := by
  intro T hT X
  rcases hr T hT X with ⟨v, st₀, t, T', L, h0, X', hL, e1, e2, ⟨⟨r, u, hv, hp, hb⟩, hF⟩, st⟩ | ⟨q, st₀, t, T', L, E, ce, h0, X', hL, e1, e2, ⟨u, hp, hb, hF⟩, hce, hcv, hcl, st⟩
  · cases hv
    obtain ⟨k1, k2, k3⟩ := vx_keep h0 e1 hS hA hf hL hF
    obtain ⟨t2, a1, b1⟩ := kk r u t T'.heap (locs ++ L) e1.symm (by rw [← e2]; exact X'.warmed.alike) hp hb k1 k2 k3 T' rfl X'
    exact ⟨t2, st t2 a1, b1⟩
  · obtain ⟨k1, k2, k3⟩ := vx_keep h0 e1 hS hAX hf hL hF
    obtain ⟨t2, a1, b1⟩ := kx E ce q u t T'.heap (locs ++ L) e1.symm (by rw [← e2]; exact X'.warmed.alike) hp hb k1 k2 k3 (by rw [e1]; exact hce) hcv hcl T' rfl X'
    exact ⟨t2, st.trans a1, b1⟩
theorem vx_callf {S SX : Type} {post : UInt32 → S → Prop} {px : SX → Prop} {B : S → State → Prop} {BX : String → SX → State → Prop} {AX : Nat → Prop} (hr : vx_Run p l e R s m args below meth c H locs cells slots mc ms (F0 m pc ls st0) rest (va_Qf post B A1 a) (vx_X px BX AX) free) (hS : va_S A0 H0 H locs) (hA : ∀ q, q < H.size → A1 q → A0 q) (hf : ∀ q, free q → A0 q) (hAX : ∀ q, q < H.size → AX q → A0 q)
    (kx : ∀ (E : String) (ce : Cell) (q9 : Addr) (u : SX) (t : State) (H1 : Heap) (locs1 : List Loc), t.heap = H1 → s.vm.Alike t.vm → px u → BX E u t → H.size ≤ H1.size → (∀ q : Nat, q < H.size → ¬ AX q → H1[q]? = H[q]?) → va_S A0 H0 H1 locs1 → H1[q9]? = some ce → ce.vm = .none → s.vm.findClass E = some ce.cls → vx_W p l e R s m args below meth c H1 locs1 (cells + mc) (slots + ms) Q (F0 m pc ls rest) q9)
    (kk : ∀ (r : UInt32) (u : S) (t : State) (H1 : Heap) (locs1 : List Loc), t.heap = H1 → s.vm.Alike t.vm → post r u → B u t → H.size ≤ H1.size → (∀ q : Nat, q < H.size → ¬ A1 q → H1[q]? = H[q]?) → va_S A0 H0 H1 locs1 → W p l e R s m args below meth c H1 locs1 (cells + mc) (slots + ms) Q (F0 m (pc + 3) ls (.float r :: rest))) : W p l e R s m args below meth c H locs cells slots Q (F0 m pc ls st0) := by
  intro T hT X
  rcases hr T hT X with ⟨v, st₀, t, T', L, h0, X', hL, e1, e2, ⟨⟨r, u, hv, hp, hb⟩, hF⟩, st⟩ | ⟨q, st₀, t, T', L, E, ce, h0, X', hL, e1, e2, ⟨u, hp, hb, hF⟩, hce, hcv, hcl, st⟩
  · cases hv
    obtain ⟨k1, k2, k3⟩ := vx_keep h0 e1 hS hA hf hL hF
    obtain ⟨t2, a1, b1⟩ := kk r u t T'.heap (locs ++ L) e1.symm (by rw [← e2]; exact X'.warmed.alike) hp hb k1 k2 k3 T' rfl X'
    exact ⟨t2, st t2 a1, b1⟩
  · obtain ⟨k1, k2, k3⟩ := vx_keep h0 e1 hS hAX hf hL hF
    obtain ⟨t2, a1, b1⟩ := kx E ce q u t T'.heap (locs ++ L) e1.symm (by rw [← e2]; exact X'.warmed.alike) hp hb k1 k2 k3 (by rw [e1]; exact hce) hcv hcl T' rfl X'
    exact ⟨t2, st.trans a1, b1⟩
theorem vx_calld {S SX : Type} {post : UInt64 → S → Prop} {px : SX → Prop} {B : S → State → Prop} {BX : String → SX → State → Prop} {AX : Nat → Prop} (hr : vx_Run p l e R s m args below meth c H locs cells slots mc ms (F0 m pc ls st0) rest (va_Qd post B A1 a) (vx_X px BX AX) free) (hS : va_S A0 H0 H locs) (hA : ∀ q, q < H.size → A1 q → A0 q) (hf : ∀ q, free q → A0 q) (hAX : ∀ q, q < H.size → AX q → A0 q)
    (kx : ∀ (E : String) (ce : Cell) (q9 : Addr) (u : SX) (t : State) (H1 : Heap) (locs1 : List Loc), t.heap = H1 → s.vm.Alike t.vm → px u → BX E u t → H.size ≤ H1.size → (∀ q : Nat, q < H.size → ¬ AX q → H1[q]? = H[q]?) → va_S A0 H0 H1 locs1 → H1[q9]? = some ce → ce.vm = .none → s.vm.findClass E = some ce.cls → vx_W p l e R s m args below meth c H1 locs1 (cells + mc) (slots + ms) Q (F0 m pc ls rest) q9)
    (kk : ∀ (r : UInt64) (u : S) (t : State) (H1 : Heap) (locs1 : List Loc), t.heap = H1 → s.vm.Alike t.vm → post r u → B u t → H.size ≤ H1.size → (∀ q : Nat, q < H.size → ¬ A1 q → H1[q]? = H[q]?) → va_S A0 H0 H1 locs1 → W p l e R s m args below meth c H1 locs1 (cells + mc) (slots + ms) Q (F0 m (pc + 3) ls (.double r :: rest))) : W p l e R s m args below meth c H locs cells slots Q (F0 m pc ls st0) := by
  intro T hT X
  rcases hr T hT X with ⟨v, st₀, t, T', L, h0, X', hL, e1, e2, ⟨⟨r, u, hv, hp, hb⟩, hF⟩, st⟩ | ⟨q, st₀, t, T', L, E, ce, h0, X', hL, e1, e2, ⟨u, hp, hb, hF⟩, hce, hcv, hcl, st⟩
  · cases hv
    obtain ⟨k1, k2, k3⟩ := vx_keep h0 e1 hS hA hf hL hF
    obtain ⟨t2, a1, b1⟩ := kk r u t T'.heap (locs ++ L) e1.symm (by rw [← e2]; exact X'.warmed.alike) hp hb k1 k2 k3 T' rfl X'
    exact ⟨t2, st t2 a1, b1⟩
  · obtain ⟨k1, k2, k3⟩ := vx_keep h0 e1 hS hAX hf hL hF
    obtain ⟨t2, a1, b1⟩ := kx E ce q u t T'.heap (locs ++ L) e1.symm (by rw [← e2]; exact X'.warmed.alike) hp hb k1 k2 k3 (by rw [e1]; exact hce) hcv hcl T' rfl X'
    exact ⟨t2, st.trans a1, b1⟩
theorem vx_callv {S SX : Type} {post : S → Prop} {px : SX → Prop} {B : S → State → Prop} {BX : String → SX → State → Prop} {AX : Nat → Prop} (hr : vx_Run p l e R s m args below meth c H locs cells slots mc ms (F0 m pc ls st0) rest (va_Qv post B A1 a) (vx_X px BX AX) free) (hS : va_S A0 H0 H locs) (hA : ∀ q, q < H.size → A1 q → A0 q) (hf : ∀ q, free q → A0 q) (hAX : ∀ q, q < H.size → AX q → A0 q)
    (kx : ∀ (E : String) (ce : Cell) (q9 : Addr) (u : SX) (t : State) (H1 : Heap) (locs1 : List Loc), t.heap = H1 → s.vm.Alike t.vm → px u → BX E u t → H.size ≤ H1.size → (∀ q : Nat, q < H.size → ¬ AX q → H1[q]? = H[q]?) → va_S A0 H0 H1 locs1 → H1[q9]? = some ce → ce.vm = .none → s.vm.findClass E = some ce.cls → vx_W p l e R s m args below meth c H1 locs1 (cells + mc) (slots + ms) Q (F0 m pc ls rest) q9)
    (kk : ∀ (u : S) (t : State) (H1 : Heap) (locs1 : List Loc), t.heap = H1 → s.vm.Alike t.vm → post u → B u t → H.size ≤ H1.size → (∀ q : Nat, q < H.size → ¬ A1 q → H1[q]? = H[q]?) → va_S A0 H0 H1 locs1 → W p l e R s m args below meth c H1 locs1 (cells + mc) (slots + ms) Q (F0 m (pc + 3) ls (rest))) : W p l e R s m args below meth c H locs cells slots Q (F0 m pc ls st0) := by
  intro T hT X
  rcases hr T hT X with ⟨v, st₀, t, T', L, h0, X', hL, e1, e2, ⟨⟨u, hv, hp, hb⟩, hF⟩, st⟩ | ⟨q, st₀, t, T', L, E, ce, h0, X', hL, e1, e2, ⟨u, hp, hb, hF⟩, hce, hcv, hcl, st⟩
  · cases hv
    obtain ⟨k1, k2, k3⟩ := vx_keep h0 e1 hS hA hf hL hF
    obtain ⟨t2, a1, b1⟩ := kk u t T'.heap (locs ++ L) e1.symm (by rw [← e2]; exact X'.warmed.alike) hp hb k1 k2 k3 T' rfl X'
    exact ⟨t2, st t2 a1, b1⟩
  · obtain ⟨k1, k2, k3⟩ := vx_keep h0 e1 hS hAX hf hL hF
    obtain ⟨t2, a1, b1⟩ := kx E ce q u t T'.heap (locs ++ L) e1.symm (by rw [← e2]; exact X'.warmed.alike) hp hb k1 k2 k3 (by rw [e1]; exact hce) hcv hcl T' rfl X'
    exact ⟨t2, st.trans a1, b1⟩
/-- caught by the row x of this method's table; the rows ahead don't take it -/
theorem vx_catch {own name : String} {E : String} {ce : Cell} {q : Addr} (hown : s.vm.findClass own = some m.cls) (pre : List ExceptionTableEntry) (x : ExceptionTableEntry) (suf : List ExceptionTableEntry) (hsplit : c.exceptionTable.toList = pre ++ x :: suf)
    (hpass : ∀ z ∈ pre, covers z pc = false ∨ (z.catchType ≠ 0 ∧ ∃ nm : String, (Cond.classLink own z.catchType nm).before args s = true ∧ va_Nc E nm s)) (hx : covers x pc = true) (h0 : x.catchType ≠ 0)
    (hlink : (Cond.classLink own x.catchType name).before args s = true) (hcast : (Cond.castable E name).before args s = true) (hcell : H[q]? = some ce) (hv : ce.vm = .none) (hcl : s.vm.findClass E = some ce.cls)
    (kk : W p l e R s m args below meth c H locs cells slots Q (F0 m x.handlerPc ls [.ref q])) : vx_W p l e R s m args below meth c H locs cells slots Q (F0 m pc ls rest) q := by
  intro T hT X
  have hpl : e.platform.magicAccessors = ({} : Platform).magicAccessors := by rw [X.admits.platform]
  obtain ⟨c3, c4, hc3, hc4, hasg⟩ := Cond.castable_spec hcast
  cases Option.some.inj (hc3.symm.trans hcl)
  obtain ⟨c5, hc5, hcl5⟩ := Cond.classLink_spec hown hlink e.platform hpl
  cases Option.some.inj (hc4.symm.trans hc5)
  obtain ⟨vm', X', st⟩ := wx_caught X q (g := F0 m pc ls rest) rfl (by rw [hT]; exact hcell) (fun k h9 => by rw [hv] at h9; cases h9) (by obtain ⟨k9, h9, -⟩ := Vm.findClass_spec hcl; exact ⟨k9, h9⟩) pre x suf hsplit
    (fun z hz => by
      rcases hpass z hz with h | ⟨hz0, nm, hl1, hn1⟩
      · exact Or.inl h
      · obtain ⟨c6, hc6, hcl6⟩ := Cond.classLink_spec hown hl1 e.platform hpl
        obtain ⟨a8, b8, h1, h2, h3⟩ := hn1
        cases Option.some.inj (h1.symm.trans hcl)
        cases Option.some.inj (h2.symm.trans hc6)
        exact Or.inr ⟨hz0, _, hcl6, h3⟩) hx h0 hcl5 hasg
  obtain ⟨t, a1, b1⟩ := kk (T.setVm vm') hT X'
  exact ⟨t, st.trans a1, b1⟩
end Rows
section Ends
variable {p : Program} {l : Launch} {e : Env} {R : Room} {s : State} {m : MethodId} {args : Array Value} {below : List Frame} {meth : Method} {c : Code} {H : Heap} {locs : List Loc} {cells slots : Nat} {Q : State → Prop}
variable {mc ms : Nat} {free : Addr → Prop} {A0 A1 : Nat → Prop} {H0 : Heap} {a : Array Value} {ls : Array Slot} {st0 rest : List Value}
variable {Qc : Array Value → State → Outcome → State → Prop} {XC : String → State → State → Prop}
/-- what a body that may throw owes at its end -/
def vx_MQ (below : List Frame) (Qc : Array Value → State → Outcome → State → Prop) (XC : String → State → State → Prop) (a : Array Value) (s : State) (mc ms : Nat) (free : Addr → Prop) : State → Prop := fun t =>
  ∃ o, t.status = .running ∧ Ended t below o ∧ vx_Q Qc XC mc ms free a s o t
theorem vx_ret {g : JFrame} {mc ms : Nat} (k : W p l e R s m args below meth c H locs cells slots (MQ below Qc args s mc ms free) g) : W p l e R s m args below meth c H locs cells slots (vx_MQ below Qc XC args s mc ms free) g := by
  intro T hT X
  obtain ⟨t, a1, o, b1, b2, b3, b4⟩ := k T hT X
  exact ⟨t, a1, o, b1, b2, Or.inl ⟨b3, b4⟩⟩
/-- not caught here: it goes on to the caller -/
theorem vx_widen {g : JFrame} {q : Addr} {k n : Nat} (h1 : cells ≤ k) (h2 : slots ≤ n) (kk : vx_W p l e R s m args below meth c H locs k n Q g q) : vx_W p l e R s m args below meth c H locs cells slots Q g q := fun T hT X => kk T hT (stand_widen X h1 h2)
theorem vx_out {pc : Nat} {E : String} {ce : Cell} {q : Addr} {mc ms : Nat} (hout : ∀ x ∈ c.exceptionTable.toList, covers x pc = false) (hlocks : meth.locks = false) (hcell : H[q]? = some ce) (hv : ce.vm = .none) (hcl : s.vm.findClass E = some ce.cls)
    (hx : ∀ t : State, t.heap = H → s.vm.Alike t.vm → XC E s t) (hf : ∀ z ∈ locs, free z.base) (hc : cells ≤ mc) (hs : slots ≤ ms) :
    vx_W p l e R s m args below meth c H locs cells slots (vx_MQ below Qc XC args s mc ms free) (F0 m pc ls rest) q := by
  intro T hT X
  obtain ⟨st1, hrun, hend, hW, hsm⟩ := X.leaveThrown q (g := F0 m pc ls rest) rfl rfl rfl hout hlocks
  have hcell9 : (T.setFrames (.throwing q :: below)).heap[q]? = some ce := by
    show T.heap[q]? = some ce
    rw [hT]; exact hcell
  exact ⟨_, st1, .threw q, hrun, hend, Or.inr ⟨q, rfl, E, ce, locs, hx _ hT hW.alike, hcell9, hv, hcl, hW, hsm.mono hc hs, hf⟩⟩
theorem vx_frame {U : State} {k n : Nat} (h : s.sameButNew ({ U with vm := s.vm } : State) locs k n) : s.heap.size ≤ U.heap.size ∧ ∀ q : Nat, q < s.heap.size → (∀ z ∈ locs, z.base ≠ q) → U.heap[q]? = s.heap[q]? := by
  obtain ⟨-, h2, -, -, -, h6⟩ := h
  refine ⟨h2, fun q hq hz => ?_⟩
  obtain ⟨c9, e1, e2, e3, e4⟩ := h6 q _ (Array.getElem?_eq_getElem hq)
  have hs : c9.slots = (s.heap[q]).slots := Array.ext_getElem? fun i => e4 i fun hm => hz _ hm rfl
  have h9 : c9 = s.heap[q] := by
    rw [hs] at e2
    exact e2
  have e5 : U.heap[q]? = some c9 := e1
  rw [e5, h9, Array.getElem?_eq_getElem hq]
/-- the words of a throw but the four that speak of the heap -/
def vx_no (w : Cond) : Bool := decide (w ≠ .isRef (.static Bundle.tN "UNASSIGNED_STACK" Bundle.steD)) && decide (w ≠ .isRef (.static Bundle.tN "SUPPRESSED_SENTINEL" Bundle.listD)) && decide (w ≠ .laysStatic Bundle.tN "UNASSIGNED_STACK" Bundle.steD) && decide (w ≠ .laysStatic Bundle.tN "SUPPRESSED_SENTINEL" Bundle.listD)
def vx_at0 (own : String) (ic : Nat) (X : String) (names : List String) : List Cond := (Bundle.ownAtoms0 own ic X names).filter vx_no
def vx_atS (own : String) (ic : Nat) (X : String) (names : List String) : List Cond := (Bundle.ownAtoms own ic X names).filter vx_no
/-- a word that the tables alone decide, or a good one -/
def vx_ot (w : Cond) : Bool := w.onTables || goodWord w
theorem vx_ot_at {args a' : Array Value} {s U : State} {w : Cond} (hW : s.WarmedH U.vm) (hvm : s.vm = U.vm) (hg : vx_ot w = true) (h : w.before args s = true) : w.before a' U = true := by
  simp only [vx_ot, Bool.or_eq_true] at hg
  rcases hg with hg | hg
  · exact va_tabs hg hvm h
  · exact word_at hW (good_of_word hg) h
/-- a list's words: the good ones out of the method's own list, the others by premises of their own -/
theorem vx_hat {args : Array Value} {s : State} {L B : List Cond} (h1 : ∀ w ∈ L.filter goodWord, w.before args s = true) (h2 : ∀ w ∈ L.filter (fun w => !goodWord w), w ∈ B) (h3 : ∀ w ∈ B, w.before args s = true) : ∀ w ∈ L, w.before args s = true := by
  intro w hw
  by_cases g : goodWord w = true
  · exact h1 w (List.mem_filter.mpr ⟨hw, g⟩)
  · refine h3 w (h2 w (List.mem_filter.mpr ⟨hw, ?_⟩))
    show (!goodWord w) = true
    cases hgw : goodWord w
    · rfl
    · exact absurd hgw g
theorem vx_c {args : Array Value} {s : State} {w : Cond} {B : List Cond} (h : w.before args s = true) (t : ∀ w ∈ B, w.before args s = true) : ∀ w' ∈ w :: B, w'.before args s = true := fun w' h' => (List.mem_cons.mp h').elim (fun e => by rw [e]; exact h) (t w')
theorem vx_n {args : Array Value} {s : State} : ∀ w ∈ ([] : List Cond), w.before args s = true := fun _ h => nomatch h
theorem vx_own {args : Array Value} {s : State} {L : List Cond} (h1 : ∀ w ∈ L.filter vx_no, w.before args s = true)
    (hU : (Cond.isRef (.static Bundle.tN "UNASSIGNED_STACK" Bundle.steD)).before args s = true) (hN : (Cond.isRef (.static Bundle.tN "SUPPRESSED_SENTINEL" Bundle.listD)).before args s = true)
    (lU : (Cond.laysStatic Bundle.tN "UNASSIGNED_STACK" Bundle.steD).before args s = true) (lN : (Cond.laysStatic Bundle.tN "SUPPRESSED_SENTINEL" Bundle.listD).before args s = true) : ∀ w ∈ L, w.before args s = true := by
  intro w hw
  by_cases e1 : w = .isRef (.static Bundle.tN "UNASSIGNED_STACK" Bundle.steD)
  · rw [e1]; exact hU
  · by_cases e2 : w = .isRef (.static Bundle.tN "SUPPRESSED_SENTINEL" Bundle.listD)
    · rw [e2]; exact hN
    · by_cases e3 : w = .laysStatic Bundle.tN "UNASSIGNED_STACK" Bundle.steD
      · rw [e3]; exact lU
      · by_cases e4 : w = .laysStatic Bundle.tN "SUPPRESSED_SENTINEL" Bundle.listD
        · rw [e4]; exact lN
        · exact h1 w (List.mem_filter.mpr ⟨hw, by unfold vx_no; rw [decide_eq_true e1, decide_eq_true e2, decide_eq_true e3, decide_eq_true e4]; rfl⟩)
/-- where a static field lies, its class's statics cell in H -/
def vx_L (C n d : String) (A : Nat → Prop) (U : State) (H : Heap) : Prop := ∃ (c : ClassId) (k : Class) (i : Nat) (f : Field) (a : Nat) (cell : Cell), U.vm.findClass C = some c ∧ U.fieldFound? C n d = some (c, k, i, f) ∧ f.isStatic = true ∧ k.statics = some a ∧ H[a]? = some cell ∧ cell.vm.isStatics = true ∧ cell.cls = c ∧ f.slot < cell.slots.size ∧ k.staticTypes[f.slot]? = some f.type ∧ ¬ A a
theorem vx_L.moved {C n d : String} {A : Nat → Prop} {u U : State} {H : Heap} (hvm : u.vm.Alike U.vm) (h : vx_L C n d A u H) : vx_L C n d A U H := by
  obtain ⟨c, k, i, f, a, cell, h1, h2, h3, h4, h5, h6, h7, h8, h9, h10⟩ := h
  obtain ⟨k', hi', he⟩ := State.fieldFound?_setVm hvm h2
  exact ⟨c, k', i, f, a, cell, by rw [hvm.findClass]; exact h1, hi', h3, by rw [he]; exact h4, h5, h6, h7, h8, by rw [he]; exact h9, h10⟩
theorem vx_L.kept {C n d : String} {A : Nat → Prop} {U : State} {H H1 : Heap} (h : vx_L C n d A U H) (hq : ∀ a : Nat, a < H.size → ¬ A a → H1[a]? = H[a]?) : vx_L C n d A U H1 := by
  obtain ⟨c, k, i, f, a, cell, h1, h2, h3, h4, h5, h6, h7, h8, h9, h10⟩ := h
  exact ⟨c, k, i, f, a, cell, h1, h2, h3, h4, by rw [hq a (Array.getElem?_eq_some_iff.mp h5).1 h10]; exact h5, h6, h7, h8, h9, h10⟩
theorem vx_L.narrow {C n d : String} {A B : Nat → Prop} {U : State} {H : Heap} (h : vx_L C n d A U H) (hAB : ∀ q, B q → A q) : vx_L C n d B U H := by
  obtain ⟨c, k, i, f, a, cell, h1, h2, h3, h4, h5, h6, h7, h8, h9, h10⟩ := h
  exact ⟨c, k, i, f, a, cell, h1, h2, h3, h4, h5, h6, h7, h8, h9, fun z => h10 (hAB _ z)⟩
theorem vx_L.word {C n d : String} {A : Nat → Prop} {s : State} {args : Array Value} (h : vx_L C n d A s s.heap) : (Cond.laysStatic C n d).before args s = true := by
  obtain ⟨c, k, i, f, a, cell, h1, h2, h3, h4, h5, h6, h7, h8, h9, -⟩ := h
  show (Cond.laysStatic C n d).holds args s none s [] = true
  exact Cond.laysStatic_of h1 h2 h3 h4 h5 h6 h7 h8 h9
/-- .. and what it holds: null or some reference -/
def vx_Zq (C n d : String) (A : Nat → Prop) (U : State) (H : Heap) : Prop := va_Zq C n d A U H ∧ vx_L C n d A U H
theorem vx_Zq.moved {C n d : String} {A : Nat → Prop} {u U : State} {H : Heap} (hvm : u.vm.Alike U.vm) (h : vx_Zq C n d A u H) : vx_Zq C n d A U H := ⟨va_Zq.moved hvm h.1, vx_L.moved hvm h.2⟩
theorem vx_Zq.kept {C n d : String} {A : Nat → Prop} {U : State} {H H1 : Heap} (h : vx_Zq C n d A U H) (hq : ∀ a : Nat, a < H.size → ¬ A a → H1[a]? = H[a]?) : vx_Zq C n d A U H1 := ⟨va_Zq.kept h.1 hq, vx_L.kept h.2 hq⟩
theorem vx_Zq.narrow {C n d : String} {A B : Nat → Prop} {U : State} {H : Heap} (h : vx_Zq C n d A U H) (hAB : ∀ q, B q → A q) : vx_Zq C n d B U H := ⟨va_Zq.narrow h.1 hAB, vx_L.narrow h.2 hAB⟩
theorem vx_Zqof {args : Array Value} {s : State} {C n d : String} {A : Nat → Prop} (hl : (Cond.laysStatic C n d).before args s = true) (hini : (Cond.initialized C).before args s = true) (h : (Cond.isRef (.static C n d)).before args s = true) (hA : ∀ a : Nat, a < s.heap.size → ¬ A a) : vx_Zq C n d A s s.heap := by
  refine ⟨va_Zqof hl hini h hA, ?_⟩
  obtain ⟨c, k, i, f, a, cell, h1, h2, h3, h4, h5, h6, h7, h8, h9⟩ := Cond.laysStatic_spec hl
  exact ⟨c, k, i, f, a, cell, h1, h2, h3, h4, h5, h6, h7, h8, h9, hA a (Array.getElem?_eq_some_iff.mp h5).1⟩
theorem vx_isRef {C n d : String} {v : Value} {A : Nat → Prop} {s : State} {args : Array Value} (h : va_Z C n d v A s s.heap) (hv : v.isRef = true) : (Cond.isRef (.static C n d)).before args s = true := by
  obtain ⟨cf, kf, fi, f, a, cell, h1, h2, h3, h4, h5, h6, h7, -⟩ := h
  have he : (Term.static C n d).eval args s none [] s = some v := by
    simp [Term.eval, State.fieldNamed?, h1, h2, h4, h5, h6, h7]
  simp only [Cond.before, Cond.holds, Cond.value, he]
  cases v <;> simp_all [Value.isRef]
theorem vx_isRefq {C n d : String} {A : Nat → Prop} {s : State} {args : Array Value} (h : va_Zq C n d A s s.heap) : (Cond.isRef (.static C n d)).before args s = true := by
  rcases h with h | ⟨t, h⟩
  · exact vx_isRef h rfl
  · exact vx_isRef h rfl
/-- the same frame, seen from here: as if the method were called anew in this heap -/
theorem vx_rebase {T : State} (X : Stand p l e R s m args below meth c T locs cells slots) {R' : Room} (hf : R'.frames ≤ R.frames) (hl : R'.locals ≤ R.locals) (hc : cells + R'.cells ≤ R.cells) (hs : slots + R'.slots ≤ R.slots) :
    Stand p l e R' ((T.setVm s.vm).setFrames (.invoking m args :: below)) m args below meth c T [] 0 0 := by
  have htop : (T.setVm s.vm).topJava?.isSome := X.here.top
  have hF : ((T.setVm s.vm).setFrames (.invoking m args :: below)).frames = .invoking m args :: below := State.frames_setFrames _ (State.cur_lt_of_top htop)
  obtain ⟨g₀, hg0⟩ := Option.isSome_iff_exists.mp htop
  obtain ⟨r, hr⟩ := State.topJava?_eq_some.mp hg0
  have hl9 : e.platform.stackLimits (T.setVm s.vm).me = e.platform.stackLimits s.me := X.limits
  have hb9 : (T.setVm s.vm).me.stackBytes = s.me.stackBytes := X.bytes
  refine ⟨X.admits, X.cas, X.clock, hF, ?_, X.hears, X.method, X.code, X.here, X.tail, X.warmed, ?_, ?_, ?_⟩
  · have h := X.room
    have hU : ((T.setVm s.vm).setFrames (.invoking m args :: below)).localsInUse = s.localsInUse := by
      rw [State.localsInUse_invoking hF (meth := meth) (c := c) X.method X.code, State.localsInUse_invoking X.frames X.method X.code]
    simp only [State.hasRoom, Bool.and_eq_true, decide_eq_true_eq] at h ⊢
    obtain ⟨⟨⟨⟨h1, h2, h3, h4, h5, h6⟩, h7⟩, h8⟩, h9⟩ := h
    rw [X.frames, List.length_cons] at h2 h3
    have q1 := X.heapSize
    have q2 := X.used
    simp only [hF, hU, List.length_cons, State.stackLimits_setFrames, State.stackBytes_setFrames, hl9, hb9]
    refine ⟨⟨⟨⟨by omega, by omega, by omega, by omega, by omega, h6⟩, ?_⟩, ?_⟩, X.book⟩
    · show T.heap.size + R'.cells ≤ e.platform.maxCells
      omega
    · show T.slotsUsed + R'.slots ≤ e.platform.maxSlots
      omega
  · rw [State.stackLimits_setFrames]; rfl
  · rw [State.stackBytes_setFrames]; rfl
  · refine ⟨?_, Nat.le_refl _, Nat.le_refl _, ?_, ?_, fun a c9 h9 => ⟨c9, h9, rfl, rfl, fun _ _ => rfl⟩⟩
    · obtain ⟨t, ht, -⟩ := State.frames_cons hr
      show T.setVm s.vm = { ((T.setVm s.vm).setFrames (.invoking m args :: below)).setFrames (T.setVm s.vm).frames with heap := T.heap, slotsUsed := T.slotsUsed }
      rw [State.setFrames_setFrames, State.setFrames_self ht]
      rfl
    · show T.slotsUsed = T.slotsUsed + ((T.heap.toList.drop T.heap.size).map (·.slots.size)).sum
      rw [List.drop_eq_nil_of_le (Nat.le_of_eq Array.length_toList)]
      rfl
    · show ((T.heap.toList.drop T.heap.size).map (·.slots.size)).sum ≤ 0
      rw [List.drop_eq_nil_of_le (Nat.le_of_eq Array.length_toList)]
      exact Nat.le_refl _
/-- 'throw new E()': new; dup; invokespecial; athrow -/
theorem vx_throw0 {cc : ByteArray} {pc : Nat} (hexec : p.tables.exec = Jvm.exec) (hb : c.code = cc) (hl : l.stackTraces = false) {own cls : String} {names : List String} {ik ic mc ms : Nat} {A : Nat → Prop}
    (hown : s.vm.findClass own = some m.cls) (hcls : Bundle.fit cls = true) (hnames : ∀ n ∈ names, Bundle.fit n = true)
    (hk : (Cond.classLink own ik cls).before args s = true) (hini : (Cond.initialized cls).before args s = true) (hat : ∀ w ∈ vx_at0 own ic cls names, w.before args s = true)
    (hgood : ∀ w ∈ Cond.classLink own ik cls :: Cond.initialized cls :: vx_at0 own ic cls names, vx_ot w = true)
    (hU : vx_Zq Bundle.tN "UNASSIGNED_STACK" Bundle.steD A s s.heap) (hN : vx_Zq Bundle.tN "SUPPRESSED_SENTINEL" Bundle.listD A s s.heap) (hS : va_S A s.heap H locs) (hsize : ls.size = c.maxLocals)
    (d0 : decode cc pc = .ok (.new ik, 3)) (d3 : decode cc (pc + 3) = .ok (.dup, 1)) (d4 : decode cc (pc + 4) = .ok (.invokespecial ic, 3)) (d7 : decode cc (pc + 7) = .ok (.athrow, 1))
    (hout : ∀ x ∈ c.exceptionTable.toList, covers x (pc + 7) = false)
    (hRframes : names.length + 3 < R.frames) (hRlocals : (rest.map fun v => v.category).sum + (13 * (names.length + 1) + 42) ≤ R.locals) (hRcells : cells + 1 ≤ R.cells) (hRslots : slots + 6 ≤ R.slots) (hlocks : meth.locks = false)
    (hx : ∀ t : State, s.vm.Alike t.vm → H.size ≤ t.heap.size → (∀ q : Nat, q < H.size → t.heap[q]? = H[q]?) → XC cls s t)
    (hf : ∀ z ∈ locs, free z.base) (hc : cells + 1 ≤ mc) (hs : slots + 6 ≤ ms) :
    W p l e R s m args below meth c H locs cells slots (vx_MQ below Qc XC args s mc ms free) (F0 m pc ls rest) := by
  intro T hT X
  have htr : e.platform.stackTraces = false := (show e.platform.stackTraces = l.stackTraces by rw [X.admits.platform]).trans hl
  have Y := vx_rebase X (R' := { frames := R.frames, locals := R.locals, cells := 1, slots := 6 }) (Nat.le_refl _) (Nat.le_refl _) hRcells hRslots
  obtain ⟨s', hA⟩ : ∃ z, z = (T.setVm s.vm).setFrames (.invoking m args :: below) := ⟨_, rfl⟩
  rw [← hA] at Y
  have hvm : s'.vm = s.vm := by rw [hA]; rfl
  have hhp : s'.heap = H := by rw [hA]; exact hT
  have hW0 : s.WarmedH s'.vm := by rw [hvm]; exact State.WarmedH.refl s
  have hat' : ∀ w ∈ vx_at0 own ic cls names, w.before args s' = true := fun w hw => vx_ot_at hW0 hvm.symm (hgood w (List.mem_cons_of_mem _ (List.mem_cons_of_mem _ hw))) (hat w hw)
  have hk' : (Cond.classLink own ik cls).before args s' = true := vx_ot_at hW0 hvm.symm (hgood _ List.mem_cons_self) hk
  have hini' : (Cond.initialized cls).before args s' = true := vx_ot_at hW0 hvm.symm (hgood _ (List.mem_cons_of_mem _ List.mem_cons_self)) hini
  have hU' : vx_Zq Bundle.tN "UNASSIGNED_STACK" Bundle.steD A s' s'.heap := by rw [hhp]; exact vx_Zq.moved hW0.alike (hU.kept hS.2.1)
  have hN' : vx_Zq Bundle.tN "SUPPRESSED_SENTINEL" Bundle.listD A s' s'.heap := by rw [hhp]; exact vx_Zq.moved hW0.alike (hN.kept hS.2.1)
  have h : ∀ w ∈ Bundle.ownAtoms0 own ic cls names, w.before args s' = true := vx_own hat' (vx_isRefq hU'.1) (vx_isRefq hN'.1) hU'.2.word hN'.2.word
  have hown' : s'.vm.findClass own = some m.cls := by rw [hvm]; exact hown
  have hins : (Cond.instantiable cls 6).before args s' = true := h _ (by simp [Bundle.ownAtoms0])
  obtain ⟨vm₁, cX, kX, hfX, hkX, -, -, X₁, st1⟩ := Y.newCold hexec (own := own) (C := cls) (index := ik) (n := 6) hown' hk' hins hini'
    (g := F0 m pc ls rest) rfl (by rw [hb]; exact d0) (Nat.le_refl _) (Nat.le_refl _)
  generalize hT1 : (T.setVm vm₁).pushCell { cls := cX, slots := kX.instanceTypes.map defaultValue, vm := .none } = T1 at X₁ st1
  have hcat : (Value.ref T.heap.size).category = 1 := rfl
  have hcellA : T1.heap[T.heap.size]? = some (freshCell cX kX) := by rw [← hT1]; exact State.heap_pushCell_size _ _
  have d3' : decode c.code (pc + 3) = .ok (.dup, 1) := by rw [hb]; exact d3
  obtain ⟨U, hsteps, hrun, hend, hW, hsame, ce, hce, hO⟩ := X₁.ctorThrow0 hexec htr (own := own) (cls := cls) (names := names) (ic := ic) hown' hcls hnames h (fun x hx => nomatch hx) hfX hkX hcellA (by rw [hhp, hT]; exact Nat.le_refl _)
    (g := { method := m, pc := pc + 4, locals := ls, stack := .ref T.heap.size :: .ref T.heap.size :: rest, locked := none }) rfl hsize rfl rfl (rest := rest) rfl
    (by rw [hb]; exact d4) (by rw [hb]; exact d7) hout hRframes (by simp only [List.map_cons, List.sum_cons, hcat]; omega) hlocks
  obtain ⟨f1, f2⟩ := vx_frame hsame
  rw [hhp] at f1 f2
  have hWs : s.WarmedH U.vm := State.WarmedH.trans hW0 hW
  have hcl : s.vm.findClass cls = some ce.cls := by
    have h9 := hO.cls
    rw [hvm] at h9
    exact h9
  have hall : s.sameButNew ({ U with vm := s.vm } : State) locs mc ms := by
    subst hA
    obtain ⟨e1, e2⟩ := hsame
    rw [State.setFrames_setFrames] at e1
    have h2 : (T.setVm s.vm).sameButNew ({ U with vm := s.vm } : State) [] (0 + 1) (0 + 6) := ⟨e1, e2⟩
    have h3 := X.same.trans h2
    rw [List.append_nil] at h3
    exact h3.mono hc hs
  refine ⟨U, ?_, .threw T.heap.size, hrun, hend, Or.inr ⟨T.heap.size, rfl, cls, ce, locs, hx U hWs.alike f1 (fun q hq => f2 q hq (fun z hz => nomatch hz)), hce, hO.vm, hcl, hWs, hall, hf⟩⟩
  refine st1 _ ?_
  show Steps p.tables e below (T1.setTop { method := m, pc := pc + 3, locals := ls, stack := .ref T.heap.size :: rest, locked := none }) _
  jvm_step X₁.here [X₁.here.top, hexec, d3', Value.category]
  exact hsteps
/-- 'throw new E("text")': new; dup; ldc; invokespecial; athrow -/
theorem vx_throwS {cc : ByteArray} {pc : Nat} (hexec : p.tables.exec = Jvm.exec) (hb : c.code = cc) (hl : l.stackTraces = false) {own cls text : String} {names : List String} {ik is ic mc ms sa : Nat} {A : Nat → Prop}
    (hown : s.vm.findClass own = some m.cls) (hcls : Bundle.fit cls = true) (hnames : ∀ n ∈ names, Bundle.fit n = true)
    (hk : (Cond.classLink own ik cls).before args s = true) (hini : (Cond.initialized cls).before args s = true) (hstr : vk_R own is text sa s) (hat : ∀ w ∈ vx_atS own ic cls names, w.before args s = true)
    (hgood : ∀ w ∈ Cond.classLink own ik cls :: Cond.initialized cls :: vx_atS own ic cls names, vx_ot w = true)
    (hU : vx_Zq Bundle.tN "UNASSIGNED_STACK" Bundle.steD A s s.heap) (hN : vx_Zq Bundle.tN "SUPPRESSED_SENTINEL" Bundle.listD A s s.heap) (hS : va_S A s.heap H locs) (hsize : ls.size = c.maxLocals)
    (d0 : decode cc pc = .ok (.new ik, 3)) (d3 : decode cc (pc + 3) = .ok (.dup, 1)) (d4 : decode cc (pc + 4) = .ok (.ldc is, 2)) (d6 : decode cc (pc + 6) = .ok (.invokespecial ic, 3)) (d9 : decode cc (pc + 9) = .ok (.athrow, 1))
    (hout : ∀ x ∈ c.exceptionTable.toList, covers x (pc + 9) = false)
    (hRframes : names.length + 3 < R.frames) (hRlocals : (rest.map fun v => v.category).sum + (13 * (names.length + 1) + 43) ≤ R.locals) (hRcells : cells + 1 ≤ R.cells) (hRslots : slots + 6 ≤ R.slots) (hlocks : meth.locks = false)
    (hx : ∀ t : State, s.vm.Alike t.vm → H.size ≤ t.heap.size → (∀ q : Nat, q < H.size → t.heap[q]? = H[q]?) → XC cls s t)
    (hf : ∀ z ∈ locs, free z.base) (hc : cells + 1 ≤ mc) (hs : slots + 6 ≤ ms) :
    W p l e R s m args below meth c H locs cells slots (vx_MQ below Qc XC args s mc ms free) (F0 m pc ls rest) := by
  intro T hT X
  have htr : e.platform.stackTraces = false := (show e.platform.stackTraces = l.stackTraces by rw [X.admits.platform]).trans hl
  have Y := vx_rebase X (R' := { frames := R.frames, locals := R.locals, cells := 1, slots := 6 }) (Nat.le_refl _) (Nat.le_refl _) hRcells hRslots
  obtain ⟨s', hA⟩ : ∃ z, z = (T.setVm s.vm).setFrames (.invoking m args :: below) := ⟨_, rfl⟩
  rw [← hA] at Y
  have hvm : s'.vm = s.vm := by rw [hA]; rfl
  have hhp : s'.heap = H := by rw [hA]; exact hT
  have hW0 : s.WarmedH s'.vm := by rw [hvm]; exact State.WarmedH.refl s
  have hat' : ∀ w ∈ vx_atS own ic cls names, w.before args s' = true := fun w hw => vx_ot_at hW0 hvm.symm (hgood w (List.mem_cons_of_mem _ (List.mem_cons_of_mem _ hw))) (hat w hw)
  have hk' : (Cond.classLink own ik cls).before args s' = true := vx_ot_at hW0 hvm.symm (hgood _ List.mem_cons_self) hk
  have hini' : (Cond.initialized cls).before args s' = true := vx_ot_at hW0 hvm.symm (hgood _ (List.mem_cons_of_mem _ List.mem_cons_self)) hini
  have hU' : vx_Zq Bundle.tN "UNASSIGNED_STACK" Bundle.steD A s' s'.heap := by rw [hhp]; exact vx_Zq.moved hW0.alike (hU.kept hS.2.1)
  have hN' : vx_Zq Bundle.tN "SUPPRESSED_SENTINEL" Bundle.listD A s' s'.heap := by rw [hhp]; exact vx_Zq.moved hW0.alike (hN.kept hS.2.1)
  have h : ∀ w ∈ Bundle.ownAtoms own ic cls names, w.before args s' = true := vx_own hat' (vx_isRefq hU'.1) (vx_isRefq hN'.1) hU'.2.word hN'.2.word
  have hown' : s'.vm.findClass own = some m.cls := by rw [hvm]; exact hown
  have hins : (Cond.instantiable cls 6).before args s' = true := h _ (by simp [Bundle.ownAtoms])
  obtain ⟨vm₁, cX, kX, hfX, hkX, -, -, X₁, st1⟩ := Y.newCold hexec (own := own) (C := cls) (index := ik) (n := 6) hown' hk' hins hini'
    (g := F0 m pc ls rest) rfl (by rw [hb]; exact d0) (Nat.le_refl _) (Nat.le_refl _)
  generalize hT1 : (T.setVm vm₁).pushCell { cls := cX, slots := kX.instanceTypes.map defaultValue, vm := .none } = T1 at X₁ st1
  have hcat : (Value.ref T.heap.size).category = 1 := rfl
  have hcellA : T1.heap[T.heap.size]? = some (freshCell cX kX) := by rw [← hT1]; exact State.heap_pushCell_size _ _
  have d3' : decode c.code (pc + 3) = .ok (.dup, 1) := by rw [hb]; exact d3
  have d4' : decode c.code (pc + 4) = .ok (.ldc is, 2) := by rw [hb]; exact d4
  have hstr' : vk_R own is text sa s' := vk_R.warm hW0 hstr
  obtain ⟨U, hsteps, hrun, hend, hW, hsame, ce, hce, hO⟩ := X₁.ctorThrowS hexec htr (own := own) (cls := cls) (names := names) (ic := ic) hown' hcls hnames h (fun x hx => nomatch hx) hfX hkX hcellA (by rw [hhp, hT]; exact Nat.le_refl _) (msg := .ref sa) rfl
    (g := { method := m, pc := pc + 6, locals := ls, stack := .ref sa :: .ref T.heap.size :: .ref T.heap.size :: rest, locked := none }) rfl hsize rfl rfl (rest := rest) rfl
    (by rw [hb]; exact d6) (by rw [hb]; exact d9) hout hRframes (by simp only [List.map_cons, List.sum_cons, hcat]; omega) hlocks
  obtain ⟨f1, f2⟩ := vx_frame hsame
  rw [hhp] at f1 f2
  have hWs : s.WarmedH U.vm := State.WarmedH.trans hW0 hW
  have hcl : s.vm.findClass cls = some ce.cls := by
    have h9 := hO.cls
    rw [hvm] at h9
    exact h9
  have hall : s.sameButNew ({ U with vm := s.vm } : State) locs mc ms := by
    subst hA
    obtain ⟨e1, e2⟩ := hsame
    rw [State.setFrames_setFrames] at e1
    have h2 : (T.setVm s.vm).sameButNew ({ U with vm := s.vm } : State) [] (0 + 1) (0 + 6) := ⟨e1, e2⟩
    have h3 := X.same.trans h2
    rw [List.append_nil] at h3
    exact h3.mono hc hs
  refine ⟨U, ?_, .threw T.heap.size, hrun, hend, Or.inr ⟨T.heap.size, rfl, cls, ce, locs, hx U hWs.alike f1 (fun q hq => f2 q hq (fun z hz => nomatch hz)), hce, hO.vm, hcl, hWs, hall, hf⟩⟩
  refine st1 _ ?_
  show Steps p.tables e below (T1.setTop { method := m, pc := pc + 3, locals := ls, stack := .ref T.heap.size :: rest, locked := none }) _
  jvm_step X₁.here [X₁.here.top, hexec, d3', Value.category]
  exact X₁.ldcString hexec (own := own) (text := text) (index := is) (a := sa) hown' hstr'.1 hstr'.2
    (g := { method := m, pc := pc + 4, locals := ls, stack := .ref T.heap.size :: .ref T.heap.size :: rest, locked := none }) rfl d4' _ hsteps
/-- 'throw new E("text")', the text by a wide index -/
theorem vx_throwSW {cc : ByteArray} {pc : Nat} (hexec : p.tables.exec = Jvm.exec) (hb : c.code = cc) (hl : l.stackTraces = false) {own cls text : String} {names : List String} {ik is ic mc ms sa : Nat} {A : Nat → Prop}
    (hown : s.vm.findClass own = some m.cls) (hcls : Bundle.fit cls = true) (hnames : ∀ n ∈ names, Bundle.fit n = true)
    (hk : (Cond.classLink own ik cls).before args s = true) (hini : (Cond.initialized cls).before args s = true) (hstr : vk_R own is text sa s) (hat : ∀ w ∈ vx_atS own ic cls names, w.before args s = true)
    (hgood : ∀ w ∈ Cond.classLink own ik cls :: Cond.initialized cls :: vx_atS own ic cls names, vx_ot w = true)
    (hU : vx_Zq Bundle.tN "UNASSIGNED_STACK" Bundle.steD A s s.heap) (hN : vx_Zq Bundle.tN "SUPPRESSED_SENTINEL" Bundle.listD A s s.heap) (hS : va_S A s.heap H locs) (hsize : ls.size = c.maxLocals)
    (d0 : decode cc pc = .ok (.new ik, 3)) (d3 : decode cc (pc + 3) = .ok (.dup, 1)) (d4 : decode cc (pc + 4) = .ok (.ldc_w is, 3)) (d7 : decode cc (pc + 7) = .ok (.invokespecial ic, 3)) (d10 : decode cc (pc + 10) = .ok (.athrow, 1))
    (hout : ∀ x ∈ c.exceptionTable.toList, covers x (pc + 10) = false)
    (hRframes : names.length + 3 < R.frames) (hRlocals : (rest.map fun v => v.category).sum + (13 * (names.length + 1) + 43) ≤ R.locals) (hRcells : cells + 1 ≤ R.cells) (hRslots : slots + 6 ≤ R.slots) (hlocks : meth.locks = false)
    (hx : ∀ t : State, s.vm.Alike t.vm → H.size ≤ t.heap.size → (∀ q : Nat, q < H.size → t.heap[q]? = H[q]?) → XC cls s t)
    (hf : ∀ z ∈ locs, free z.base) (hc : cells + 1 ≤ mc) (hs : slots + 6 ≤ ms) :
    W p l e R s m args below meth c H locs cells slots (vx_MQ below Qc XC args s mc ms free) (F0 m pc ls rest) := by
  intro T hT X
  have htr : e.platform.stackTraces = false := (show e.platform.stackTraces = l.stackTraces by rw [X.admits.platform]).trans hl
  have Y := vx_rebase X (R' := { frames := R.frames, locals := R.locals, cells := 1, slots := 6 }) (Nat.le_refl _) (Nat.le_refl _) hRcells hRslots
  obtain ⟨s', hA⟩ : ∃ z, z = (T.setVm s.vm).setFrames (.invoking m args :: below) := ⟨_, rfl⟩
  rw [← hA] at Y
  have hvm : s'.vm = s.vm := by rw [hA]; rfl
  have hhp : s'.heap = H := by rw [hA]; exact hT
  have hW0 : s.WarmedH s'.vm := by rw [hvm]; exact State.WarmedH.refl s
  have hat' : ∀ w ∈ vx_atS own ic cls names, w.before args s' = true := fun w hw => vx_ot_at hW0 hvm.symm (hgood w (List.mem_cons_of_mem _ (List.mem_cons_of_mem _ hw))) (hat w hw)
  have hk' : (Cond.classLink own ik cls).before args s' = true := vx_ot_at hW0 hvm.symm (hgood _ List.mem_cons_self) hk
  have hini' : (Cond.initialized cls).before args s' = true := vx_ot_at hW0 hvm.symm (hgood _ (List.mem_cons_of_mem _ List.mem_cons_self)) hini
  have hU' : vx_Zq Bundle.tN "UNASSIGNED_STACK" Bundle.steD A s' s'.heap := by rw [hhp]; exact vx_Zq.moved hW0.alike (hU.kept hS.2.1)
  have hN' : vx_Zq Bundle.tN "SUPPRESSED_SENTINEL" Bundle.listD A s' s'.heap := by rw [hhp]; exact vx_Zq.moved hW0.alike (hN.kept hS.2.1)
  have h : ∀ w ∈ Bundle.ownAtoms own ic cls names, w.before args s' = true := vx_own hat' (vx_isRefq hU'.1) (vx_isRefq hN'.1) hU'.2.word hN'.2.word
  have hown' : s'.vm.findClass own = some m.cls := by rw [hvm]; exact hown
  have hins : (Cond.instantiable cls 6).before args s' = true := h _ (by simp [Bundle.ownAtoms])
  obtain ⟨vm₁, cX, kX, hfX, hkX, -, -, X₁, st1⟩ := Y.newCold hexec (own := own) (C := cls) (index := ik) (n := 6) hown' hk' hins hini'
    (g := F0 m pc ls rest) rfl (by rw [hb]; exact d0) (Nat.le_refl _) (Nat.le_refl _)
  generalize hT1 : (T.setVm vm₁).pushCell { cls := cX, slots := kX.instanceTypes.map defaultValue, vm := .none } = T1 at X₁ st1
  have hcat : (Value.ref T.heap.size).category = 1 := rfl
  have hcellA : T1.heap[T.heap.size]? = some (freshCell cX kX) := by rw [← hT1]; exact State.heap_pushCell_size _ _
  have d3' : decode c.code (pc + 3) = .ok (.dup, 1) := by rw [hb]; exact d3
  have d4' : decode c.code (pc + 4) = .ok (.ldc_w is, 3) := by rw [hb]; exact d4
  have hstr' : vk_R own is text sa s' := vk_R.warm hW0 hstr
  obtain ⟨U, hsteps, hrun, hend, hW, hsame, ce, hce, hO⟩ := X₁.ctorThrowS hexec htr (own := own) (cls := cls) (names := names) (ic := ic) hown' hcls hnames h (fun x hx => nomatch hx) hfX hkX hcellA (by rw [hhp, hT]; exact Nat.le_refl _) (msg := .ref sa) rfl
    (g := { method := m, pc := pc + 7, locals := ls, stack := .ref sa :: .ref T.heap.size :: .ref T.heap.size :: rest, locked := none }) rfl hsize rfl rfl (rest := rest) rfl
    (by rw [hb]; exact d7) (by rw [hb]; exact d10) hout hRframes (by simp only [List.map_cons, List.sum_cons, hcat]; omega) hlocks
  obtain ⟨f1, f2⟩ := vx_frame hsame
  rw [hhp] at f1 f2
  have hWs : s.WarmedH U.vm := State.WarmedH.trans hW0 hW
  have hcl : s.vm.findClass cls = some ce.cls := by
    have h9 := hO.cls
    rw [hvm] at h9
    exact h9
  have hall : s.sameButNew ({ U with vm := s.vm } : State) locs mc ms := by
    subst hA
    obtain ⟨e1, e2⟩ := hsame
    rw [State.setFrames_setFrames] at e1
    have h2 : (T.setVm s.vm).sameButNew ({ U with vm := s.vm } : State) [] (0 + 1) (0 + 6) := ⟨e1, e2⟩
    have h3 := X.same.trans h2
    rw [List.append_nil] at h3
    exact h3.mono hc hs
  refine ⟨U, ?_, .threw T.heap.size, hrun, hend, Or.inr ⟨T.heap.size, rfl, cls, ce, locs, hx U hWs.alike f1 (fun q hq => f2 q hq (fun z hz => nomatch hz)), hce, hO.vm, hcl, hWs, hall, hf⟩⟩
  refine st1 _ ?_
  show Steps p.tables e below (T1.setTop { method := m, pc := pc + 3, locals := ls, stack := .ref T.heap.size :: rest, locked := none }) _
  jvm_step X₁.here [X₁.here.top, hexec, d3', Value.category]
  exact X₁.ldcStringW hexec (own := own) (text := text) (index := is) (a := sa) hown' hstr'.1 hstr'.2
    (g := { method := m, pc := pc + 4, locals := ls, stack := .ref T.heap.size :: .ref T.heap.size :: rest, locked := none }) rfl d4' _ hsteps
end Ends
section Bodies
variable {l : Launch}
theorem vx_ofW {y : MethodName} {ws ws' : List Cond} {rm : Room} {Pc : Array Value → State → Prop} {Qc : Array Value → State → Outcome → State → Prop} {XC : String → State → State → Prop} {mc ms : Nat} {free : Addr → Prop} {cc : ByteArray} {maxL : Nat} {ret : Option FieldType}
    (hy : plainName y.cls = true) (hw : ws = Cond.code y cc maxL ret :: ws')
    (body : ∀ p e s m args below meth c s₁, BodyLoose p l y (headSpec ws rm) cc maxL ret e s m args below meth c s₁ → c.maxLocals = maxL → (∀ x ∈ c.exceptionTable.toList, False) → Pc args s →
      W p l e (headSpec ws rm).room s m args below meth c s.heap [] 0 0 (vx_MQ below Qc XC args s mc ms free) (entryFrame m args maxL)) : vx_Met l y ws rm Pc Qc XC mc ms free := by
  refine MetFree.of_bodyS (code := cc) (maxLocals := maxL) (ret := ret) hy ?_ ?_
  · intro args s m h hn
    obtain ⟨meth, c, h1, h2, h3, h4, h5, h6, -, -⟩ := Cond.code_spec hn (atoms_spec (ws := ws) h _ (by rw [hw]; exact List.mem_cons_self))
    exact ⟨meth, c, h1, h2, h3, h4, h5, h6⟩
  · intro p e s m args below meth c s₁ B hml hP _
    have hh0 : s₁.heap = s.heap := by rw [B.state]; rfl
    have ht : ∀ x ∈ c.exceptionTable.toList, False := by
      obtain ⟨meth9, c9, h1, h2, -, -, -, -, h7, -⟩ := Cond.code_spec B.named (atoms_spec (ws := ws) B.pre _ (by rw [hw]; exact List.mem_cons_self))
      cases Option.some.inj (h1.symm.trans B.method)
      cases Option.some.inj (h2.symm.trans (Stand.of_body B).code)
      intro x hx
      rw [Array.isEmpty_iff.mp h7] at hx
      cases hx
    obtain ⟨t, a1, o, b1, b2, b3⟩ := body p e s m args below meth c s₁ B hml ht hP s₁ hh0 (Stand.of_body B)
    exact ⟨t, o, a1, b1, b2, b3⟩
/-- the table of a body with handlers -/
theorem vx_table {p : Program} {x y : MethodName} {S : Spec} {cc bytes : ByteArray} {maxL maxL' : Nat} {ret ret' : Option FieldType} {e : Env} {s s₁ : State} {m : MethodId} {args : Array Value} {below : List Frame} {meth : Method} {c : Code} {hh : List (Nat × Nat × Nat × Nat)}
    (B : BodyLoose p l y S cc maxL ret e s m args below meth c s₁) (h : (Cond.codeWith y bytes maxL' ret' hh).before args s = true) : c.exceptionTable.toList = tableOf hh := by
  obtain ⟨m9, meth9, c9, hn9, h1, h2, -, -, h6, -⟩ := Cond.codeWith_spec h
  cases Option.some.inj (hn9.symm.trans B.named)
  cases Option.some.inj (h1.symm.trans B.method)
  cases Option.some.inj (h2.symm.trans (Stand.of_body B).code)
  rw [← h6, table_eq]
end Bodies
end VXA
/-! ===== END ===== -/
/-! ===== BEGIN a static call of a method with an exception table ===== -/
section VXS
variable {p : Program} {l : Launch} {e : Env} {R : Room} {s : State} {m : MethodId} {args : Array Value} {below : List Frame} {meth : Method} {c : Code} {T : State} {H : Heap} {locs : List Loc} {cells slots : Nat}
abbrev vx_CSW (R : Room) (s : State) (args : Array Value) (own : String) (index : Nat) (y : MethodName) (bytes : ByteArray) (maxL : Nat) (ret : Option FieldType) (hh : List (Nat × Nat × Nat × Nat)) (ws : List Cond) (rm : Room) (mc ms n : Nat) : Prop :=
  (rm.cells = mc ∧ rm.slots = ms ∧ rm.frames + 1 ≤ R.frames ∧ 8 + (maxL + 11) + rm.locals ≤ R.locals ∧ (∀ w ∈ ws, ∀ (a' : Array Value) (U : State), s.WarmedH U.vm → w.before a' U = true) ∧ Cond.codeWith y bytes maxL ret hh ∈ ws) ∧
  (Cond.codeWith y bytes maxL ret hh).before args s = true ∧ (Cond.initialized y.cls).before args s = true ∧ (y.cls ≠ "java/lang/invoke/MethodHandle" ∧ y.cls ≠ "java/lang/invoke/VarHandle") ∧
  (∀ sig, parseMethodDescriptor y.desc = some sig → n = sig.parameters.length) ∧ (Cond.methodLink own index y).before args s = true ∧ (Cond.static y).before args s = true
theorem vx_cwSW {own : String} {index maxL mc ms : Nat} {y : MethodName} {bytes : ByteArray} {ret : Option FieldType} {hh : List (Nat × Nat × Nat × Nat)} {Ts ws ws' : List Cond} {rm : Room} (n : Nat) (ht : ∀ w ∈ Ts, w.before args s = true) (hT : GoodIn Ts (va_wsS own index y ws)) (hw : ws = Cond.codeWith y bytes maxL ret hh :: ws') (hrc : rm.cells = mc) (hrs : rm.slots = ms)
    (hd : y.cls ≠ "java/lang/invoke/MethodHandle" ∧ y.cls ≠ "java/lang/invoke/VarHandle" ∧ (parseMethodDescriptor y.desc).map (fun d => d.parameters.length) = some n) (hR : rm.frames + 1 ≤ R.frames ∧ 8 + (maxL + 11) + rm.locals ≤ R.locals) :
    vx_CSW R s args own index y bytes maxL ret hh ws rm mc ms n := by
  have ok : ∀ w ∈ va_wsS own index y ws, w.before args s = true := fun w h => ht w (hT w h).1
  have hG : GoodIn Ts ws := fun w h => hT w (by unfold va_wsS; exact List.mem_append_right _ h)
  have hc : Cond.codeWith y bytes maxL ret hh ∈ ws := by rw [hw]; exact List.mem_cons_self
  refine ⟨⟨hrc, hrs, hR.1, hR.2, pay_in ht hG, hc⟩, ht _ (hG _ hc).1, ok _ (by simp [va_wsS]), ⟨hd.1, hd.2.1⟩, fun sig h => ?_, ok _ (by simp [va_wsS]), ok _ (by simp [va_wsS])⟩
  have h2 := hd.2.2
  rw [h] at h2
  exact (Option.some.inj h2).symm
theorem vx_callSW (X : Stand p l e R s m args below meth c T locs cells slots) (hexec : p.tables.exec = Jvm.exec) {own : String} {index : Nat} {y : MethodName} {bytes : ByteArray} {maxL : Nat} {ret : Option FieldType} {hh : List (Nat × Nat × Nat × Nat)}
    (hown : s.vm.findClass own = some m.cls) (hlink : (Cond.methodLink own index y).before args s = true) (hstat : (Cond.static y).before args s = true) (hinit : (Cond.initialized y.cls).before args s = true)
    (hcode : (Cond.codeWith y bytes maxL ret hh).before args s = true) (hy : y.cls ≠ "java/lang/invoke/MethodHandle" ∧ y.cls ≠ "java/lang/invoke/VarHandle")
    {W9 : Nat} {Pre : Pt → Array Value → Prop} {Post : Pt → Array Value → Option Value → Pt → Prop} (hK : Back l R p e below s args y 3 W9 Pre Post)
    {g : JFrame} (hg : g.method = m) (hsize : g.locals.size = c.maxLocals) {argsL rest : List Value} (hlen : ∀ sig, parseMethodDescriptor y.desc = some sig → argsL.length = sig.parameters.length)
    (hstack : g.stack = argsL.reverse ++ rest) (hW : 2 * g.monitorRoom + (rest.map fun v => v.category).sum ≤ W9) (hdg : decode c.code g.pc = .ok (.invokestatic index, 3))
    (hpre : ∀ vm₁, s.WarmedH vm₁ → Pre ⟨T.setVm vm₁, locs, cells, slots⟩ argsL.toArray) :
    ∃ (v : Option Value) (vm₁ : Vm) (B : Pt), s.WarmedH vm₁ ∧ Stand p l e R s m args below meth c B.U B.locs B.cells B.slots ∧ Post ⟨T.setVm vm₁, locs, cells, slots⟩ argsL.toArray v B ∧
      ∀ target, Steps p.tables e below (B.U.setTop { g with pc := g.pc + 3, stack := v.toList ++ rest }) target → Steps p.tables e below (T.setTop g) target := by
  obtain ⟨mk, methM, cM, hnamed, hmethM, -, -, -, -, -, -, hsigM⟩ := Cond.codeWith_spec hcode
  have hstatic : methM.isStatic = true := Cond.static_spec hnamed hmethM hstat
  obtain ⟨kP, hkP, -⟩ := className_of_methodNamed hnamed
  have hinitP : kP.init = .initialized := Cond.initialized_spec (findClass_of_methodNamed hnamed) hkP hinit
  obtain ⟨vm₁, X₁, hstep₁⟩ := X.invokestatic hexec hown hlink hnamed hmethM hstatic hkP hinitP hy (g := g) hg (argsL := argsL) (rest := rest) (hlen _ hsigM) hstack hdg
  obtain ⟨v, B, X', hpost, hsteps⟩ := hK m meth c ⟨T.setVm vm₁, locs, cells, slots⟩ { g with stack := rest } (.invokestatic index) mk argsL.toArray X₁ hg hsize hdg hW (X₁.named hnamed) (hpre vm₁ X₁.warmed)
  exact ⟨v, vm₁, B, X₁.warmed, X', hpost, fun target h => hstep₁ _ fun acts => by rw [doInvoke_state]; exact hsteps.trans h⟩
theorem vx_runSW {y : MethodName} {bytes cc : ByteArray} {maxL nL mc ms n index : Nat} {ret : Option FieldType} {hh : List (Nat × Nat × Nat × Nat)} {ws : List Cond} {rm : Room} {Pc : Array Value → State → Prop} {Qc : Array Value → State → Outcome → State → Prop} {free : Addr → Prop} {Ts : List Cond} {own : String} {As rest : List Value} {g : JFrame}
    (S : CallFix p m c cc nL s args Ts own) (hM : Met l y ws rm Pc Qc mc ms free) (cw : vx_CSW R s args own index y bytes maxL ret hh ws rm mc ms n) (hp : PreS s H Pc As)
    (hg : g.method = m) (hn : As.length = n) (hsize : g.locals.size = nL) (hstack : g.stack = As.reverse ++ rest) (hW : 2 * g.monitorRoom + (rest.map fun v => v.category).sum ≤ 8) (hdg : decode cc g.pc = .ok (.invokestatic index, 3)) (hf : cells + mc ≤ R.cells ∧ slots + ms ≤ R.slots) :
    va_Run p l e R s m args below meth c H locs cells slots mc ms g rest (Qc As.toArray) (free) := by
  obtain ⟨⟨hrc, hrs, hfr, hlo, hws, hcw⟩, hcode, hini, hy, hlen, hl, hstt⟩ := cw
  have hK : Back l R p e below s args y 3 8 (PreOf R mc ms Pc) (PostOf Qc mc ms free) := va_backW (hh := hh) (bytes := bytes) (maxL := maxL) (ret := ret) hM hp.1 hrc hrs hfr hlo hws hcw (fun a' U hW => word_at hW (Or.inl (by first | rfl | simp [Cond.onTables, Cond.keeps, Cond.steady])) hini)
  obtain ⟨hx, hb, hml, ho, -⟩ := S
  intro T hT X
  obtain ⟨v, vm₁, ⟨U', l2, c2, s2⟩, hW₁, X', ⟨g', mk, t, L, e1, e2, hq, h1, hL, h2, h3⟩, st⟩ := vx_callSW X hx (hh := hh) (bytes := bytes) (maxL := maxL) (ret := ret) ho hl hstt hini hcode hy hK hg (hsize.trans hml.symm) (argsL := As) (rest := rest) (fun sig h => hn.trans (hlen sig h)) hstack hW (by rw [hb]; exact hdg)
    (fun vm₁ hW₁ => ⟨hf.1, hf.2, hp.2 (T.setVm vm₁) hT hW₁⟩)
  dsimp only [Pt.U, Pt.locs, Pt.cells, Pt.slots] at X' e1 e2 h1 h2 h3 st
  subst h1; subst h2; subst h3
  exact ⟨v, (T.setVm vm₁).calling g' mk As.toArray, t, U', L, hT, X', hL, e1, e2, hq, st⟩
/-- a thing of a world lies in the heap -/
theorem vx_lt {D : va_G} {cl : List vw_C} {ws : va_W} {H1 : Heap} (h : va_P D cl ws H1) {k : Nat} {q : Nat × va_E} (hk : ws[k]? = some q) : q.1 < H1.size := (h k q hk).lt
end VXS
/-! ===== END ===== -/
/-! ===== BEGIN methods with a table of their own: called by a name, returning or throwing ===== -/
section VXH
/-! vx_backW, vx_callVX, vx_callSX, vx_callVW, vx_runVW, vx_runVX, vx_runSX, vx_ofWH follow the same proofs as their sisters above (Free/Laws.lean, Shelf42/LK1.lean); vx_outP calls Shelf42/NT130.lean (outThrough). -/
section
variable {l : Launch} {R : Room} {p : Program} {e : Env} {below : List Frame} {s : State} {sargs : Array Value} {y : MethodName} {len W9 : Nat}
theorem vx_backW {ws : List Cond} {rm : Room} {Pc : Array Value → State → Prop} {Qc : Array Value → State → Outcome → State → Prop} {XC : String → State → State → Prop} {mc ms : Nat} {free : Addr → Prop} {bytes : ByteArray} {maxL : Nat} {ret : Option FieldType} {hh : List (Nat × Nat × Nat × Nat)}
    (hM : vx_Met l y ws rm Pc Qc XC mc ms free) (hblind : FrameBlind Pc) (hrc : rm.cells = mc) (hrs : rm.slots = ms)
    (hframes : rm.frames + 1 ≤ R.frames) (hlocals : W9 + (maxL + 11) + rm.locals ≤ R.locals)
    (hws : ∀ w ∈ ws, ∀ a' U, s.WarmedH U.vm → w.before a' U = true) (hcode : Cond.codeWith y bytes maxL ret hh ∈ ws) (hinit : ∀ a' U, s.WarmedH U.vm → (Cond.initialized y.cls).before a' U = true) :
    vx_Back l R p e below s sargs y len W9 (PreOf R mc ms Pc) (PostOf Qc mc ms free) (vx_Post XC mc ms free) := by
  intro m meth c A g ig mk a X hg hsize hdg hW hn hp
  have h1 : (headSpec ws rm).pre.before a A.U = true := atoms_intro fun w hw => hws w hw _ _ X.warmed
  have h2 : (Cond.codeWith y bytes maxL ret hh).before a A.U = true := hws _ hcode _ _ X.warmed
  have h3 : (Cond.initialized y.cls).before a A.U = true := hinit _ _ X.warmed
  have h4 : A.cells + (headSpec ws rm).room.cells ≤ R.cells := by rw [show (headSpec ws rm).room.cells = mc from hrc]; exact hp.1
  have h5 : A.slots + (headSpec ws rm).room.slots ≤ R.slots := by rw [show (headSpec ws rm).room.slots = ms from hrs]; exact hp.2.1
  have hPc : Pc a (A.U.calling g mk a) := hblind _ _ _ _ hp.2.2
  obtain ⟨U, Ls, c0, s0⟩ := A
  dsimp only [Pt.U, Pt.locs, Pt.cells, Pt.slots] at h1 h2 h3 h4 h5 X hn hPc ⊢
  obtain ⟨m9, methY, cY, hn9, hmY, hcY, -, hlY, -⟩ := Cond.codeWith_spec h2
  cases Option.some.inj (hn9.symm.trans hn)
  obtain ⟨kY, hkY, -⟩ := className_of_methodNamed hn
  have hinitY : kY.init = .initialized := Cond.initialized_spec (findClass_of_methodNamed hn) hkY h3
  have h : At U g.method c below := by rw [hg]; exact X.here
  have hlocals9 : W9 + (maxL + 11) + (headSpec ws rm).room.locals ≤ R.locals := hlocals
  have happ : (headSpec ws rm).appliesLoose y e.platform (U.calling g mk a) = true :=
    Spec.appliesLoose_calling (g := g) h hdg hn hkY hinitY
      (X.room_calling (g := g) (R' := (headSpec ws rm).room) hsize hmY hcY hframes (by rw [hlY]; omega) h4 h5) h1
  obtain ⟨mid, hmid⟩ := h.above
  have hfr : (U.setTop g).frames = (.java g :: mid) ++ below := by rw [State.frames_setTop' g h.top, hmid]; rfl
  obtain ⟨o, s₂, hsteps, -, hend, hq⟩ := Steps.callFree hM p X.admits X.cas X.clock (acts := []) hfr happ hPc trivial
  have hq' : vx_Q Qc XC mc ms free a (U.calling g mk a) o s₂ := hq
  rw [State.frames_setTop' g h.top] at hend
  obtain ⟨g₀, hg0⟩ := Option.isSome_iff_exists.mp h.top
  obtain ⟨r, hr⟩ := State.topJava?_eq_some.mp hg0
  have hr' : (({ U with heap := s₂.heap, slotsUsed := s₂.slotsUsed } : State).setVm s₂.vm).frames = .java g₀ :: r := hr
  rcases hq' with ⟨hqc, L, hfe, hL⟩ | ⟨q, rfl, E, ce, L, hx, hce, hcv, hcl, hW₂, hsm, hL⟩
  · obtain ⟨⟨v, rfl⟩, hW₂, e2, q2, q3, q4, q5, q6⟩ := id hfe
    have e3 : s₂ = ({ (U.calling g mk a).setFrames s₂.frames with heap := s₂.heap, slotsUsed := s₂.slotsUsed } : State).setVm s₂.vm := by
      have : s₂ = ({ s₂ with vm := (U.calling g mk a).vm } : State).setVm s₂.vm := rfl
      rw [e2] at this
      exact this
    obtain ⟨c₂, i₂, len₂, hc₂, hd₂, hf₂⟩ := hend
    have hW' : U.WarmedH s₂.vm := hW₂
    have hcc : c₂ = c := by
      have h1 : s₂.code? g.method = U.code? g.method := by
        rw [State.code?_eq, State.code?_eq, hW'.alike.method?]
      exact Option.some.inj (hc₂.symm.trans (h1.trans h.code))
    subst hcc
    have hlen : len₂ = len := by rw [hdg] at hd₂; cases hd₂; rfl
    subst hlen
    have hs₂ : s₂ = (({ U with heap := s₂.heap, slotsUsed := s₂.slotsUsed } : State).setVm s₂.vm).setTop { g with pc := g.pc + len₂, stack := v.toList ++ g.stack } := by
      refine e3.trans ?_
      rw [hf₂, State.calling_eq h.top, State.setFrames_setFrames, State.setTop_of_frames _ hr', hr]
      rfl
    have hsame : U.sameButNew ({ U with heap := s₂.heap, slotsUsed := s₂.slotsUsed } : State) L mc ms := by
      refine ⟨?_, q2, q3, q4, q5, q6⟩
      obtain ⟨t, ht, -⟩ := State.frames_cons hr
      show ({ U with heap := s₂.heap, slotsUsed := s₂.slotsUsed } : State) = { U.setFrames U.frames with heap := s₂.heap, slotsUsed := s₂.slotsUsed }
      rw [State.setFrames_self ht]
    subst hg
    refine Or.inl ⟨v, ⟨(({ U with heap := s₂.heap, slotsUsed := s₂.slotsUsed } : State).setVm s₂.vm), Ls ++ L, c0 + mc, s0 + ms⟩,
      ⟨X.admits, X.cas, X.clock, X.frames, X.room, X.hears, X.method, X.code, (X.here.setHeapUsed s₂.heap s₂.slotsUsed).setVm hW'.alike, X.tail, State.WarmedH.trans X.warmed hW', X.limits, X.bytes, X.same.trans (hsame.setVm s.vm)⟩,
      ⟨g, mk, s₂, L, rfl, rfl, hqc, rfl, hL, rfl, rfl⟩, ?_⟩
    show Steps p.tables e below _ ((({ U with heap := s₂.heap, slotsUsed := s₂.slotsUsed } : State).setVm s₂.vm).setTop { g with pc := g.pc + len₂, stack := v.toList ++ g.stack })
    rw [← hs₂]
    exact hsteps
  · obtain ⟨e2, q2, q3, q4, q5, q6⟩ := id hsm
    have e3 : s₂ = ({ (U.calling g mk a).setFrames s₂.frames with heap := s₂.heap, slotsUsed := s₂.slotsUsed } : State).setVm s₂.vm := by
      have : s₂ = ({ s₂ with vm := (U.calling g mk a).vm } : State).setVm s₂.vm := rfl
      rw [e2] at this
      exact this
    have hf₂ : s₂.frames = .throwing q :: .java g :: U.frames.tail := hend
    have hW' : U.WarmedH s₂.vm := hW₂
    have hs₂ : s₂ = ((({ U with heap := s₂.heap, slotsUsed := s₂.slotsUsed } : State).setVm s₂.vm).setTop g).pushFrame (.throwing q) := by
      refine e3.trans ?_
      rw [hf₂, State.calling_eq h.top, State.setFrames_setFrames, State.pushFrame, State.frames_setTop _ hr', State.setTop_of_frames _ hr', State.setFrames_setFrames, hr]
      rfl
    have hsame : U.sameButNew ({ U with heap := s₂.heap, slotsUsed := s₂.slotsUsed } : State) L mc ms := by
      refine ⟨?_, q2, q3, q4, q5, q6⟩
      obtain ⟨t, ht, -⟩ := State.frames_cons hr
      show ({ U with heap := s₂.heap, slotsUsed := s₂.slotsUsed } : State) = { U.setFrames U.frames with heap := s₂.heap, slotsUsed := s₂.slotsUsed }
      rw [State.setFrames_self ht]
    subst hg
    refine Or.inr ⟨q, ⟨(({ U with heap := s₂.heap, slotsUsed := s₂.slotsUsed } : State).setVm s₂.vm), Ls ++ L, c0 + mc, s0 + ms⟩,
      ⟨X.admits, X.cas, X.clock, X.frames, X.room, X.hears, X.method, X.code, (X.here.setHeapUsed s₂.heap s₂.slotsUsed).setVm hW'.alike, X.tail, State.WarmedH.trans X.warmed hW', X.limits, X.bytes, X.same.trans (hsame.setVm s.vm)⟩,
      ⟨g, mk, s₂, L, E, ce, rfl, rfl, hx, hce, hcv, hcl, rfl, hL, rfl, rfl⟩, ?_⟩
    show Steps p.tables e below _ (((({ U with heap := s₂.heap, slotsUsed := s₂.slotsUsed } : State).setVm s₂.vm).setTop g).pushFrame (.throwing q))
    rw [← hs₂]
    exact hsteps
end
variable {p : Program} {l : Launch} {e : Env} {R : Room} {s : State} {m : MethodId} {args : Array Value} {below : List Frame} {meth : Method} {c : Code} {T : State} {H : Heap} {locs : List Loc} {cells slots : Nat}
theorem vx_callVX (X : Stand p l e R s m args below meth c T locs cells slots) (hexec : p.tables.exec = Jvm.exec) {own C : String} {index : Nat} {y : MethodName} {bytes : ByteArray} {maxL : Nat} {ret : Option FieldType} {hh : List (Nat × Nat × Nat × Nat)}
    (hown : s.vm.findClass own = some m.cls) (hlink : (Cond.methodLink own index y).before args s = true) (hinst : (Cond.instanceMethod y).before args s = true) (hsel : (Cond.selects C y y).before args s = true)
    (hcode : (Cond.codeWith y bytes maxL ret hh).before args s = true) (hy : y.cls ≠ "java/lang/invoke/MethodHandle" ∧ y.cls ≠ "java/lang/invoke/VarHandle")
    {W9 : Nat} {Pre : Pt → Array Value → Prop} {Post : Pt → Array Value → Option Value → Pt → Prop} {PostX : Pt → Array Value → Addr → Pt → Prop} (hK : vx_Back l R p e below s args y 3 W9 Pre Post PostX)
    {b : Addr} {cellB : Cell} (hcell : T.heap[b]? = some cellB) (hobj : cellB.vm.isStatics = false) (hcls : s.vm.findClass C = some cellB.cls)
    {g : JFrame} (hg : g.method = m) (hsize : g.locals.size = c.maxLocals) {argsL rest : List Value} (hlen : ∀ sig, parseMethodDescriptor y.desc = some sig → argsL.length = sig.parameters.length)
    (hstack : g.stack = argsL.reverse ++ .ref b :: rest) (hW : 2 * g.monitorRoom + (rest.map fun v => v.category).sum ≤ W9) (hdg : decode c.code g.pc = .ok (.invokevirtual index, 3))
    (hpre : ∀ vm₁, s.WarmedH vm₁ → Pre ⟨T.setVm vm₁, locs, cells, slots⟩ (Value.ref b :: argsL).toArray) :
    (∃ (v : Option Value) (vm₁ : Vm) (B : Pt), s.WarmedH vm₁ ∧ Stand p l e R s m args below meth c B.U B.locs B.cells B.slots ∧ Post ⟨T.setVm vm₁, locs, cells, slots⟩ (Value.ref b :: argsL).toArray v B ∧
      ∀ target, Steps p.tables e below (B.U.setTop { g with pc := g.pc + 3, stack := v.toList ++ rest }) target → Steps p.tables e below (T.setTop g) target) ∨
    (∃ (q : Addr) (vm₁ : Vm) (B : Pt), s.WarmedH vm₁ ∧ Stand p l e R s m args below meth c B.U B.locs B.cells B.slots ∧ PostX ⟨T.setVm vm₁, locs, cells, slots⟩ (Value.ref b :: argsL).toArray q B ∧
      Steps p.tables e below (T.setTop g) ((B.U.setTop { g with stack := rest }).pushFrame (.throwing q))) := by
  obtain ⟨mk, methM, hnamed, hmethM, hstM, habM⟩ := Cond.instanceMethod_spec hinst
  obtain ⟨m8, methM', cM, hn8, hmethM', -, -, -, -, -, -, hsigM⟩ := Cond.codeWith_spec hcode
  cases Option.some.inj (hn8.symm.trans hnamed)
  cases hmethM.symm.trans hmethM'
  obtain ⟨c2, r2, m2, q1, q2, q3, q4, kP, hkP, hkPi⟩ := Cond.selects_spec hsel
  cases hcls.symm.trans q1
  cases (State.methodFound?_of_named hnamed hy).symm.trans q2
  cases hnamed.symm.trans q3
  have hselP : selectMethod e.platform s.vm cellB.cls mk = .method mk := by rw [Launch.admits_selectMethod X.admits]; exact q4
  obtain ⟨vm₁, X₁, hstep₁⟩ := X.invokevirtual hexec hown hlink hnamed hmethM hstM hkP hkPi hy (a := b) (cell := cellB) hcell
    (fun z h => by rw [h] at hobj; cases hobj) hselP hmethM habM hkP hkPi (g := g) hg (argsL := argsL) (rest := rest) (hlen _ hsigM) hstack hdg
  rcases hK m meth c ⟨T.setVm vm₁, locs, cells, slots⟩ { g with stack := rest } (.invokevirtual index) mk (Value.ref b :: argsL).toArray X₁ hg hsize hdg hW (X₁.named hnamed) (hpre vm₁ X₁.warmed) with ⟨v, B, X', hpost, hsteps⟩ | ⟨q, B, X', hpost, hsteps⟩
  · exact Or.inl ⟨v, vm₁, B, X₁.warmed, X', hpost, fun target h => hstep₁ _ fun acts => by rw [doInvoke_state]; exact hsteps.trans h⟩
  · exact Or.inr ⟨q, vm₁, B, X₁.warmed, X', hpost, hstep₁ _ fun acts => by rw [doInvoke_state]; exact hsteps⟩
theorem vx_callSX (X : Stand p l e R s m args below meth c T locs cells slots) (hexec : p.tables.exec = Jvm.exec) {own : String} {index : Nat} {y : MethodName} {bytes : ByteArray} {maxL : Nat} {ret : Option FieldType} {hh : List (Nat × Nat × Nat × Nat)}
    (hown : s.vm.findClass own = some m.cls) (hlink : (Cond.methodLink own index y).before args s = true) (hstat : (Cond.static y).before args s = true) (hinit : (Cond.initialized y.cls).before args s = true)
    (hcode : (Cond.codeWith y bytes maxL ret hh).before args s = true) (hy : y.cls ≠ "java/lang/invoke/MethodHandle" ∧ y.cls ≠ "java/lang/invoke/VarHandle")
    {W9 : Nat} {Pre : Pt → Array Value → Prop} {Post : Pt → Array Value → Option Value → Pt → Prop} {PostX : Pt → Array Value → Addr → Pt → Prop} (hK : vx_Back l R p e below s args y 3 W9 Pre Post PostX)
    {g : JFrame} (hg : g.method = m) (hsize : g.locals.size = c.maxLocals) {argsL rest : List Value} (hlen : ∀ sig, parseMethodDescriptor y.desc = some sig → argsL.length = sig.parameters.length)
    (hstack : g.stack = argsL.reverse ++ rest) (hW : 2 * g.monitorRoom + (rest.map fun v => v.category).sum ≤ W9) (hdg : decode c.code g.pc = .ok (.invokestatic index, 3))
    (hpre : ∀ vm₁, s.WarmedH vm₁ → Pre ⟨T.setVm vm₁, locs, cells, slots⟩ argsL.toArray) :
    (∃ (v : Option Value) (vm₁ : Vm) (B : Pt), s.WarmedH vm₁ ∧ Stand p l e R s m args below meth c B.U B.locs B.cells B.slots ∧ Post ⟨T.setVm vm₁, locs, cells, slots⟩ argsL.toArray v B ∧
      ∀ target, Steps p.tables e below (B.U.setTop { g with pc := g.pc + 3, stack := v.toList ++ rest }) target → Steps p.tables e below (T.setTop g) target) ∨
    (∃ (q : Addr) (vm₁ : Vm) (B : Pt), s.WarmedH vm₁ ∧ Stand p l e R s m args below meth c B.U B.locs B.cells B.slots ∧ PostX ⟨T.setVm vm₁, locs, cells, slots⟩ argsL.toArray q B ∧
      Steps p.tables e below (T.setTop g) ((B.U.setTop { g with stack := rest }).pushFrame (.throwing q))) := by
  obtain ⟨mk, methM, cM, hnamed, hmethM, -, -, -, -, -, -, hsigM⟩ := Cond.codeWith_spec hcode
  have hstatic : methM.isStatic = true := Cond.static_spec hnamed hmethM hstat
  obtain ⟨kP, hkP, -⟩ := className_of_methodNamed hnamed
  have hinitP : kP.init = .initialized := Cond.initialized_spec (findClass_of_methodNamed hnamed) hkP hinit
  obtain ⟨vm₁, X₁, hstep₁⟩ := X.invokestatic hexec hown hlink hnamed hmethM hstatic hkP hinitP hy (g := g) hg (argsL := argsL) (rest := rest) (hlen _ hsigM) hstack hdg
  rcases hK m meth c ⟨T.setVm vm₁, locs, cells, slots⟩ { g with stack := rest } (.invokestatic index) mk argsL.toArray X₁ hg hsize hdg hW (X₁.named hnamed) (hpre vm₁ X₁.warmed) with ⟨v, B, X', hpost, hsteps⟩ | ⟨q, B, X', hpost, hsteps⟩
  · exact Or.inl ⟨v, vm₁, B, X₁.warmed, X', hpost, fun target h => hstep₁ _ fun acts => by rw [doInvoke_state]; exact hsteps.trans h⟩
  · exact Or.inr ⟨q, vm₁, B, X₁.warmed, X', hpost, hstep₁ _ fun acts => by rw [doInvoke_state]; exact hsteps⟩
theorem vx_callVW (X : Stand p l e R s m args below meth c T locs cells slots) (hexec : p.tables.exec = Jvm.exec) {own C : String} {index : Nat} {y : MethodName} {bytes : ByteArray} {maxL : Nat} {ret : Option FieldType} {hh : List (Nat × Nat × Nat × Nat)}
    (hown : s.vm.findClass own = some m.cls) (hlink : (Cond.methodLink own index y).before args s = true) (hinst : (Cond.instanceMethod y).before args s = true) (hsel : (Cond.selects C y y).before args s = true)
    (hcode : (Cond.codeWith y bytes maxL ret hh).before args s = true) (hy : y.cls ≠ "java/lang/invoke/MethodHandle" ∧ y.cls ≠ "java/lang/invoke/VarHandle")
    {W9 : Nat} {Pre : Pt → Array Value → Prop} {Post : Pt → Array Value → Option Value → Pt → Prop} (hK : Back l R p e below s args y 3 W9 Pre Post)
    {b : Addr} {cellB : Cell} (hcell : T.heap[b]? = some cellB) (hobj : cellB.vm.isStatics = false) (hcls : s.vm.findClass C = some cellB.cls)
    {g : JFrame} (hg : g.method = m) (hsize : g.locals.size = c.maxLocals) {argsL rest : List Value} (hlen : ∀ sig, parseMethodDescriptor y.desc = some sig → argsL.length = sig.parameters.length)
    (hstack : g.stack = argsL.reverse ++ .ref b :: rest) (hW : 2 * g.monitorRoom + (rest.map fun v => v.category).sum ≤ W9) (hdg : decode c.code g.pc = .ok (.invokevirtual index, 3))
    (hpre : ∀ vm₁, s.WarmedH vm₁ → Pre ⟨T.setVm vm₁, locs, cells, slots⟩ (Value.ref b :: argsL).toArray) :
    ∃ (v : Option Value) (vm₁ : Vm) (B : Pt), s.WarmedH vm₁ ∧ Stand p l e R s m args below meth c B.U B.locs B.cells B.slots ∧ Post ⟨T.setVm vm₁, locs, cells, slots⟩ (Value.ref b :: argsL).toArray v B ∧
      ∀ target, Steps p.tables e below (B.U.setTop { g with pc := g.pc + 3, stack := v.toList ++ rest }) target → Steps p.tables e below (T.setTop g) target := by
  obtain ⟨mk, methM, hnamed, hmethM, hstM, habM⟩ := Cond.instanceMethod_spec hinst
  obtain ⟨m8, methM', cM, hn8, hmethM', -, -, -, -, -, -, hsigM⟩ := Cond.codeWith_spec hcode
  cases Option.some.inj (hn8.symm.trans hnamed)
  cases hmethM.symm.trans hmethM'
  obtain ⟨c2, r2, m2, q1, q2, q3, q4, kP, hkP, hkPi⟩ := Cond.selects_spec hsel
  cases hcls.symm.trans q1
  cases (State.methodFound?_of_named hnamed hy).symm.trans q2
  cases hnamed.symm.trans q3
  have hselP : selectMethod e.platform s.vm cellB.cls mk = .method mk := by rw [Launch.admits_selectMethod X.admits]; exact q4
  obtain ⟨vm₁, X₁, hstep₁⟩ := X.invokevirtual hexec hown hlink hnamed hmethM hstM hkP hkPi hy (a := b) (cell := cellB) hcell
    (fun z h => by rw [h] at hobj; cases hobj) hselP hmethM habM hkP hkPi (g := g) hg (argsL := argsL) (rest := rest) (hlen _ hsigM) hstack hdg
  obtain ⟨v, B, X', hpost, hsteps⟩ := hK m meth c ⟨T.setVm vm₁, locs, cells, slots⟩ { g with stack := rest } (.invokevirtual index) mk (Value.ref b :: argsL).toArray X₁ hg hsize hdg hW (X₁.named hnamed) (hpre vm₁ X₁.warmed)
  exact ⟨v, vm₁, B, X₁.warmed, X', hpost, fun target h => hstep₁ _ fun acts => by rw [doInvoke_state]; exact hsteps.trans h⟩
abbrev vx_CVW (R : Room) (s : State) (args : Array Value) (own C : String) (index : Nat) (y : MethodName) (bytes : ByteArray) (maxL : Nat) (ret : Option FieldType) (hh : List (Nat × Nat × Nat × Nat)) (ws : List Cond) (rm : Room) (mc ms n : Nat) : Prop :=
  (rm.cells = mc ∧ rm.slots = ms ∧ rm.frames + 1 ≤ R.frames ∧ 8 + (maxL + 11) + rm.locals ≤ R.locals ∧ (∀ w ∈ ws, ∀ (a' : Array Value) (U : State), s.WarmedH U.vm → w.before a' U = true) ∧ Cond.codeWith y bytes maxL ret hh ∈ ws) ∧
  (Cond.codeWith y bytes maxL ret hh).before args s = true ∧ (Cond.initialized y.cls).before args s = true ∧ (y.cls ≠ "java/lang/invoke/MethodHandle" ∧ y.cls ≠ "java/lang/invoke/VarHandle") ∧
  (∀ sig, parseMethodDescriptor y.desc = some sig → n = sig.parameters.length) ∧ (Cond.methodLink own index y).before args s = true ∧ (Cond.instanceMethod y).before args s = true ∧ (Cond.selects C y y).before args s = true
theorem vx_cwVW {own C : String} {index maxL mc ms : Nat} {y : MethodName} {bytes : ByteArray} {ret : Option FieldType} {hh : List (Nat × Nat × Nat × Nat)} {Ts ws ws' : List Cond} {rm : Room} (n : Nat) (ht : ∀ w ∈ Ts, w.before args s = true) (hT : GoodIn Ts (wsV own index C y ws)) (hw : ws = Cond.codeWith y bytes maxL ret hh :: ws') (hrc : rm.cells = mc) (hrs : rm.slots = ms)
    (hd : y.cls = C ∧ y.cls ≠ "java/lang/invoke/MethodHandle" ∧ y.cls ≠ "java/lang/invoke/VarHandle" ∧ (parseMethodDescriptor y.desc).map (fun d => d.parameters.length) = some n) (hR : rm.frames + 1 ≤ R.frames ∧ 8 + (maxL + 11) + rm.locals ≤ R.locals) :
    vx_CVW R s args own C index y bytes maxL ret hh ws rm mc ms n := by
  obtain ⟨hC, hd⟩ := hd
  subst hC
  have ok : ∀ w ∈ wsV own index y.cls y ws, w.before args s = true := fun w h => ht w (hT w h).1
  have hG : GoodIn Ts ws := fun w h => hT w (by unfold wsV; exact List.mem_append_right _ h)
  have hc : Cond.codeWith y bytes maxL ret hh ∈ ws := by rw [hw]; exact List.mem_cons_self
  refine ⟨⟨hrc, hrs, hR.1, hR.2, pay_in ht hG, hc⟩, ht _ (hG _ hc).1, ok _ (by simp [wsV]), ⟨hd.1, hd.2.1⟩, fun sig h => ?_, ok _ (by simp [wsV]), ok _ (by simp [wsV]), ok _ (by simp [wsV])⟩
  have h2 := hd.2.2
  rw [h] at h2
  exact (Option.some.inj h2).symm
theorem vx_runVW {y : MethodName} {bytes cc : ByteArray} {maxL nL mc ms n index : Nat} {ret : Option FieldType} {hh : List (Nat × Nat × Nat × Nat)} {ws : List Cond} {rm : Room} {Pc : Array Value → State → Prop} {Qc : Array Value → State → Outcome → State → Prop} {free : Addr → Prop} {Ts : List Cond} {own C : String} {b : Addr} {As rest : List Value} {g : JFrame}
    (S : CallFix p m c cc nL s args Ts own) (hM : Met l y ws rm Pc Qc mc ms free) (cw : vx_CVW R s args own C index y bytes maxL ret hh ws rm mc ms n) (hp : PreV s H C b Pc As)
    (hg : g.method = m) (hn : As.length = n) (hsize : g.locals.size = nL) (hstack : g.stack = As.reverse ++ .ref b :: rest) (hW : 2 * g.monitorRoom + (rest.map fun v => v.category).sum ≤ 8) (hdg : decode cc g.pc = .ok (.invokevirtual index, 3)) (hf : cells + mc ≤ R.cells ∧ slots + ms ≤ R.slots) :
    va_Run p l e R s m args below meth c H locs cells slots mc ms g rest (Qc (Value.ref b :: As).toArray) free := by
  obtain ⟨⟨hrc, hrs, hfr, hlo, hws, hcw⟩, hcode, hini, hy, hlen, hl, hin, hse⟩ := cw
  have hK : Back l R p e below s args y 3 8 (PreOf R mc ms Pc) (PostOf Qc mc ms free) := va_backW (hh := hh) (bytes := bytes) (maxL := maxL) (ret := ret) hM hp.1 hrc hrs hfr hlo hws hcw (fun a' U hW => word_at hW (Or.inl (by first | rfl | simp [Cond.onTables, Cond.keeps, Cond.steady])) hini)
  obtain ⟨hx, hb, hml, ho, -⟩ := S
  obtain ⟨-, ⟨cellB, hcB, hoB, hclB⟩, hPc⟩ := hp
  intro T hT X
  obtain ⟨v, vm₁, ⟨U', l2, c2, s2⟩, hW₁, X', ⟨g', mk, t, L, e1, e2, hq, h1, hL, h2, h3⟩, st⟩ := vx_callVW X hx (C := C) (hh := hh) (bytes := bytes) (maxL := maxL) (ret := ret) ho hl hin hse hcode hy hK (by rw [hT]; exact hcB) hoB hclB hg (hsize.trans hml.symm) (argsL := As) (rest := rest) (fun sig h => hn.trans (hlen sig h)) hstack hW (by rw [hb]; exact hdg)
    (fun vm₁ hW₁ => ⟨hf.1, hf.2, hPc (T.setVm vm₁) hT hW₁⟩)
  dsimp only [Pt.U, Pt.locs, Pt.cells, Pt.slots] at X' e1 e2 h1 h2 h3 st
  subst h1; subst h2; subst h3
  exact ⟨v, (T.setVm vm₁).calling g' mk (Value.ref b :: As).toArray, t, U', L, hT, X', hL, e1, e2, hq, st⟩
section
variable {y : MethodName} {bytes cc : ByteArray} {maxL nL mc ms n index : Nat} {ret : Option FieldType} {ws : List Cond} {rm : Room} {Pc : Array Value → State → Prop} {Qc : Array Value → State → Outcome → State → Prop} {XC : String → State → State → Prop} {free : Addr → Prop} {Ts : List Cond} {own C : String} {b : Addr} {As rest : List Value} {g : JFrame}
theorem vx_runVX {hh : List (Nat × Nat × Nat × Nat)} (S : CallFix p m c cc nL s args Ts own) (hM : vx_Met l y ws rm Pc Qc XC mc ms free) (cw : vx_CVW R s args own C index y bytes maxL ret hh ws rm mc ms n) (hp : PreV s H C b Pc As)
    (hg : g.method = m) (hn : As.length = n) (hsize : g.locals.size = nL) (hstack : g.stack = As.reverse ++ .ref b :: rest) (hW : 2 * g.monitorRoom + (rest.map fun v => v.category).sum ≤ 8) (hdg : decode cc g.pc = .ok (.invokevirtual index, 3)) (hf : cells + mc ≤ R.cells ∧ slots + ms ≤ R.slots) :
    vx_Run p l e R s m args below meth c H locs cells slots mc ms g rest (Qc (Value.ref b :: As).toArray) XC free := by
  obtain ⟨⟨hrc, hrs, hfr, hlo, hws, hcw⟩, hcode, hini, hy, hlen, hl, hin, hse⟩ := cw
  have hK : vx_Back l R p e below s args y 3 8 (PreOf R mc ms Pc) (PostOf Qc mc ms free) (vx_Post XC mc ms free) := vx_backW (hh := hh) (bytes := bytes) (maxL := maxL) (ret := ret) hM hp.1 hrc hrs hfr hlo hws hcw (fun a' U hW => word_at hW (Or.inl (by first | rfl | simp [Cond.onTables, Cond.keeps, Cond.steady])) hini)
  obtain ⟨hx, hb, hml, ho, -⟩ := S
  obtain ⟨-, ⟨cellB, hcB, hoB, hclB⟩, hPc⟩ := hp
  intro T hT X
  rcases vx_callVX X hx (C := C) (hh := hh) (bytes := bytes) (maxL := maxL) (ret := ret) ho hl hin hse hcode hy hK (by rw [hT]; exact hcB) hoB hclB hg (hsize.trans hml.symm) (argsL := As) (rest := rest) (fun sig h => hn.trans (hlen sig h)) hstack hW (by rw [hb]; exact hdg)
    (fun vm₁ hW₁ => ⟨hf.1, hf.2, hPc (T.setVm vm₁) hT hW₁⟩) with ⟨v, vm₁, ⟨U', l2, c2, s2⟩, hW₁, X', ⟨g', mk, t, L, e1, e2, hq, h1, hL, h2, h3⟩, st⟩ | ⟨q, vm₁, ⟨U', l2, c2, s2⟩, hW₁, X', ⟨g', mk, t, L, E, ce, e1, e2, hq, hce, hcv, hcl, h1, hL, h2, h3⟩, st⟩
  · dsimp only [Pt.U, Pt.locs, Pt.cells, Pt.slots] at X' e1 e2 h1 h2 h3 st
    subst h1; subst h2; subst h3
    exact Or.inl ⟨v, (T.setVm vm₁).calling g' mk (Value.ref b :: As).toArray, t, U', L, hT, X', hL, e1, e2, hq, st⟩
  · dsimp only [Pt.U, Pt.locs, Pt.cells, Pt.slots] at X' e1 e2 h1 h2 h3 st hcl
    subst h1; subst h2; subst h3
    exact Or.inr ⟨q, (T.setVm vm₁).calling g' mk (Value.ref b :: As).toArray, t, U', L, E, ce, hT, X', hL, e1, e2, hq, hce, hcv, vx_cls hW₁ hcl, st⟩
theorem vx_runSX {hh : List (Nat × Nat × Nat × Nat)} (S : CallFix p m c cc nL s args Ts own) (hM : vx_Met l y ws rm Pc Qc XC mc ms free) (cw : vx_CSW R s args own index y bytes maxL ret hh ws rm mc ms n) (hp : PreS s H Pc As)
    (hg : g.method = m) (hn : As.length = n) (hsize : g.locals.size = nL) (hstack : g.stack = As.reverse ++ rest) (hW : 2 * g.monitorRoom + (rest.map fun v => v.category).sum ≤ 8) (hdg : decode cc g.pc = .ok (.invokestatic index, 3)) (hf : cells + mc ≤ R.cells ∧ slots + ms ≤ R.slots) :
    vx_Run p l e R s m args below meth c H locs cells slots mc ms g rest (Qc As.toArray) XC free := by
  obtain ⟨⟨hrc, hrs, hfr, hlo, hws, hcw⟩, hcode, hini, hy, hlen, hl, hstt⟩ := cw
  have hK : vx_Back l R p e below s args y 3 8 (PreOf R mc ms Pc) (PostOf Qc mc ms free) (vx_Post XC mc ms free) := vx_backW (hh := hh) (bytes := bytes) (maxL := maxL) (ret := ret) hM hp.1 hrc hrs hfr hlo hws hcw (fun a' U hW => word_at hW (Or.inl (by first | rfl | simp [Cond.onTables, Cond.keeps, Cond.steady])) hini)
  obtain ⟨hx, hb, hml, ho, -⟩ := S
  intro T hT X
  rcases vx_callSX X hx (hh := hh) (bytes := bytes) (maxL := maxL) (ret := ret) ho hl hstt hini hcode hy hK hg (hsize.trans hml.symm) (argsL := As) (rest := rest) (fun sig h => hn.trans (hlen sig h)) hstack hW (by rw [hb]; exact hdg)
    (fun vm₁ hW₁ => ⟨hf.1, hf.2, hp.2 (T.setVm vm₁) hT hW₁⟩) with ⟨v, vm₁, ⟨U', l2, c2, s2⟩, hW₁, X', ⟨g', mk, t, L, e1, e2, hq, h1, hL, h2, h3⟩, st⟩ | ⟨q, vm₁, ⟨U', l2, c2, s2⟩, hW₁, X', ⟨g', mk, t, L, E, ce, e1, e2, hq, hce, hcv, hcl, h1, hL, h2, h3⟩, st⟩
  · dsimp only [Pt.U, Pt.locs, Pt.cells, Pt.slots] at X' e1 e2 h1 h2 h3 st
    subst h1; subst h2; subst h3
    exact Or.inl ⟨v, (T.setVm vm₁).calling g' mk As.toArray, t, U', L, hT, X', hL, e1, e2, hq, st⟩
  · dsimp only [Pt.U, Pt.locs, Pt.cells, Pt.slots] at X' e1 e2 h1 h2 h3 st hcl
    subst h1; subst h2; subst h3
    exact Or.inr ⟨q, (T.setVm vm₁).calling g' mk As.toArray, t, U', L, E, ce, hT, X', hL, e1, e2, hq, hce, hcv, vx_cls hW₁ hcl, st⟩
end
end VXH
theorem vx_ofWH {l : Launch} {y : MethodName} {ws ws' : List Cond} {rm : Room} {Pc : Array Value → State → Prop} {Qc : Array Value → State → Outcome → State → Prop} {XC : String → State → State → Prop} {mc ms : Nat} {free : Addr → Prop} {cc : ByteArray} {maxL : Nat} {ret : Option FieldType} {hh : List (Nat × Nat × Nat × Nat)}
    (hy : plainName y.cls = true) (hw : ws = Cond.codeWith y cc maxL ret hh :: ws')
    (body : ∀ p e s m args below meth c s₁, BodyLoose p l y (headSpec ws rm) cc maxL ret e s m args below meth c s₁ → c.maxLocals = maxL → Pc args s →
      W p l e (headSpec ws rm).room s m args below meth c s.heap [] 0 0 (vx_MQ below Qc XC args s mc ms free) (entryFrame m args maxL)) : vx_Met l y ws rm Pc Qc XC mc ms free := by
  refine MetFree.of_bodyS (code := cc) (maxLocals := maxL) (ret := ret) hy ?_ ?_
  · intro args s m h hn
    obtain ⟨m9, meth, c, hn9, h1, h2, h3, h4, -, h5, h6, -⟩ := Cond.codeWith_spec (atoms_spec (ws := ws) h _ (by rw [hw]; exact List.mem_cons_self))
    cases hn.symm.trans hn9
    exact ⟨meth, c, h1, h2, h3, h4, h5, h6⟩
  · intro p e s m args below meth c s₁ B hml hP _
    have hh0 : s₁.heap = s.heap := by rw [B.state]; rfl
    obtain ⟨t, a1, o, b1, b2, b3⟩ := body p e s m args below meth c s₁ B hml hP s₁ hh0 (Stand.of_body B)
    exact ⟨t, o, a1, b1, b2, b3⟩
/-! ===== END ===== -/
end
section
/-! A throw of an exception whose constructor links its super constructor by an index of its own (NoSuchElementException: 13, where the printed words say 7): put together from the library's laws of Throwable's parts. -/
def wy_chainAtoms (X : String) (ix : Nat) (rx : ByteArray) : List String → List Cond
  | [] => Bundle.passSAtoms X Bundle.tN ix rx
  | Y :: r => Bundle.passSAtoms X Y ix rx ++ Bundle.chainSAtoms Y r
theorem wy_chain {args : Array Value} {s : State} {pl : Platform} (hpl : pl.magicAccessors = ({} : Platform).magicAccessors) {top : MethodId} (htop : s.methodNamed? (Bundle.initS Bundle.tN) = some top)
    {ix : Nat} {rx : ByteArray} (x0 : decode rx 0 = .ok (.aload_n 0, 1)) (x1 : decode rx 1 = .ok (.aload_n 1, 1)) (x2 : decode rx 2 = .ok (.invokespecial ix, 3)) (x5 : decode rx 5 = .ok (.return_, 1)) :
    ∀ (names : List String) (X : String), Bundle.fit X = true → (∀ n ∈ names, Bundle.fit n = true) → (∀ c ∈ wy_chainAtoms X ix rx names, c.before args s = true) →
      ∃ (P1 : PassC) (Ps : List PassC), Ps.length = names.length ∧ P1.LinksS pl s ∧ (∀ P, P ∈ Ps → P.LinksS pl s) ∧ s.methodNamed? (Bundle.initS X) = some P1.m ∧
        P1.sup = firstOf top (Ps.map (·.toPassT)) ∧ PassesOn top (Ps.map (·.toPassT)) := by
  intro names X hX hn h
  cases names with
  | nil =>
    obtain ⟨P, L, hm, hs⟩ := PassC.ofS_atoms (args := args) (s := s) hpl (X := X) (Y := Bundle.tN) (Bundle.fit_spec hX).1 (by decide) x0 x1 x2 x5 h
    exact ⟨P, [], rfl, L, (fun _ hP => nomatch hP), hm, Option.some.inj (hs.symm.trans htop), trivial⟩
  | cons Y r =>
    obtain ⟨P, L, hm, hs⟩ := PassC.ofS_atoms (args := args) (s := s) hpl (X := X) (Y := Y) (Bundle.fit_spec hX).1 (Bundle.fit_spec (hn Y List.mem_cons_self)).2 x0 x1 x2 x5
      (fun c hc => h c (List.mem_append_left _ hc))
    obtain ⟨P', Ps, hlen, L', hL, hm', hsup, hpass⟩ := Bundle.chainS (args := args) hpl htop r Y (hn Y List.mem_cons_self) (fun n hn' => hn n (List.mem_cons_of_mem _ hn')) (fun c hc => h c (List.mem_append_right _ hc))
    refine ⟨P, P' :: Ps, by simp [hlen], L, fun Q hQ => ?_, hm, Option.some.inj (hs.symm.trans hm'), hsup, hpass⟩
    rcases List.mem_cons.mp hQ with rfl | hQ
    · exact L'
    · exact hL Q hQ
def wy_atoms (own : String) (ic : Nat) (X : String) (ix : Nat) (rx : ByteArray) (names : List String) : List Cond :=
  Bundle.throwableAtoms ++ Bundle.throwableSAtoms ++ wy_chainAtoms X ix rx names ++
  [.methodLink own ic (Bundle.initS X), .instantiable X 6, .castable X X, .selects X Bundle.tFill0 Bundle.tFill0, .selects X Bundle.tFill Bundle.tFill,
   .lays X Bundle.tN "cause" "Ljava/lang/Throwable;", .lays X Bundle.tN "stackTrace" Bundle.steD, .lays X Bundle.tN "suppressedExceptions" Bundle.listD, .lays X Bundle.tN "detailMessage" "Ljava/lang/String;",
   .isRef (.static Bundle.tN "UNASSIGNED_STACK" Bundle.steD), .isRef (.static Bundle.tN "SUPPRESSED_SENTINEL" Bundle.listD),
   .fieldLink Bundle.tN 198 Bundle.tN "backtrace" "Ljava/lang/Object;", .lays Bundle.tN Bundle.tN "backtrace" "Ljava/lang/Object;", .lays X Bundle.tN "backtrace" "Ljava/lang/Object;"]
def wy_at (own : String) (ic : Nat) (X : String) (ix : Nat) (rx : ByteArray) (names : List String) : List Cond := (wy_atoms own ic X ix rx names).filter vx_no
set_option maxHeartbeats 4000000 in
theorem wy_ctor {p : Program} {l : Launch} {e : Env} {R : Room} {s : State} {m₀ : MethodId} {args : Array Value} {below : List Frame} {meth : Method} {c : Code} {W : State} {locs : List Loc} {cells slots : Nat}
    (X : Stand p l e R s m₀ args below meth c W locs cells slots) (hexec : p.tables.exec = Jvm.exec) (htr : e.platform.stackTraces = false) {own cls : String} {names : List String} {ic ix : Nat} {rx : ByteArray} (x0 : decode rx 0 = .ok (.aload_n 0, 1)) (x1 : decode rx 1 = .ok (.aload_n 1, 1)) (x2 : decode rx 2 = .ok (.invokespecial ix, 3)) (x5 : decode rx 5 = .ok (.return_, 1))
    (hown : s.vm.findClass own = some m₀.cls) (hcls : Bundle.fit cls = true) (hnames : ∀ n ∈ names, Bundle.fit n = true)
    (h : ∀ a ∈ wy_atoms own ic cls ix rx names, a.before args s = true)
    (hlocs : ∀ x ∈ locs, ∀ cell, s.heap[x.base]? = some cell → cell.vm.isStatics = false)
    {a : Addr} {cX : ClassId} {kX : Class} (hfoundX : s.vm.findClass cls = some cX) (hkX : s.vm.classes[cX]? = some kX) (hcell : W.heap[a]? = some (freshCell cX kX)) (hnew : s.heap.size ≤ a)
    {msg : Value} (hmsg : msg.isRef = true)
    {g : JFrame} (hg : g.method = m₀) (hsize : g.locals.size = c.maxLocals) (hlocked : g.locked = none) (hentered : g.entered = []) {rest : List Value} (hstack : g.stack = msg :: .ref a :: .ref a :: rest)
    (hd6 : decode c.code g.pc = .ok (.invokespecial ic, 3)) (hd9 : decode c.code (g.pc + 3) = .ok (.athrow, 1)) (hout : ∀ x ∈ c.exceptionTable.toList, covers x (g.pc + 3) = false)
    (hRframes : names.length + 3 < R.frames) (hRlocals : 2 * g.monitorRoom + ((Value.ref a :: rest).map fun v => v.category).sum + (13 * (names.length + 1) + 42) ≤ R.locals) (hlocks : meth.locks = false := by first | assumption | exact BodyLoose.notSynchronized (by assumption) | exact Body.notSynchronized (by assumption)) :
    ∃ U : State, Steps p.tables e below (W.setTop g) U ∧ U.status = .running ∧ Ended U below (.threw a) ∧ s.WarmedH U.vm ∧ s.sameButNew ({ U with vm := s.vm } : State) locs cells slots ∧
      ∃ ce, U.heap[a]? = some ce ∧ ce.vm = .none ∧ s.vm.findClass cls = some ce.cls := by
  have howns : e.platform.frameOwnsMonitors = true := by rw [X.admits.platform]
  have hfin : e.platform.finalization = false := by rw [X.admits.platform]
  have hpl : e.platform.magicAccessors = ({} : Platform).magicAccessors := by rw [X.admits.platform]
  have a' : ∀ x, x ∈ wy_atoms own ic cls ix rx names → x.holds args s none s [] = true := fun x hx => h x hx
  obtain ⟨T, Z0, L, -, Y⟩ := ThrowableC.of_atoms (args := args) howns hfin hpl (fun x hx => h x (by simp [wy_atoms, hx]))
  obtain ⟨Z, M, LZ, LM, hnZ⟩ := Init0T.ofS_atoms (args := args) hpl L Y (fun x hx => h x (by simp [wy_atoms, hx]))
  obtain ⟨P1, Ps, hlen, L1, hL, hP1m, hlink1, hlink⟩ := wy_chain (args := args) hpl hnZ x0 x1 x2 x5 names cls hcls hnames (fun x hx => h x (by simp [wy_atoms, hx]))
  have hfound : s.vm.findClass cls = some P1.m.cls := findClass_of_methodNamed hP1m
  cases Option.some.inj (hfoundX.symm.trans hfound)
  obtain ⟨c1, kX', hc1, hk, hord, -, -, hn6⟩ := Cond.instantiable_spec (a' (.instantiable cls 6) (by simp [wy_atoms]))
  cases Option.some.inj (hc1.symm.trans hfound)
  cases Option.some.inj (hkX.symm.trans hk)
  have hsel0 : selectMethod e.platform s.vm P1.m.cls T.fill0 = .method T.fill0 := by
    obtain ⟨c2, r2, m2, q1, q2, q3, q4, -⟩ := Cond.selects_spec (a' (.selects cls Bundle.tFill0 Bundle.tFill0) (by simp [wy_atoms]))
    cases Option.some.inj (q1.symm.trans hfound)
    cases Option.some.inj (q2.symm.trans (State.methodFound?_of_named Y.fill0 (by decide)))
    cases Option.some.inj (q3.symm.trans Y.fill0)
    rw [Launch.admits_selectMethod X.admits]; exact q4
  have hselF : selectMethod e.platform s.vm P1.m.cls T.fill = .method T.fill := by
    obtain ⟨c2, r2, m2, q1, q2, q3, q4, -⟩ := Cond.selects_spec (a' (.selects cls Bundle.tFill Bundle.tFill) (by simp [wy_atoms]))
    cases Option.some.inj (q1.symm.trans hfound)
    cases Option.some.inj (q2.symm.trans (State.methodFound?_of_named Y.fill (by decide)))
    cases Option.some.inj (q3.symm.trans Y.fill)
    rw [Launch.admits_selectMethod X.admits]; exact q4
  obtain ⟨cellS0, hcS0, hiss⟩ := Y.statics
  obtain ⟨u0, hu0⟩ := Cond.staticRefV Y.unassigned L.unassignedStatic L.statics hcS0 hiss (a' (.isRef (.static Bundle.tN "UNASSIGNED_STACK" Bundle.steD)) (by simp [wy_atoms]))
  obtain ⟨sen, hsen⟩ := Cond.staticRefV Y.sentinel L.sentinelStatic L.statics hcS0 hiss (a' (.isRef (.static Bundle.tN "SUPPRESSED_SENTINEL" Bundle.listD)) (by simp [wy_atoms]))
  obtain ⟨ci198, i198, fB, hk198, hg198, ha198, hsB, -, hnB, htB, hffB⟩ := Cond.ownField (t := .object "java/lang/Object") Y.found L.cls (by decide +kernel) (a' (.fieldLink Bundle.tN 198 Bundle.tN "backtrace" "Ljava/lang/Object;") (by simp [wy_atoms])) (a' (.lays Bundle.tN Bundle.tN "backtrace" "Ljava/lang/Object;") (by simp [wy_atoms])) e.platform hpl
  obtain ⟨cellS, hcS', heS, -, hkeep⟩ := X.same.2.2.2.2.2 T.aS cellS0 hcS0
  have hcellS : W.heap[T.aS]? = some cellS := hcS'
  have hout' : ∀ i, (⟨T.aS, i⟩ : Loc) ∉ locs := fun i hmem => by
    have := hlocs _ hmem cellS0 hcS0
    rw [hiss] at this; cases this
  have hknownS : cellS.vm ≠ .unknown := by
    rw [heS]; intro hu
    rw [show cellS0.vm = .unknown from hu] at hiss
    cases hiss
  have hneS : T.aS ≠ a := Nat.ne_of_lt (Nat.lt_of_lt_of_le (Array.getElem?_eq_some_iff.mp hcS0).1 hnew)
  obtain ⟨iM, hffM⟩ := Y.msg
  obtain ⟨tyC, dC, hdC, hdnC⟩ := Cond.laysAt hfound hk Y.cause (a' (.lays cls Bundle.tN "cause" "Ljava/lang/Throwable;") (by simp [wy_atoms]))
  obtain ⟨tyS, dS, hdS, hdnS⟩ := Cond.laysAt hfound hk Y.stack (a' (.lays cls Bundle.tN "stackTrace" Bundle.steD) (by simp [wy_atoms]))
  obtain ⟨tyP, dP, hdP, hdnP⟩ := Cond.laysAt hfound hk Y.supp (a' (.lays cls Bundle.tN "suppressedExceptions" Bundle.listD) (by simp [wy_atoms]))
  obtain ⟨tyM, dM, hdM, hdnM⟩ := Cond.laysAt hfound hk hffM (a' (.lays cls Bundle.tN "detailMessage" "Ljava/lang/String;") (by simp [wy_atoms]))
  obtain ⟨tyB, dB, hdB, hdnB⟩ := Cond.laysAt hfound hk hffB (a' (.lays cls Bundle.tN "backtrace" "Ljava/lang/Object;") (by simp [wy_atoms]))
  have bC := Cond.laysApart hdB hdC hdnB hdnC (by rw [hnB, Y.causeName]; decide)
  have bS := Cond.laysApart hdB hdS hdnB hdnS (by rw [hnB, Y.stackName]; decide)
  have bP := Cond.laysApart hdB hdP hdnB hdnP (by rw [hnB, Y.suppName]; decide)
  have hskip : SkipFacts T e.platform s (fun u => u) u0 ((preparedCellV T.toThrowableT (freshCell P1.m.cls kX) a u0 sen).withEntry W.cur) :=
    ⟨{ ci198 := ci198, i198 := i198, fBack := fB }, ⟨hk198, hg198, ha198, hsB⟩, by
      have := fresh_default (c := P1.m.cls) tyB
      rw [htB] at this
      simpa [preparedCellV, Cell.setSlot, Cell.withEntry, Array.getElem?_setIfInBounds, bC, bS, bP, bC.symm, bS.symm, bP.symm, defaultValue] using this, fun _ _ => rfl⟩
  obtain ⟨tm, methC, cdC, kC, vm₁, hnC, -, -, -, -, -, -, -, hW₁, st1⟩ := Steps.initColdS (tb := p.tables) (e := e) (below := below) (s := s) (U := W) X.here hexec X.warmed hpl hown (t := Bundle.initS cls) rfl rfl (Bundle.fit_spec hcls).2
    (a' (.methodLink own ic (Bundle.initS cls)) (by simp [wy_atoms])) (h (.instanceMethod (Bundle.initS cls)) (by cases names <;> simp [wy_atoms, wy_chainAtoms, Bundle.passSAtoms])) (bytes := rx) (maxL := 2) (h (.code (Bundle.initS cls) rx 2 none) (by cases names <;> simp [wy_atoms, wy_chainAtoms, Bundle.passSAtoms]))
    (f := g) hg (a := a) (msg := msg) (rest := .ref a :: rest) hstack hd6
  cases Option.some.inj (hnC.symm.trans hP1m)
  have X₁ := X.noted hW₁
  obtain ⟨vm₂, X₂, st2⟩ := X₁.ctorMessageOffV hexec (g := { g with stack := .ref a :: rest }) hg hsize T L Z LZ M LM (P1 :: Ps)
    (fun P hP => by rcases List.mem_cons.mp hP with rfl | hP; exact L1; exact hL P hP) ⟨hlink1, hlink⟩ (u0 := u0) (sen := sen) (self := a) hmsg (cell := freshCell P1.m.cls kX) (cellS := cellS)
    hcell (fun _ => by simp) (by simp) rfl rfl hsel0 hselF hcellS hneS hknownS (by rw [hkeep _ (hout' _)]; exact hu0) (by rw [hkeep _ (hout' _)]; exact hsen)
    (Takes.of_laid hk hord tyC (by rw [Y.causeType]; rfl)) (Takes.of_laid hk hord tyS (by rw [Y.stackType]; exact fits_refV_array _ u0)) (Takes.of_laid hk hord tyP (by rw [Y.suppType]; exact fits_refV_object _ sen))
    (Takes.of_laid hk hord tyM (by rw [Y.msgType]; exact fits_refV_object _ ⟨msg, hmsg⟩)) Y.objLocals hskip htr [] hd6
    (by simp only [List.length_cons, hlen]; omega) (by simp only [List.length_cons, hlen]; exact hRlocals)
  obtain ⟨hwalk, hrun, hended, hWU, hsame⟩ := X₂.athrowLeaves hexec (g := { g with stack := .ref a :: rest, pc := g.pc + 3 }) hg hlocked hentered hout (a := a) (rest := rest) rfl hd9
  obtain ⟨c3, c4, hc3, hc4, hasg⟩ := Cond.castable_spec (a' (.castable cls cls) (by simp [wy_atoms]))
  cases Option.some.inj (hc3.symm.trans hfound)
  cases Option.some.inj (hc4.symm.trans hfound)
  have hlt : a < ((W.setVm vm₁).setVm vm₂).heap.size := (Array.getElem?_eq_some_iff.mp hcell).1
  have hU := heapAt_setCell_self (s := (W.setVm vm₁).setVm vm₂) (plainBareV T.toThrowableT (freshCell P1.m.cls kX) a u0 sen msg) hlt
  refine ⟨_, st1 _ (fun acts => ?_), hrun, hended, hWU, hsame.weaken (fun y hy hlt' => ?_) (Nat.le_refl _) (Nat.le_refl _), _, hU, rfl, hfound⟩
  · rw [doInvoke_state]
    exact st2 _ hwalk
  · rcases List.mem_append.mp hy with h1 | h1
    · exact h1
    · exfalso
      have hb : y.base = a := by
        simp only [List.mem_cons, List.not_mem_nil, or_false] at h1
        rcases h1 with rfl | rfl | rfl | rfl | rfl <;> rfl
      rw [hb] at hlt'
      exact Nat.not_lt.mpr hnew hlt'
theorem wy_throwS {p : Program} {l : Launch} {e : Env} {R : Room} {s : State} {m : MethodId} {args : Array Value} {below : List Frame} {meth : Method} {c : Code} {H : Heap} {locs : List Loc} {cells slots : Nat} {free : Addr → Prop} {ls : Array Slot} {rest : List Value} {Qc : Array Value → State → Outcome → State → Prop} {XC : String → State → State → Prop} {ix : Nat} {rx : ByteArray} (x0 : decode rx 0 = .ok (.aload_n 0, 1)) (x1 : decode rx 1 = .ok (.aload_n 1, 1)) (x2 : decode rx 2 = .ok (.invokespecial ix, 3)) (x5 : decode rx 5 = .ok (.return_, 1)) {cc : ByteArray} {pc : Nat} (hexec : p.tables.exec = Jvm.exec) (hb : c.code = cc) (hl : l.stackTraces = false) {own cls text : String} {names : List String} {ik is ic mc ms sa : Nat} {A : Nat → Prop}
    (hown : s.vm.findClass own = some m.cls) (hcls : Bundle.fit cls = true) (hnames : ∀ n ∈ names, Bundle.fit n = true)
    (hk : (Cond.classLink own ik cls).before args s = true) (hini : (Cond.initialized cls).before args s = true) (hstr : vk_R own is text sa s) (hat : ∀ w ∈ wy_at own ic cls ix rx names, w.before args s = true)
    (hgood : ∀ w ∈ Cond.classLink own ik cls :: Cond.initialized cls :: wy_at own ic cls ix rx names, vx_ot w = true)
    (hU : vx_Zq Bundle.tN "UNASSIGNED_STACK" Bundle.steD A s s.heap) (hN : vx_Zq Bundle.tN "SUPPRESSED_SENTINEL" Bundle.listD A s s.heap) (hS : va_S A s.heap H locs) (hsize : ls.size = c.maxLocals)
    (d0 : decode cc pc = .ok (.new ik, 3)) (d3 : decode cc (pc + 3) = .ok (.dup, 1)) (d4 : decode cc (pc + 4) = .ok (.ldc is, 2)) (d6 : decode cc (pc + 6) = .ok (.invokespecial ic, 3)) (d9 : decode cc (pc + 9) = .ok (.athrow, 1))
    (hout : ∀ x ∈ c.exceptionTable.toList, covers x (pc + 9) = false)
    (hRframes : names.length + 3 < R.frames) (hRlocals : (rest.map fun v => v.category).sum + (13 * (names.length + 1) + 43) ≤ R.locals) (hRcells : cells + 1 ≤ R.cells) (hRslots : slots + 6 ≤ R.slots) (hlocks : meth.locks = false)
    (hx : ∀ t : State, s.vm.Alike t.vm → H.size ≤ t.heap.size → (∀ q : Nat, q < H.size → t.heap[q]? = H[q]?) → XC cls s t)
    (hf : ∀ z ∈ locs, free z.base) (hc : cells + 1 ≤ mc) (hs : slots + 6 ≤ ms) :
    W p l e R s m args below meth c H locs cells slots (vx_MQ below Qc XC args s mc ms free) (F0 m pc ls rest) := by
  intro T hT X
  have htr : e.platform.stackTraces = false := (show e.platform.stackTraces = l.stackTraces by rw [X.admits.platform]).trans hl
  have Y := vx_rebase X (R' := { frames := R.frames, locals := R.locals, cells := 1, slots := 6 }) (Nat.le_refl _) (Nat.le_refl _) hRcells hRslots
  obtain ⟨s', hA⟩ : ∃ z, z = (T.setVm s.vm).setFrames (.invoking m args :: below) := ⟨_, rfl⟩
  rw [← hA] at Y
  have hvm : s'.vm = s.vm := by rw [hA]; rfl
  have hhp : s'.heap = H := by rw [hA]; exact hT
  have hW0 : s.WarmedH s'.vm := by rw [hvm]; exact State.WarmedH.refl s
  have hat' : ∀ w ∈ wy_at own ic cls ix rx names, w.before args s' = true := fun w hw => vx_ot_at hW0 hvm.symm (hgood w (List.mem_cons_of_mem _ (List.mem_cons_of_mem _ hw))) (hat w hw)
  have hk' : (Cond.classLink own ik cls).before args s' = true := vx_ot_at hW0 hvm.symm (hgood _ List.mem_cons_self) hk
  have hini' : (Cond.initialized cls).before args s' = true := vx_ot_at hW0 hvm.symm (hgood _ (List.mem_cons_of_mem _ List.mem_cons_self)) hini
  have hU' : vx_Zq Bundle.tN "UNASSIGNED_STACK" Bundle.steD A s' s'.heap := by rw [hhp]; exact vx_Zq.moved hW0.alike (hU.kept hS.2.1)
  have hN' : vx_Zq Bundle.tN "SUPPRESSED_SENTINEL" Bundle.listD A s' s'.heap := by rw [hhp]; exact vx_Zq.moved hW0.alike (hN.kept hS.2.1)
  have h : ∀ w ∈ wy_atoms own ic cls ix rx names, w.before args s' = true := vx_own hat' (vx_isRefq hU'.1) (vx_isRefq hN'.1) hU'.2.word hN'.2.word
  have hown' : s'.vm.findClass own = some m.cls := by rw [hvm]; exact hown
  have hins : (Cond.instantiable cls 6).before args s' = true := h _ (by simp [wy_atoms])
  obtain ⟨vm₁, cX, kX, hfX, hkX, -, -, X₁, st1⟩ := Y.newCold hexec (own := own) (C := cls) (index := ik) (n := 6) hown' hk' hins hini'
    (g := F0 m pc ls rest) rfl (by rw [hb]; exact d0) (Nat.le_refl _) (Nat.le_refl _)
  generalize hT1 : (T.setVm vm₁).pushCell { cls := cX, slots := kX.instanceTypes.map defaultValue, vm := .none } = T1 at X₁ st1
  have hcat : (Value.ref T.heap.size).category = 1 := rfl
  have hcellA : T1.heap[T.heap.size]? = some (freshCell cX kX) := by rw [← hT1]; exact State.heap_pushCell_size _ _
  have d3' : decode c.code (pc + 3) = .ok (.dup, 1) := by rw [hb]; exact d3
  have d4' : decode c.code (pc + 4) = .ok (.ldc is, 2) := by rw [hb]; exact d4
  have hstr' : vk_R own is text sa s' := vk_R.warm hW0 hstr
  obtain ⟨U, hsteps, hrun, hend, hW, hsame, ce, hce, hOv, hOc⟩ := wy_ctor X₁ hexec htr x0 x1 x2 x5 (own := own) (cls := cls) (names := names) (ic := ic) hown' hcls hnames h (fun x hx => nomatch hx) hfX hkX hcellA (by rw [hhp, hT]; exact Nat.le_refl _) (msg := .ref sa) rfl
    (g := { method := m, pc := pc + 6, locals := ls, stack := .ref sa :: .ref T.heap.size :: .ref T.heap.size :: rest, locked := none }) rfl hsize rfl rfl (rest := rest) rfl
    (by rw [hb]; exact d6) (by rw [hb]; exact d9) hout hRframes (by simp only [List.map_cons, List.sum_cons, hcat]; omega) hlocks
  obtain ⟨f1, f2⟩ := vx_frame hsame
  rw [hhp] at f1 f2
  have hWs : s.WarmedH U.vm := State.WarmedH.trans hW0 hW
  have hcl : s.vm.findClass cls = some ce.cls := by
    have h9 := hOc
    rw [hvm] at h9
    exact h9
  have hall : s.sameButNew ({ U with vm := s.vm } : State) locs mc ms := by
    subst hA
    obtain ⟨e1, e2⟩ := hsame
    rw [State.setFrames_setFrames] at e1
    have h2 : (T.setVm s.vm).sameButNew ({ U with vm := s.vm } : State) [] (0 + 1) (0 + 6) := ⟨e1, e2⟩
    have h3 := X.same.trans h2
    rw [List.append_nil] at h3
    exact h3.mono hc hs
  refine ⟨U, ?_, .threw T.heap.size, hrun, hend, Or.inr ⟨T.heap.size, rfl, cls, ce, locs, hx U hWs.alike f1 (fun q hq => f2 q hq (fun z hz => nomatch hz)), hce, hOv, hcl, hWs, hall, hf⟩⟩
  refine st1 _ ?_
  show Steps p.tables e below (T1.setTop { method := m, pc := pc + 3, locals := ls, stack := .ref T.heap.size :: rest, locked := none }) _
  jvm_step X₁.here [X₁.here.top, hexec, d3', Value.category]
  exact X₁.ldcString hexec (own := own) (text := text) (index := is) (a := sa) hown' hstr'.1 hstr'.2
    (g := { method := m, pc := pc + 4, locals := ls, stack := .ref T.heap.size :: .ref T.heap.size :: rest, locked := none }) rfl d4' _ hsteps
end
section
/-! ===== BEGIN printed: names, fields, word lists, decode rows ===== -/
def RX0 : String := "TimerRows$Line"
def TX0 : u_T := fun k => match k with
  | 0 => ("TimerRows$Line", "order", "[I", true)
  | 1 => ("TimerRows$Line", "number", "[I", true)
  | 2 => ("TimerRows$Line", "clock", "[I", true)
  | 3 => ("TimerRows$Line", "key", "[J", true)
  | 4 => ("TimerRows$Line", "time", "[J", true)
  | 5 => ("TimerRows$Line", "gap", "[J", true)
  | 6 => ("TimerRows$Line", "often", "[I", true)
  | _ => ("TimerRows$Line", "size", "I", false)
def tyX0 : Nat → FieldType := fun k => match k with
  | 0 => .array .int
  | 1 => .array .int
  | 2 => .array .int
  | 3 => .array .long
  | 4 => .array .long
  | 5 => .array .long
  | 6 => .array .int
  | _ => .int
abbrev wsX00 : List Cond := u_ws RX0 TX0 8
theorem nmX0 : ∀ a, a < 8 → ∀ b, b < 8 → a ≠ b → (TX0 a).2.1 ≠ (TX0 b).2.1 := by decide +kernel
theorem tyX0_ok : ∀ k, k < 8 → parseFieldDescriptor (TX0 k).2.2.1 = some (tyX0 k) := by decide +kernel
abbrev cX0_init : ByteArray := prog_2_method_1_code
def yX0_init : MethodName := ⟨RX0, "<init>", "()V"⟩
abbrev cX0_isFull : ByteArray := prog_2_method_2_code
def yX0_isFull : MethodName := ⟨RX0, "isFull", "()Z"⟩
abbrev cX0_timeAt : ByteArray := prog_2_method_3_code
def yX0_timeAt : MethodName := ⟨RX0, "timeAt", "(I)J"⟩
abbrev cX0_enter : ByteArray := prog_2_method_4_code
def yX0_enter : MethodName := ⟨RX0, "enter", "(IIJJJI)V"⟩
abbrev cX0_leave : ByteArray := prog_2_method_5_code
def yX0_leave : MethodName := ⟨RX0, "leave", "(I)V"⟩
abbrev cX0_retime : ByteArray := prog_2_method_6_code
def yX0_retime : MethodName := ⟨RX0, "retime", "(IJ)V"⟩
abbrev cX0_setAgain : ByteArray := prog_2_method_7_code
def yX0_setAgain : MethodName := ⟨RX0, "setAgain", "(II)V"⟩
abbrev cX0_sortInFirstFree : ByteArray := prog_2_method_8_code
def yX0_sortInFirstFree : MethodName := ⟨RX0, "sortInFirstFree", "()V"⟩
abbrev cX0_countAheadOf : ByteArray := prog_2_method_9_code
def yX0_countAheadOf : MethodName := ⟨RX0, "countAheadOf", "(I)I"⟩
abbrev cX0_goesAhead : ByteArray := prog_2_method_10_code
def yX0_goesAhead : MethodName := ⟨RX0, "goesAhead", "(II)Z"⟩
abbrev cX0_placeOf : ByteArray := prog_2_method_11_code
def yX0_placeOf : MethodName := ⟨RX0, "placeOf", "(I)I"⟩
abbrev cX0_headOf : ByteArray := prog_2_method_12_code
def yX0_headOf : MethodName := ⟨RX0, "headOf", "(I)I"⟩
abbrev cX0_dueOf : ByteArray := prog_2_method_13_code
def yX0_dueOf : MethodName := ⟨RX0, "dueOf", "(IJ)I"⟩
abbrev cX0_countBetween : ByteArray := prog_2_method_14_code
def yX0_countBetween : MethodName := ⟨RX0, "countBetween", "(IJJJ)I"⟩
abbrev cX0_countOfTask : ByteArray := prog_2_method_15_code
def yX0_countOfTask : MethodName := ⟨RX0, "countOfTask", "(II)I"⟩
abbrev cX0_copyFrom : ByteArray := prog_2_method_16_code
def yX0_copyFrom : MethodName := ⟨RX0, "copyFrom", "(LTimerRows$Line;)V"⟩
def RX1 : String := "TimerRows$Log"
def TX1 : u_T := fun k => match k with
  | 0 => ("TimerRows$Log", "kind", "[I", false)
  | 1 => ("TimerRows$Log", "number", "[I", false)
  | 2 => ("TimerRows$Log", "key", "[J", false)
  | 3 => ("TimerRows$Log", "time", "[J", false)
  | 4 => ("TimerRows$Log", "often", "[I", false)
  | _ => ("TimerRows$Log", "size", "I", false)
def tyX1 : Nat → FieldType := fun k => match k with
  | 0 => .array .int
  | 1 => .array .int
  | 2 => .array .long
  | 3 => .array .long
  | 4 => .array .int
  | _ => .int
abbrev wsX10 : List Cond := u_ws RX1 TX1 6
theorem nmX1 : ∀ a, a < 6 → ∀ b, b < 6 → a ≠ b → (TX1 a).2.1 ≠ (TX1 b).2.1 := by decide +kernel
theorem tyX1_ok : ∀ k, k < 6 → parseFieldDescriptor (TX1 k).2.2.1 = some (tyX1 k) := by decide +kernel
abbrev cX1_init : ByteArray := prog_3_method_1_code
def yX1_init : MethodName := ⟨RX1, "<init>", "()V"⟩
abbrev cX1_add : ByteArray := prog_3_method_2_code
def yX1_add : MethodName := ⟨RX1, "add", "(ILTimerRows$Line;I)V"⟩
abbrev cX1_grow : ByteArray := prog_3_method_3_code
def yX1_grow : MethodName := ⟨RX1, "grow", "()V"⟩
def RX2 : String := "TimerRows$State"
def TX2 : u_T := fun k => match k with
  | 0 => ("TimerRows$State", "timers", "LTimerRows$Line;", true)
  | 1 => ("TimerRows$State", "rows", "LTimerRows$Line;", true)
  | 2 => ("TimerRows$State", "nows", "[J", true)
  | 3 => ("TimerRows$State", "timersSet", "I", false)
  | 4 => ("TimerRows$State", "rowsCame", "I", false)
  | 5 => ("TimerRows$State", "late", "I", false)
  | _ => ("TimerRows$State", "rowsFirst", "Z", false)
def tyX2 : Nat → FieldType := fun k => match k with
  | 0 => .object "TimerRows$Line"
  | 1 => .object "TimerRows$Line"
  | 2 => .array .long
  | 3 => .int
  | 4 => .int
  | 5 => .int
  | _ => .boolean
abbrev wsX20 : List Cond := u_ws RX2 TX2 7
theorem nmX2 : ∀ a, a < 7 → ∀ b, b < 7 → a ≠ b → (TX2 a).2.1 ≠ (TX2 b).2.1 := by decide +kernel
theorem tyX2_ok : ∀ k, k < 7 → parseFieldDescriptor (TX2 k).2.2.1 = some (tyX2 k) := by decide +kernel
abbrev cX2_init : ByteArray := prog_4_method_1_code
def yX2_init : MethodName := ⟨RX2, "<init>", "()V"⟩
abbrev cX2_begin : ByteArray := prog_4_method_2_code
def yX2_begin : MethodName := ⟨RX2, "begin", "()V"⟩
abbrev cX2_copyFrom : ByteArray := prog_4_method_3_code
def yX2_copyFrom : MethodName := ⟨RX2, "copyFrom", "(LTimerRows$State;)V"⟩
abbrev cX2_takeTimerNumber : ByteArray := prog_4_method_4_code
def yX2_takeTimerNumber : MethodName := ⟨RX2, "takeTimerNumber", "()I"⟩
abbrev cX2_rowGoesAhead : ByteArray := prog_4_method_5_code
def yX2_rowGoesAhead : MethodName := ⟨RX2, "rowGoesAhead", "(II)Z"⟩
abbrev cX2_finishTimer : ByteArray := prog_4_method_6_code
def yX2_finishTimer : MethodName := ⟨RX2, "finishTimer", "(I)V"⟩
def RX3 : String := "TimerRows"
def TX3 : u_T := fun k => match k with
  | 0 => ("TimerRows", "live", "LTimerRows$State;", true)
  | 1 => ("TimerRows", "kept", "[LTimerRows$State;", true)
  | 2 => ("TimerRows", "log", "LTimerRows$Log;", true)
  | _ => ("TimerRows", "keptCount", "I", false)
def tyX3 : Nat → FieldType := fun k => match k with
  | 0 => .object "TimerRows$State"
  | 1 => .array (.object "TimerRows$State")
  | 2 => .object "TimerRows$Log"
  | _ => .int
abbrev wsX30 : List Cond := u_ws RX3 TX3 4
theorem nmX3 : ∀ a, a < 4 → ∀ b, b < 4 → a ≠ b → (TX3 a).2.1 ≠ (TX3 b).2.1 := by decide +kernel
theorem tyX3_ok : ∀ k, k < 4 → parseFieldDescriptor (TX3 k).2.2.1 = some (tyX3 k) := by decide +kernel
abbrev cX3_init : ByteArray := prog_1_method_1_code
def yX3_init : MethodName := ⟨RX3, "<init>", "()V"⟩
abbrev cX3_clear : ByteArray := prog_1_method_2_code
def yX3_clear : MethodName := ⟨RX3, "clear", "()I"⟩
abbrev cX3_set : ByteArray := prog_1_method_3_code
def yX3_set : MethodName := ⟨RX3, "set", "(IJJJI)I"⟩
abbrev cX3_move : ByteArray := prog_1_method_4_code
def yX3_move : MethodName := ⟨RX3, "move", "(IJ)J"⟩
abbrev cX3_cancel : ByteArray := prog_1_method_5_code
def yX3_cancel : MethodName := ⟨RX3, "cancel", "(I)Z"⟩
abbrev cX3_row : ByteArray := prog_1_method_6_code
def yX3_row : MethodName := ⟨RX3, "row", "(JJ)I"⟩
abbrev cX3_first : ByteArray := prog_1_method_7_code
def yX3_first : MethodName := ⟨RX3, "first", "(Z)Z"⟩
abbrev cX3_pass : ByteArray := prog_1_method_8_code
def yX3_pass : MethodName := ⟨RX3, "pass", "(IJ)I"⟩
abbrev cX3_done : ByteArray := prog_1_method_9_code
def yX3_done : MethodName := ⟨RX3, "done", "(II)J"⟩
abbrev cX3_told : ByteArray := prog_1_method_10_code
def yX3_told : MethodName := ⟨RX3, "told", "(II)J"⟩
abbrev cX3_next : ByteArray := prog_1_method_11_code
def yX3_next : MethodName := ⟨RX3, "next", "(I)I"⟩
abbrev cX3_waiting : ByteArray := prog_1_method_12_code
def yX3_waiting : MethodName := ⟨RX3, "waiting", "(IJJJ)I"⟩
abbrev cX3_keep : ByteArray := prog_1_method_13_code
def yX3_keep : MethodName := ⟨RX3, "keep", "()I"⟩
abbrev cX3_back : ByteArray := prog_1_method_14_code
def yX3_back : MethodName := ⟨RX3, "back", "(I)I"⟩
abbrev cX3_forget : ByteArray := prog_1_method_15_code
def yX3_forget : MethodName := ⟨RX3, "forget", "()I"⟩
abbrev cX3_task : ByteArray := prog_1_method_16_code
def yX3_task : MethodName := ⟨RX3, "task", "(JI)I"⟩
abbrev cX3_load : ByteArray := prog_1_method_17_code
def yX3_load : MethodName := ⟨RX3, "load", "(II)I"⟩
abbrev cX3_of : ByteArray := prog_1_method_18_code
def yX3_of : MethodName := ⟨RX3, "of", "(I)I"⟩
abbrev cX3_now : ByteArray := prog_1_method_19_code
def yX3_now : MethodName := ⟨RX3, "now", "(I)J"⟩
abbrev cX3_doFirstDue : ByteArray := prog_1_method_20_code
def yX3_doFirstDue : MethodName := ⟨RX3, "doFirstDue", "(IJ)Z"⟩
abbrev cX3_needTimer : ByteArray := prog_1_method_21_code
def yX3_needTimer : MethodName := ⟨RX3, "needTimer", "(I)I"⟩
abbrev cX3_needClock : ByteArray := prog_1_method_22_code
def yX3_needClock : MethodName := ⟨RX3, "needClock", "(I)V"⟩
abbrev cX3_needTime : ByteArray := prog_1_method_23_code
def yX3_needTime : MethodName := ⟨RX3, "needTime", "(J)V"⟩
abbrev cX3_needWhat : ByteArray := prog_1_method_24_code
def yX3_needWhat : MethodName := ⟨RX3, "needWhat", "(II)V"⟩
abbrev cX3_needTasks : ByteArray := prog_1_method_25_code
def yX3_needTasks : MethodName := ⟨RX3, "needTasks", "(I)V"⟩
abbrev cX3_taskOf : ByteArray := prog_1_method_26_code
def yX3_taskOf : MethodName := ⟨RX3, "taskOf", "(JI)I"⟩
def RX4 : String := "TimerRowsModel"
def TX4 : u_T := fun k => match k with
  | 0 => ("TimerRowsModel", "code", "I", false)
  | 1 => ("TimerRowsModel", "waits", "[I", true)
  | 2 => ("TimerRowsModel", "isTimer", "[Z", true)
  | 3 => ("TimerRowsModel", "clock", "[I", true)
  | 4 => ("TimerRowsModel", "number", "[I", true)
  | 5 => ("TimerRowsModel", "key", "[J", true)
  | 6 => ("TimerRowsModel", "time", "[J", true)
  | 7 => ("TimerRowsModel", "gap", "[J", true)
  | 8 => ("TimerRowsModel", "often", "[I", true)
  | 9 => ("TimerRowsModel", "nows", "[J", true)
  | 10 => ("TimerRowsModel", "counts", "[I", true)
  | 11 => ("TimerRowsModel", "kept", "I", false)
  | 12 => ("TimerRowsModel", "done", "I", false)
  | 13 => ("TimerRowsModel", "doneKind", "[I", true)
  | 14 => ("TimerRowsModel", "doneNumber", "[I", true)
  | 15 => ("TimerRowsModel", "doneKey", "[J", true)
  | 16 => ("TimerRowsModel", "doneTime", "[J", true)
  | _ => ("TimerRowsModel", "doneOften", "[I", true)
def tyX4 : Nat → FieldType := fun k => match k with
  | 0 => .int
  | 1 => .array .int
  | 2 => .array .boolean
  | 3 => .array .int
  | 4 => .array .int
  | 5 => .array .long
  | 6 => .array .long
  | 7 => .array .long
  | 8 => .array .int
  | 9 => .array .long
  | 10 => .array .int
  | 11 => .int
  | 12 => .int
  | 13 => .array .int
  | 14 => .array .int
  | 15 => .array .long
  | 16 => .array .long
  | _ => .array .int
abbrev wsX40 : List Cond := u_ws RX4 TX4 18
theorem nmX4 : ∀ a, a < 18 → ∀ b, b < 18 → a ≠ b → (TX4 a).2.1 ≠ (TX4 b).2.1 := by decide +kernel
theorem tyX4_ok : ∀ k, k < 18 → parseFieldDescriptor (TX4 k).2.2.1 = some (tyX4 k) := by decide +kernel
abbrev cX4_init : ByteArray := prog_6_method_1_code
def yX4_init : MethodName := ⟨RX4, "<init>", "()V"⟩
abbrev cX4_thrown : ByteArray := prog_6_method_2_code
def yX4_thrown : MethodName := ⟨RX4, "thrown", "()I"⟩
abbrev cX4_isGood : ByteArray := prog_6_method_3_code
def yX4_isGood : MethodName := ⟨RX4, "isGood", "(I)Z"⟩
abbrev cX4_isIn : ByteArray := prog_6_method_4_code
def yX4_isIn : MethodName := ⟨RX4, "isIn", "(JJJ)Z"⟩
abbrev cX4_begin : ByteArray := prog_6_method_5_code
def yX4_begin : MethodName := ⟨RX4, "begin", "()V"⟩
abbrev cX4_clear : ByteArray := prog_6_method_6_code
def yX4_clear : MethodName := ⟨RX4, "clear", "()I"⟩
abbrev cX4_many : ByteArray := prog_6_method_7_code
def yX4_many : MethodName := ⟨RX4, "many", "(Z)I"⟩
abbrev cX4_add : ByteArray := prog_6_method_8_code
def yX4_add : MethodName := ⟨RX4, "add", "(ZIIJJJI)V"⟩
abbrev cX4_copy : ByteArray := prog_6_method_9_code
def yX4_copy : MethodName := ⟨RX4, "copy", "(II)V"⟩
abbrev cX4_take : ByteArray := prog_6_method_10_code
def yX4_take : MethodName := ⟨RX4, "take", "(I)V"⟩
abbrev cX4_find : ByteArray := prog_6_method_11_code
def yX4_find : MethodName := ⟨RX4, "find", "(I)I"⟩
abbrev cX4_set : ByteArray := prog_6_method_12_code
def yX4_set : MethodName := ⟨RX4, "set", "(IJJJI)I"⟩
abbrev cX4_move : ByteArray := prog_6_method_13_code
def yX4_move : MethodName := ⟨RX4, "move", "(IJ)J"⟩
abbrev cX4_cancel : ByteArray := prog_6_method_14_code
def yX4_cancel : MethodName := ⟨RX4, "cancel", "(I)Z"⟩
abbrev cX4_row : ByteArray := prog_6_method_15_code
def yX4_row : MethodName := ⟨RX4, "row", "(JJ)I"⟩
abbrev cX4_first : ByteArray := prog_6_method_16_code
def yX4_first : MethodName := ⟨RX4, "first", "(Z)Z"⟩
abbrev cX4_isAhead : ByteArray := prog_6_method_17_code
def yX4_isAhead : MethodName := ⟨RX4, "isAhead", "(II)Z"⟩
abbrev cX4_leastOf : ByteArray := prog_6_method_18_code
def yX4_leastOf : MethodName := ⟨RX4, "leastOf", "(IZJ)I"⟩
abbrev cX4_pass : ByteArray := prog_6_method_19_code
def yX4_pass : MethodName := ⟨RX4, "pass", "(IJ)I"⟩
abbrev cX4_done : ByteArray := prog_6_method_20_code
def yX4_done : MethodName := ⟨RX4, "done", "(II)J"⟩
abbrev cX4_told : ByteArray := prog_6_method_21_code
def yX4_told : MethodName := ⟨RX4, "told", "(II)J"⟩
abbrev cX4_next : ByteArray := prog_6_method_22_code
def yX4_next : MethodName := ⟨RX4, "next", "(I)I"⟩
abbrev cX4_waiting : ByteArray := prog_6_method_23_code
def yX4_waiting : MethodName := ⟨RX4, "waiting", "(IJJJ)I"⟩
abbrev cX4_lay : ByteArray := prog_6_method_24_code
def yX4_lay : MethodName := ⟨RX4, "lay", "(II)V"⟩
abbrev cX4_keep : ByteArray := prog_6_method_25_code
def yX4_keep : MethodName := ⟨RX4, "keep", "()I"⟩
abbrev cX4_back : ByteArray := prog_6_method_26_code
def yX4_back : MethodName := ⟨RX4, "back", "(I)I"⟩
abbrev cX4_forget : ByteArray := prog_6_method_27_code
def yX4_forget : MethodName := ⟨RX4, "forget", "()I"⟩
abbrev cX4_taskOf : ByteArray := prog_6_method_28_code
def yX4_taskOf : MethodName := ⟨RX4, "taskOf", "(JI)I"⟩
abbrev cX4_task : ByteArray := prog_6_method_29_code
def yX4_task : MethodName := ⟨RX4, "task", "(JI)I"⟩
abbrev cX4_load : ByteArray := prog_6_method_30_code
def yX4_load : MethodName := ⟨RX4, "load", "(II)I"⟩
abbrev cX4_of : ByteArray := prog_6_method_31_code
def yX4_of : MethodName := ⟨RX4, "of", "(I)I"⟩
abbrev cX4_now : ByteArray := prog_6_method_32_code
def yX4_now : MethodName := ⟨RX4, "now", "(I)J"⟩
def RJx145de : String := "java/io/Serializable"
def TJx145de : u_T := fun k => match k with
  | _ => ("", "", "", false)
def tyJx145de : Nat → FieldType := fun k => match k with
  | _ => .int
abbrev wsJx145de0 : List Cond := u_ws RJx145de TJx145de 0
theorem nmJx145de : ∀ a, a < 0 → ∀ b, b < 0 → a ≠ b → (TJx145de a).2.1 ≠ (TJx145de b).2.1 := by decide +kernel
theorem tyJx145de_ok : ∀ k, k < 0 → parseFieldDescriptor (TJx145de k).2.2.1 = some (tyJx145de k) := by decide +kernel
def RJx8e188 : String := "java/lang/Cloneable"
def TJx8e188 : u_T := fun k => match k with
  | _ => ("", "", "", false)
def tyJx8e188 : Nat → FieldType := fun k => match k with
  | _ => .int
abbrev wsJx8e1880 : List Cond := u_ws RJx8e188 TJx8e188 0
theorem nmJx8e188 : ∀ a, a < 0 → ∀ b, b < 0 → a ≠ b → (TJx8e188 a).2.1 ≠ (TJx8e188 b).2.1 := by decide +kernel
theorem tyJx8e188_ok : ∀ k, k < 0 → parseFieldDescriptor (TJx8e188 k).2.2.1 = some (tyJx8e188 k) := by decide +kernel
def RJ9 : String := "java/lang/Math"
def TJ9 : u_T := fun k => match k with
  | _ => ("", "", "", false)
def tyJ9 : Nat → FieldType := fun k => match k with
  | _ => .int
abbrev wsJ90 : List Cond := u_ws RJ9 TJ9 0
theorem nmJ9 : ∀ a, a < 0 → ∀ b, b < 0 → a ≠ b → (TJ9 a).2.1 ≠ (TJ9 b).2.1 := by decide +kernel
theorem tyJ9_ok : ∀ k, k < 0 → parseFieldDescriptor (TJ9 k).2.2.1 = some (tyJ9 k) := by decide +kernel
abbrev cJ9_floorMod_f86c9 : ByteArray := prog_12_method_52_code
def yJ9_floorMod_f86c9 : MethodName := ⟨RJ9, "floorMod", "(JJ)J"⟩
abbrev cJ9_min_7cf53 : ByteArray := prog_12_method_69_code
def yJ9_min_7cf53 : MethodName := ⟨RJ9, "min", "(II)I"⟩
def RJ0 : String := "java/lang/String"
def TJ0 : u_T := fun k => match k with
  | _ => ("", "", "", false)
def tyJ0 : Nat → FieldType := fun k => match k with
  | _ => .int
abbrev wsJ00 : List Cond := u_ws RJ0 TJ0 0
theorem nmJ0 : ∀ a, a < 0 → ∀ b, b < 0 → a ≠ b → (TJ0 a).2.1 ≠ (TJ0 b).2.1 := by decide +kernel
theorem tyJ0_ok : ∀ k, k < 0 → parseFieldDescriptor (TJ0 k).2.2.1 = some (tyJ0 k) := by decide +kernel
def RJ10 : String := "java/lang/System"
def TJ10 : u_T := fun k => match k with
  | _ => ("", "", "", false)
def tyJ10 : Nat → FieldType := fun k => match k with
  | _ => .int
abbrev wsJ100 : List Cond := u_ws RJ10 TJ10 0
theorem nmJ10 : ∀ a, a < 0 → ∀ b, b < 0 → a ≠ b → (TJ10 a).2.1 ≠ (TJ10 b).2.1 := by decide +kernel
theorem tyJ10_ok : ∀ k, k < 0 → parseFieldDescriptor (TJ10 k).2.2.1 = some (tyJ10 k) := by decide +kernel
def RJ7 : String := "java/util/Arrays"
def TJ7 : u_T := fun k => match k with
  | _ => ("", "", "", false)
def tyJ7 : Nat → FieldType := fun k => match k with
  | _ => .int
abbrev wsJ70 : List Cond := u_ws RJ7 TJ7 0
theorem nmJ7 : ∀ a, a < 0 → ∀ b, b < 0 → a ≠ b → (TJ7 a).2.1 ≠ (TJ7 b).2.1 := by decide +kernel
theorem tyJ7_ok : ∀ k, k < 0 → parseFieldDescriptor (TJ7 k).2.2.1 = some (tyJ7 k) := by decide +kernel
abbrev cJ7_fill_d0a16 : ByteArray := prog_17_method_101_code
def yJ7_fill_d0a16 : MethodName := ⟨RJ7, "fill", "([JJ)V"⟩
abbrev cJ7_copyOf_59c91 : ByteArray := prog_17_method_123_code
def yJ7_copyOf_59c91 : MethodName := ⟨RJ7, "copyOf", "([II)[I"⟩
abbrev cJ7_copyOf_c38d5 : ByteArray := prog_17_method_124_code
def yJ7_copyOf_c38d5 : MethodName := ⟨RJ7, "copyOf", "([JI)[J"⟩
def RL : String := "TimerRowsLaw"
abbrev cL_set : ByteArray := method_3_code
def yL_set : MethodName := ⟨RL, "set", "(LTimerRows;IJJJI[J)I"⟩
abbrev cL_move : ByteArray := method_4_code
def yL_move : MethodName := ⟨RL, "move", "(LTimerRows;IJ[J)I"⟩
abbrev cL_row : ByteArray := method_5_code
def yL_row : MethodName := ⟨RL, "row", "(LTimerRows;JJ[J)I"⟩
abbrev cL_pass : ByteArray := method_6_code
def yL_pass : MethodName := ⟨RL, "pass", "(LTimerRows;IJ[J)I"⟩
abbrev cL_done : ByteArray := method_7_code
def yL_done : MethodName := ⟨RL, "done", "(LTimerRows;II[J)I"⟩
abbrev cL_told : ByteArray := method_8_code
def yL_told : MethodName := ⟨RL, "told", "(LTimerRows;II[J)I"⟩
abbrev cL_next : ByteArray := method_9_code
def yL_next : MethodName := ⟨RL, "next", "(LTimerRows;I[J)I"⟩
abbrev cL_waiting : ByteArray := method_10_code
def yL_waiting : MethodName := ⟨RL, "waiting", "(LTimerRows;IJJJ[J)I"⟩
abbrev cL_keep : ByteArray := method_11_code
def yL_keep : MethodName := ⟨RL, "keep", "(LTimerRows;[J)I"⟩
abbrev cL_back : ByteArray := method_12_code
def yL_back : MethodName := ⟨RL, "back", "(LTimerRows;I[J)I"⟩
abbrev cL_forget : ByteArray := method_13_code
def yL_forget : MethodName := ⟨RL, "forget", "(LTimerRows;[J)I"⟩
abbrev cL_task : ByteArray := method_14_code
def yL_task : MethodName := ⟨RL, "task", "(LTimerRows;JI[J)I"⟩
abbrev cL_load : ByteArray := method_15_code
def yL_load : MethodName := ⟨RL, "load", "(LTimerRows;II[J)I"⟩
abbrev cL_of : ByteArray := method_16_code
def yL_of : MethodName := ⟨RL, "of", "(LTimerRows;I[J)I"⟩
abbrev cL_now : ByteArray := method_17_code
def yL_now : MethodName := ⟨RL, "now", "(LTimerRows;I[J)I"⟩
abbrev cL_law : ByteArray := code
def yL_law : MethodName := ⟨RL, "law", "([I)Z"⟩
def wsX0_init : List Cond := .code yX0_init cX0_init 2 none :: ([.methodLink RX0 3 objectInit, .instanceMethod objectInit, .code objectInit ⟨#[0xb1]⟩ 1 none, .arrayClass .int, .fieldLink RX0 9 "TimerRows$Line" "order" "[I", .fieldLink RX0 15 "TimerRows$Line" "number" "[I", .fieldLink RX0 18 "TimerRows$Line" "clock" "[I", .arrayClass .long, .fieldLink RX0 21 "TimerRows$Line" "key" "[J", .fieldLink RX0 25 "TimerRows$Line" "time" "[J", .fieldLink RX0 28 "TimerRows$Line" "gap" "[J", .fieldLink RX0 31 "TimerRows$Line" "often" "[I", .fieldLink RX0 34 "TimerRows$Line" "size" "I"] ++ wsX00)
def wsX0_isFull : List Cond := .code yX0_isFull cX0_isFull 1 (some .boolean) :: ([.fieldLink RX0 34 "TimerRows$Line" "size" "I"] ++ wsX00)
def wsX0_timeAt : List Cond := .code yX0_timeAt cX0_timeAt 2 (some .long) :: ([.fieldLink RX0 25 "TimerRows$Line" "time" "[J", .fieldLink RX0 9 "TimerRows$Line" "order" "[I"] ++ wsX00)
def wsX0_goesAhead : List Cond := .code yX0_goesAhead cX0_goesAhead 3 (some .boolean) :: ([.fieldLink RX0 25 "TimerRows$Line" "time" "[J", .fieldLink RX0 21 "TimerRows$Line" "key" "[J", .fieldLink RX0 15 "TimerRows$Line" "number" "[I"] ++ wsX00)
def wsX0_countAheadOf : List Cond := .code yX0_countAheadOf cX0_countAheadOf 5 (some .int) :: ([.fieldLink RX0 34 "TimerRows$Line" "size" "I", .fieldLink RX0 9 "TimerRows$Line" "order" "[I", .methodLink RX0 55 yX0_goesAhead, .instanceMethod yX0_goesAhead, .selects RX0 yX0_goesAhead yX0_goesAhead, .initialized RX0, .code yX0_goesAhead cX0_goesAhead 3 (some .boolean), .fieldLink RX0 25 "TimerRows$Line" "time" "[J", .fieldLink RX0 21 "TimerRows$Line" "key" "[J", .fieldLink RX0 15 "TimerRows$Line" "number" "[I"] ++ wsX00)
def wsX0_sortInFirstFree : List Cond := .code yX0_sortInFirstFree cX0_sortInFirstFree 3 none :: ([.fieldLink RX0 9 "TimerRows$Line" "order" "[I", .fieldLink RX0 34 "TimerRows$Line" "size" "I", .methodLink RX0 41 arraycopyName, .native arraycopyName, .static arraycopyName, .initialized "java/lang/System", .methodLink RX0 51 yX0_countAheadOf, .instanceMethod yX0_countAheadOf, .selects RX0 yX0_countAheadOf yX0_countAheadOf, .initialized RX0, .code yX0_countAheadOf cX0_countAheadOf 5 (some .int), .methodLink RX0 55 yX0_goesAhead, .instanceMethod yX0_goesAhead, .selects RX0 yX0_goesAhead yX0_goesAhead, .code yX0_goesAhead cX0_goesAhead 3 (some .boolean), .fieldLink RX0 25 "TimerRows$Line" "time" "[J", .fieldLink RX0 21 "TimerRows$Line" "key" "[J", .fieldLink RX0 15 "TimerRows$Line" "number" "[I"] ++ wsX00)
def wsX0_enter_r1 : List Cond := [Cond.fieldLink RX0 9 "TimerRows$Line" "order" "[I", Cond.fieldLink RX0 34 "TimerRows$Line" "size" "I", Cond.fieldLink RX0 15 "TimerRows$Line" "number" "[I", Cond.fieldLink RX0 18 "TimerRows$Line" "clock" "[I", Cond.fieldLink RX0 21 "TimerRows$Line" "key" "[J", Cond.fieldLink RX0 25 "TimerRows$Line" "time" "[J", Cond.fieldLink RX0 28 "TimerRows$Line" "gap" "[J", Cond.fieldLink RX0 31 "TimerRows$Line" "often" "[I", Cond.methodLink RX0 38 yX0_sortInFirstFree, Cond.instanceMethod yX0_sortInFirstFree, Cond.selects RX0 yX0_sortInFirstFree yX0_sortInFirstFree, Cond.initialized RX0, Cond.code yX0_sortInFirstFree cX0_sortInFirstFree 3 none, Cond.methodLink RX0 41 arraycopyName, Cond.native arraycopyName, Cond.static arraycopyName, Cond.initialized "java/lang/System", Cond.methodLink RX0 51 yX0_countAheadOf, Cond.instanceMethod yX0_countAheadOf, Cond.selects RX0 yX0_countAheadOf yX0_countAheadOf, Cond.code yX0_countAheadOf cX0_countAheadOf 5 (some .int), Cond.methodLink RX0 55 yX0_goesAhead, Cond.instanceMethod yX0_goesAhead, Cond.selects RX0 yX0_goesAhead yX0_goesAhead]
def wsX0_enter_r2 : List Cond := [Cond.code yX0_goesAhead cX0_goesAhead 3 (some .boolean)]
def wsX0_enter : List Cond := .code yX0_enter cX0_enter 11 none :: ((wsX0_enter_r1 ++ wsX0_enter_r2) ++ wsX00)
def wsX0_leave : List Cond := .code yX0_leave cX0_leave 3 none :: ([.fieldLink RX0 9 "TimerRows$Line" "order" "[I", .fieldLink RX0 34 "TimerRows$Line" "size" "I", .methodLink RX0 41 arraycopyName, .native arraycopyName, .static arraycopyName, .initialized "java/lang/System"] ++ wsX00)
def wsX0_retime_r1 : List Cond := [Cond.fieldLink RX0 25 "TimerRows$Line" "time" "[J", Cond.fieldLink RX0 9 "TimerRows$Line" "order" "[I", Cond.fieldLink RX0 34 "TimerRows$Line" "size" "I", Cond.methodLink RX0 47 yX0_leave, Cond.instanceMethod yX0_leave, Cond.selects RX0 yX0_leave yX0_leave, Cond.initialized RX0, Cond.code yX0_leave cX0_leave 3 none, Cond.methodLink RX0 41 arraycopyName, Cond.native arraycopyName, Cond.static arraycopyName, Cond.initialized "java/lang/System", Cond.methodLink RX0 38 yX0_sortInFirstFree, Cond.instanceMethod yX0_sortInFirstFree, Cond.selects RX0 yX0_sortInFirstFree yX0_sortInFirstFree, Cond.code yX0_sortInFirstFree cX0_sortInFirstFree 3 none, Cond.methodLink RX0 51 yX0_countAheadOf, Cond.instanceMethod yX0_countAheadOf, Cond.selects RX0 yX0_countAheadOf yX0_countAheadOf, Cond.code yX0_countAheadOf cX0_countAheadOf 5 (some .int), Cond.methodLink RX0 55 yX0_goesAhead, Cond.instanceMethod yX0_goesAhead, Cond.selects RX0 yX0_goesAhead yX0_goesAhead, Cond.code yX0_goesAhead cX0_goesAhead 3 (some .boolean)]
def wsX0_retime_r2 : List Cond := [Cond.fieldLink RX0 21 "TimerRows$Line" "key" "[J", Cond.fieldLink RX0 15 "TimerRows$Line" "number" "[I"]
def wsX0_retime : List Cond := .code yX0_retime cX0_retime 4 none :: ((wsX0_retime_r1 ++ wsX0_retime_r2) ++ wsX00)
def wsX0_setAgain_r1 : List Cond := [Cond.fieldLink RX0 9 "TimerRows$Line" "order" "[I", Cond.fieldLink RX0 34 "TimerRows$Line" "size" "I", Cond.fieldLink RX0 15 "TimerRows$Line" "number" "[I", Cond.fieldLink RX0 25 "TimerRows$Line" "time" "[J", Cond.fieldLink RX0 28 "TimerRows$Line" "gap" "[J", Cond.fieldLink RX0 31 "TimerRows$Line" "often" "[I", Cond.methodLink RX0 47 yX0_leave, Cond.instanceMethod yX0_leave, Cond.selects RX0 yX0_leave yX0_leave, Cond.initialized RX0, Cond.code yX0_leave cX0_leave 3 none, Cond.methodLink RX0 41 arraycopyName, Cond.native arraycopyName, Cond.static arraycopyName, Cond.initialized "java/lang/System", Cond.methodLink RX0 38 yX0_sortInFirstFree, Cond.instanceMethod yX0_sortInFirstFree, Cond.selects RX0 yX0_sortInFirstFree yX0_sortInFirstFree, Cond.code yX0_sortInFirstFree cX0_sortInFirstFree 3 none, Cond.methodLink RX0 51 yX0_countAheadOf, Cond.instanceMethod yX0_countAheadOf, Cond.selects RX0 yX0_countAheadOf yX0_countAheadOf, Cond.code yX0_countAheadOf cX0_countAheadOf 5 (some .int), Cond.methodLink RX0 55 yX0_goesAhead]
def wsX0_setAgain_r2 : List Cond := [Cond.instanceMethod yX0_goesAhead, Cond.selects RX0 yX0_goesAhead yX0_goesAhead, Cond.code yX0_goesAhead cX0_goesAhead 3 (some .boolean), Cond.fieldLink RX0 21 "TimerRows$Line" "key" "[J"]
def wsX0_setAgain : List Cond := .code yX0_setAgain cX0_setAgain 4 none :: ((wsX0_setAgain_r1 ++ wsX0_setAgain_r2) ++ wsX00)
def wsX0_placeOf : List Cond := .code yX0_placeOf cX0_placeOf 3 (some .int) :: ([.fieldLink RX0 34 "TimerRows$Line" "size" "I", .fieldLink RX0 15 "TimerRows$Line" "number" "[I", .fieldLink RX0 9 "TimerRows$Line" "order" "[I"] ++ wsX00)
def wsX0_headOf : List Cond := .code yX0_headOf cX0_headOf 3 (some .int) :: ([.fieldLink RX0 34 "TimerRows$Line" "size" "I", .fieldLink RX0 18 "TimerRows$Line" "clock" "[I", .fieldLink RX0 9 "TimerRows$Line" "order" "[I"] ++ wsX00)
def wsX0_dueOf : List Cond := .code yX0_dueOf cX0_dueOf 5 (some .int) :: ([.methodLink RX0 59 yX0_headOf, .instanceMethod yX0_headOf, .selects RX0 yX0_headOf yX0_headOf, .initialized RX0, .code yX0_headOf cX0_headOf 3 (some .int), .fieldLink RX0 34 "TimerRows$Line" "size" "I", .fieldLink RX0 18 "TimerRows$Line" "clock" "[I", .fieldLink RX0 9 "TimerRows$Line" "order" "[I", .methodLink RX0 62 yX0_timeAt, .instanceMethod yX0_timeAt, .selects RX0 yX0_timeAt yX0_timeAt, .code yX0_timeAt cX0_timeAt 2 (some .long), .fieldLink RX0 25 "TimerRows$Line" "time" "[J"] ++ wsX00)
def wsX0_countBetween : List Cond := .code yX0_countBetween cX0_countBetween 12 (some .int) :: ([.fieldLink RX0 34 "TimerRows$Line" "size" "I", .fieldLink RX0 9 "TimerRows$Line" "order" "[I", .fieldLink RX0 25 "TimerRows$Line" "time" "[J", .fieldLink RX0 18 "TimerRows$Line" "clock" "[I", .fieldLink RX0 21 "TimerRows$Line" "key" "[J"] ++ wsX00)
def wsJ9_floorMod_f86c9 : List Cond := .code yJ9_floorMod_f86c9 cJ9_floorMod_f86c9 6 (some .long) :: ([])
def wsX3_taskOf : List Cond := .code yX3_taskOf cX3_taskOf 4 (some .int) :: ([.constantLong RX3 223 (128), .methodLink RX3 225 yJ9_floorMod_f86c9, .static yJ9_floorMod_f86c9, .initialized RJ9, .code yJ9_floorMod_f86c9 cJ9_floorMod_f86c9 6 (some .long)])
def wsX0_countOfTask : List Cond := .code yX0_countOfTask cX0_countOfTask 5 (some .int) :: ([.fieldLink RX0 34 "TimerRows$Line" "size" "I", .fieldLink RX0 21 "TimerRows$Line" "key" "[J", .fieldLink RX0 9 "TimerRows$Line" "order" "[I", .static yX3_taskOf, .initialized RX3, .code yX3_taskOf cX3_taskOf 4 (some .int), .constantLong RX3 223 (128), .methodLink RX3 225 yJ9_floorMod_f86c9, .static yJ9_floorMod_f86c9, .initialized RJ9, .code yJ9_floorMod_f86c9 cJ9_floorMod_f86c9 6 (some .long)] ++ wsX00)
def wsX0_copyFrom : List Cond := .code yX0_copyFrom cX0_copyFrom 2 none :: ([.fieldLink RX0 9 "TimerRows$Line" "order" "[I", .methodLink RX0 41 arraycopyName, .native arraycopyName, .static arraycopyName, .initialized "java/lang/System", .fieldLink RX0 15 "TimerRows$Line" "number" "[I", .fieldLink RX0 18 "TimerRows$Line" "clock" "[I", .fieldLink RX0 21 "TimerRows$Line" "key" "[J", .fieldLink RX0 25 "TimerRows$Line" "time" "[J", .fieldLink RX0 28 "TimerRows$Line" "gap" "[J", .fieldLink RX0 31 "TimerRows$Line" "often" "[I", .fieldLink RX0 34 "TimerRows$Line" "size" "I"] ++ wsX00)
def wsX1_init : List Cond := .code yX1_init cX1_init 1 none :: ([.methodLink RX1 3 objectInit, .instanceMethod objectInit, .code objectInit ⟨#[0xb1]⟩ 1 none, .arrayClass .int, .fieldLink RX1 9 "TimerRows$Log" "kind" "[I", .fieldLink RX1 15 "TimerRows$Log" "number" "[I", .arrayClass .long, .fieldLink RX1 18 "TimerRows$Log" "key" "[J", .fieldLink RX1 22 "TimerRows$Log" "time" "[J", .fieldLink RX1 25 "TimerRows$Log" "often" "[I"] ++ wsX10)
def wsJ7_copyOf_59c91 : List Cond := .code yJ7_copyOf_59c91 cJ7_copyOf_59c91 3 (some (.array .int)) :: ([.methodLink RJ7 316 ⟨"[I", "clone", "()Ljava/lang/Object;"⟩, .sameMethod "[I" "java/lang/Object" "clone" "()Ljava/lang/Object;", .native ⟨"java/lang/Object", "clone", "()Ljava/lang/Object;"⟩, .instanceMethod ⟨"java/lang/Object", "clone", "()Ljava/lang/Object;"⟩, .selects "[I" ⟨"[I", "clone", "()Ljava/lang/Object;"⟩ ⟨"java/lang/Object", "clone", "()Ljava/lang/Object;"⟩, .classLink RJ7 317 "[I", .arrayClass .int, .methodLink RJ7 304 Lib.Math.min.name, .static Lib.Math.min.name, .initialized "java/lang/Math", .code Lib.Math.min.name Lib.Math.min.code 2 (some .int), .methodLink RJ7 150 arraycopyName, .native arraycopyName, .static arraycopyName, .initialized "java/lang/System"])
def wsJ7_copyOf_c38d5 : List Cond := .code yJ7_copyOf_c38d5 cJ7_copyOf_c38d5 3 (some (.array .long)) :: ([.methodLink RJ7 319 ⟨"[J", "clone", "()Ljava/lang/Object;"⟩, .sameMethod "[J" "java/lang/Object" "clone" "()Ljava/lang/Object;", .native ⟨"java/lang/Object", "clone", "()Ljava/lang/Object;"⟩, .instanceMethod ⟨"java/lang/Object", "clone", "()Ljava/lang/Object;"⟩, .selects "[J" ⟨"[J", "clone", "()Ljava/lang/Object;"⟩ ⟨"java/lang/Object", "clone", "()Ljava/lang/Object;"⟩, .classLink RJ7 320 "[J", .arrayClass .long, .methodLink RJ7 304 Lib.Math.min.name, .static Lib.Math.min.name, .initialized "java/lang/Math", .code Lib.Math.min.name Lib.Math.min.code 2 (some .int), .methodLink RJ7 150 arraycopyName, .native arraycopyName, .static arraycopyName, .initialized "java/lang/System"])
def wsX1_grow_r1 : List Cond := [Cond.fieldLink RX1 9 "TimerRows$Log" "kind" "[I", Cond.fieldLink RX1 15 "TimerRows$Log" "number" "[I", Cond.fieldLink RX1 18 "TimerRows$Log" "key" "[J", Cond.fieldLink RX1 22 "TimerRows$Log" "time" "[J", Cond.fieldLink RX1 25 "TimerRows$Log" "often" "[I", Cond.methodLink RX1 44 yJ7_copyOf_59c91, Cond.static yJ7_copyOf_59c91, Cond.initialized RJ7, Cond.code yJ7_copyOf_59c91 cJ7_copyOf_59c91 3 (some (.array .int)), Cond.methodLink RJ7 316 ⟨"[I", "clone", "()Ljava/lang/Object;"⟩, Cond.sameMethod "[I" "java/lang/Object" "clone" "()Ljava/lang/Object;", Cond.native ⟨"java/lang/Object", "clone", "()Ljava/lang/Object;"⟩, Cond.instanceMethod ⟨"java/lang/Object", "clone", "()Ljava/lang/Object;"⟩, Cond.selects "[I" ⟨"[I", "clone", "()Ljava/lang/Object;"⟩ ⟨"java/lang/Object", "clone", "()Ljava/lang/Object;"⟩, Cond.classLink RJ7 317 "[I", Cond.arrayClass .int, Cond.methodLink RJ7 304 Lib.Math.min.name, Cond.static Lib.Math.min.name, Cond.initialized "java/lang/Math", Cond.code Lib.Math.min.name Lib.Math.min.code 2 (some .int), Cond.methodLink RJ7 150 arraycopyName, Cond.native arraycopyName, Cond.static arraycopyName, Cond.initialized "java/lang/System"]
def wsX1_grow_r2 : List Cond := [Cond.methodLink RX1 50 yJ7_copyOf_c38d5, Cond.static yJ7_copyOf_c38d5, Cond.code yJ7_copyOf_c38d5 cJ7_copyOf_c38d5 3 (some (.array .long)), Cond.methodLink RJ7 319 ⟨"[J", "clone", "()Ljava/lang/Object;"⟩, Cond.sameMethod "[J" "java/lang/Object" "clone" "()Ljava/lang/Object;", Cond.selects "[J" ⟨"[J", "clone", "()Ljava/lang/Object;"⟩ ⟨"java/lang/Object", "clone", "()Ljava/lang/Object;"⟩, Cond.classLink RJ7 320 "[J", Cond.arrayClass .long]
def wsX1_grow : List Cond := .code yX1_grow cX1_grow 2 none :: ((wsX1_grow_r1 ++ wsX1_grow_r2) ++ wsX10)
def wsX1_add_r1 : List Cond := [Cond.fieldLink RX1 28 "TimerRows$Log" "size" "I", Cond.fieldLink RX1 9 "TimerRows$Log" "kind" "[I", Cond.fieldLink RX1 35 "TimerRows$Line" "order" "[I", Cond.fieldLink RX1 15 "TimerRows$Log" "number" "[I", Cond.fieldLink RX1 40 "TimerRows$Line" "number" "[I", Cond.fieldLink RX1 18 "TimerRows$Log" "key" "[J", Cond.fieldLink RX1 41 "TimerRows$Line" "key" "[J", Cond.fieldLink RX1 22 "TimerRows$Log" "time" "[J", Cond.fieldLink RX1 42 "TimerRows$Line" "time" "[J", Cond.fieldLink RX1 25 "TimerRows$Log" "often" "[I", Cond.fieldLink RX1 43 "TimerRows$Line" "often" "[I", Cond.methodLink RX1 32 yX1_grow, Cond.instanceMethod yX1_grow, Cond.selects RX1 yX1_grow yX1_grow, Cond.initialized RX1, Cond.code yX1_grow cX1_grow 2 none, Cond.methodLink RX1 44 yJ7_copyOf_59c91, Cond.static yJ7_copyOf_59c91, Cond.initialized RJ7, Cond.code yJ7_copyOf_59c91 cJ7_copyOf_59c91 3 (some (.array .int)), Cond.methodLink RJ7 316 ⟨"[I", "clone", "()Ljava/lang/Object;"⟩, Cond.sameMethod "[I" "java/lang/Object" "clone" "()Ljava/lang/Object;", Cond.native ⟨"java/lang/Object", "clone", "()Ljava/lang/Object;"⟩, Cond.instanceMethod ⟨"java/lang/Object", "clone", "()Ljava/lang/Object;"⟩]
def wsX1_add_r2 : List Cond := [Cond.selects "[I" ⟨"[I", "clone", "()Ljava/lang/Object;"⟩ ⟨"java/lang/Object", "clone", "()Ljava/lang/Object;"⟩, Cond.classLink RJ7 317 "[I", Cond.arrayClass .int, Cond.methodLink RJ7 304 Lib.Math.min.name, Cond.static Lib.Math.min.name, Cond.initialized "java/lang/Math", Cond.code Lib.Math.min.name Lib.Math.min.code 2 (some .int), Cond.methodLink RJ7 150 arraycopyName, Cond.native arraycopyName, Cond.static arraycopyName, Cond.initialized "java/lang/System", Cond.methodLink RX1 50 yJ7_copyOf_c38d5, Cond.static yJ7_copyOf_c38d5, Cond.code yJ7_copyOf_c38d5 cJ7_copyOf_c38d5 3 (some (.array .long)), Cond.methodLink RJ7 319 ⟨"[J", "clone", "()Ljava/lang/Object;"⟩, Cond.sameMethod "[J" "java/lang/Object" "clone" "()Ljava/lang/Object;", Cond.selects "[J" ⟨"[J", "clone", "()Ljava/lang/Object;"⟩ ⟨"java/lang/Object", "clone", "()Ljava/lang/Object;"⟩, Cond.classLink RJ7 320 "[J", Cond.arrayClass .long]
def wsX1_add : List Cond := .code yX1_add cX1_add 5 none :: ((wsX1_add_r1 ++ wsX1_add_r2) ++ wsX10 ++ wsX00)
def wsJ7_fill_d0a16 : List Cond := .code yJ7_fill_d0a16 cJ7_fill_d0a16 5 none :: ([])
def wsX2_begin : List Cond := .code yX2_begin cX2_begin 1 none :: ([.fieldLink RX2 12 "TimerRows$State" "timers" "LTimerRows$Line;", .fieldLink RX2 28 "TimerRows$Line" "size" "I", .fieldLink RX2 18 "TimerRows$State" "rows" "LTimerRows$Line;", .fieldLink RX2 21 "TimerRows$State" "nows" "[J", .constantLong RX2 32 (-1), .fieldLink RX2 40 "TimerRows$State" "timersSet" "I", .fieldLink RX2 43 "TimerRows$State" "rowsCame" "I", .fieldLink RX2 46 "TimerRows$State" "late" "I", .fieldLink RX2 49 "TimerRows$State" "rowsFirst" "Z", .methodLink RX2 34 yJ7_fill_d0a16, .static yJ7_fill_d0a16, .initialized RJ7, .code yJ7_fill_d0a16 cJ7_fill_d0a16 5 none] ++ wsX20 ++ wsX00)
def wsX2_init_r1 : List Cond := [Cond.methodLink RX2 3 objectInit, Cond.instanceMethod objectInit, Cond.code objectInit ⟨#[0xb1]⟩ 1 none, Cond.classLink RX2 9 RX0, Cond.instantiable RX0 8, Cond.initialized RX0, Cond.fieldLink RX2 12 "TimerRows$State" "timers" "LTimerRows$Line;", Cond.fieldLink RX2 18 "TimerRows$State" "rows" "LTimerRows$Line;", Cond.arrayClass .long, Cond.fieldLink RX2 21 "TimerRows$State" "nows" "[J", Cond.methodLink RX2 11 yX0_init, Cond.instanceMethod yX0_init, Cond.code yX0_init cX0_init 2 none, Cond.methodLink RX0 3 objectInit, Cond.arrayClass .int, Cond.fieldLink RX0 9 "TimerRows$Line" "order" "[I", Cond.fieldLink RX0 15 "TimerRows$Line" "number" "[I", Cond.fieldLink RX0 18 "TimerRows$Line" "clock" "[I", Cond.fieldLink RX0 21 "TimerRows$Line" "key" "[J", Cond.fieldLink RX0 25 "TimerRows$Line" "time" "[J", Cond.fieldLink RX0 28 "TimerRows$Line" "gap" "[J", Cond.fieldLink RX0 31 "TimerRows$Line" "often" "[I", Cond.fieldLink RX0 34 "TimerRows$Line" "size" "I", Cond.methodLink RX2 25 yX2_begin]
def wsX2_init_r2 : List Cond := [Cond.instanceMethod yX2_begin, Cond.selects RX2 yX2_begin yX2_begin, Cond.initialized RX2, Cond.code yX2_begin cX2_begin 1 none, Cond.fieldLink RX2 28 "TimerRows$Line" "size" "I", Cond.constantLong RX2 32 (-1), Cond.fieldLink RX2 40 "TimerRows$State" "timersSet" "I", Cond.fieldLink RX2 43 "TimerRows$State" "rowsCame" "I", Cond.fieldLink RX2 46 "TimerRows$State" "late" "I", Cond.fieldLink RX2 49 "TimerRows$State" "rowsFirst" "Z", Cond.methodLink RX2 34 yJ7_fill_d0a16, Cond.static yJ7_fill_d0a16, Cond.initialized RJ7, Cond.code yJ7_fill_d0a16 cJ7_fill_d0a16 5 none]
def wsX2_init : List Cond := .code yX2_init cX2_init 1 none :: ((wsX2_init_r1 ++ wsX2_init_r2) ++ wsX00 ++ wsX20)
def wsX2_copyFrom_r1 : List Cond := [Cond.fieldLink RX2 12 "TimerRows$State" "timers" "LTimerRows$Line;", Cond.fieldLink RX2 18 "TimerRows$State" "rows" "LTimerRows$Line;", Cond.fieldLink RX2 21 "TimerRows$State" "nows" "[J", Cond.methodLink RX2 57 arraycopyName, Cond.native arraycopyName, Cond.static arraycopyName, Cond.initialized "java/lang/System", Cond.fieldLink RX2 40 "TimerRows$State" "timersSet" "I", Cond.fieldLink RX2 43 "TimerRows$State" "rowsCame" "I", Cond.fieldLink RX2 46 "TimerRows$State" "late" "I", Cond.fieldLink RX2 49 "TimerRows$State" "rowsFirst" "Z", Cond.methodLink RX2 53 yX0_copyFrom, Cond.instanceMethod yX0_copyFrom, Cond.selects RX0 yX0_copyFrom yX0_copyFrom, Cond.initialized RX0, Cond.code yX0_copyFrom cX0_copyFrom 2 none, Cond.fieldLink RX0 9 "TimerRows$Line" "order" "[I", Cond.methodLink RX0 41 arraycopyName, Cond.fieldLink RX0 15 "TimerRows$Line" "number" "[I", Cond.fieldLink RX0 18 "TimerRows$Line" "clock" "[I", Cond.fieldLink RX0 21 "TimerRows$Line" "key" "[J", Cond.fieldLink RX0 25 "TimerRows$Line" "time" "[J", Cond.fieldLink RX0 28 "TimerRows$Line" "gap" "[J", Cond.fieldLink RX0 31 "TimerRows$Line" "often" "[I"]
def wsX2_copyFrom_r2 : List Cond := [Cond.fieldLink RX0 34 "TimerRows$Line" "size" "I"]
def wsX2_copyFrom : List Cond := .code yX2_copyFrom cX2_copyFrom 2 none :: ((wsX2_copyFrom_r1 ++ wsX2_copyFrom_r2) ++ wsX20 ++ wsX00)
def wsX2_takeTimerNumber : List Cond := .code yX2_takeTimerNumber cX2_takeTimerNumber 2 (some .int) :: ([.fieldLink RX2 40 "TimerRows$State" "timersSet" "I"] ++ wsX20)
def wsX2_rowGoesAhead : List Cond := .code yX2_rowGoesAhead cX2_rowGoesAhead 7 (some .boolean) :: ([.fieldLink RX2 18 "TimerRows$State" "rows" "LTimerRows$Line;", .fieldLink RX2 12 "TimerRows$State" "timers" "LTimerRows$Line;", .fieldLink RX2 49 "TimerRows$State" "rowsFirst" "Z", .methodLink RX2 63 yX0_timeAt, .instanceMethod yX0_timeAt, .selects RX0 yX0_timeAt yX0_timeAt, .initialized RX0, .code yX0_timeAt cX0_timeAt 2 (some .long), .fieldLink RX0 25 "TimerRows$Line" "time" "[J", .fieldLink RX0 9 "TimerRows$Line" "order" "[I"] ++ wsX20 ++ wsX00)
def wsX2_finishTimer_r1 : List Cond := [Cond.fieldLink RX2 12 "TimerRows$State" "timers" "LTimerRows$Line;", Cond.fieldLink RX2 67 "TimerRows$Line" "often" "[I", Cond.fieldLink RX2 71 "TimerRows$Line" "order" "[I", Cond.methodLink RX2 74 yX2_takeTimerNumber, Cond.instanceMethod yX2_takeTimerNumber, Cond.selects RX2 yX2_takeTimerNumber yX2_takeTimerNumber, Cond.initialized RX2, Cond.code yX2_takeTimerNumber cX2_takeTimerNumber 2 (some .int), Cond.fieldLink RX2 40 "TimerRows$State" "timersSet" "I", Cond.methodLink RX2 78 yX0_setAgain, Cond.instanceMethod yX0_setAgain, Cond.selects RX0 yX0_setAgain yX0_setAgain, Cond.initialized RX0, Cond.code yX0_setAgain cX0_setAgain 4 none, Cond.fieldLink RX0 9 "TimerRows$Line" "order" "[I", Cond.fieldLink RX0 34 "TimerRows$Line" "size" "I", Cond.fieldLink RX0 15 "TimerRows$Line" "number" "[I", Cond.fieldLink RX0 25 "TimerRows$Line" "time" "[J", Cond.fieldLink RX0 28 "TimerRows$Line" "gap" "[J", Cond.fieldLink RX0 31 "TimerRows$Line" "often" "[I", Cond.methodLink RX0 47 yX0_leave, Cond.instanceMethod yX0_leave, Cond.selects RX0 yX0_leave yX0_leave, Cond.code yX0_leave cX0_leave 3 none]
def wsX2_finishTimer_r2 : List Cond := [Cond.methodLink RX0 41 arraycopyName, Cond.native arraycopyName, Cond.static arraycopyName, Cond.initialized "java/lang/System", Cond.methodLink RX0 38 yX0_sortInFirstFree, Cond.instanceMethod yX0_sortInFirstFree, Cond.selects RX0 yX0_sortInFirstFree yX0_sortInFirstFree, Cond.code yX0_sortInFirstFree cX0_sortInFirstFree 3 none, Cond.methodLink RX0 51 yX0_countAheadOf, Cond.instanceMethod yX0_countAheadOf, Cond.selects RX0 yX0_countAheadOf yX0_countAheadOf, Cond.code yX0_countAheadOf cX0_countAheadOf 5 (some .int), Cond.methodLink RX0 55 yX0_goesAhead, Cond.instanceMethod yX0_goesAhead, Cond.selects RX0 yX0_goesAhead yX0_goesAhead, Cond.code yX0_goesAhead cX0_goesAhead 3 (some .boolean), Cond.fieldLink RX0 21 "TimerRows$Line" "key" "[J", Cond.methodLink RX2 82 yX0_leave]
def wsX2_finishTimer : List Cond := .code yX2_finishTimer cX2_finishTimer 2 none :: ((wsX2_finishTimer_r1 ++ wsX2_finishTimer_r2) ++ wsX20 ++ wsX00)
def wsX3_init_r1 : List Cond := [Cond.methodLink RX3 3 objectInit, Cond.instanceMethod objectInit, Cond.code objectInit ⟨#[0xb1]⟩ 1 none, Cond.classLink RX3 9 RX2, Cond.instantiable RX2 7, Cond.initialized RX2, Cond.fieldLink RX3 12 "TimerRows" "live" "LTimerRows$State;", Cond.fieldLink RX3 16 "TimerRows" "kept" "[LTimerRows$State;", Cond.classLink RX3 20 RX1, Cond.instantiable RX1 6, Cond.initialized RX1, Cond.fieldLink RX3 23 "TimerRows" "log" "LTimerRows$Log;", Cond.fieldLink RX3 27 "TimerRows" "keptCount" "I", Cond.methodLink RX3 11 yX2_init, Cond.instanceMethod yX2_init, Cond.code yX2_init cX2_init 1 none, Cond.methodLink RX2 3 objectInit, Cond.classLink RX2 9 RX0, Cond.instantiable RX0 8, Cond.initialized RX0, Cond.fieldLink RX2 12 "TimerRows$State" "timers" "LTimerRows$Line;", Cond.fieldLink RX2 18 "TimerRows$State" "rows" "LTimerRows$Line;", Cond.arrayClass .long, Cond.fieldLink RX2 21 "TimerRows$State" "nows" "[J"]
def wsX3_init_r2 : List Cond := [Cond.methodLink RX2 11 yX0_init, Cond.instanceMethod yX0_init, Cond.code yX0_init cX0_init 2 none, Cond.methodLink RX0 3 objectInit, Cond.arrayClass .int, Cond.fieldLink RX0 9 "TimerRows$Line" "order" "[I", Cond.fieldLink RX0 15 "TimerRows$Line" "number" "[I", Cond.fieldLink RX0 18 "TimerRows$Line" "clock" "[I", Cond.fieldLink RX0 21 "TimerRows$Line" "key" "[J", Cond.fieldLink RX0 25 "TimerRows$Line" "time" "[J", Cond.fieldLink RX0 28 "TimerRows$Line" "gap" "[J", Cond.fieldLink RX0 31 "TimerRows$Line" "often" "[I", Cond.fieldLink RX0 34 "TimerRows$Line" "size" "I", Cond.methodLink RX2 25 yX2_begin, Cond.instanceMethod yX2_begin, Cond.selects RX2 yX2_begin yX2_begin, Cond.code yX2_begin cX2_begin 1 none, Cond.fieldLink RX2 28 "TimerRows$Line" "size" "I", Cond.constantLong RX2 32 (-1), Cond.fieldLink RX2 40 "TimerRows$State" "timersSet" "I", Cond.fieldLink RX2 43 "TimerRows$State" "rowsCame" "I", Cond.fieldLink RX2 46 "TimerRows$State" "late" "I", Cond.fieldLink RX2 49 "TimerRows$State" "rowsFirst" "Z", Cond.methodLink RX2 34 yJ7_fill_d0a16]
def wsX3_init_r3 : List Cond := [Cond.static yJ7_fill_d0a16, Cond.initialized RJ7, Cond.code yJ7_fill_d0a16 cJ7_fill_d0a16 5 none, Cond.instanceMethod yX1_init, Cond.code yX1_init cX1_init 1 none, Cond.methodLink RX1 3 objectInit, Cond.fieldLink RX1 9 "TimerRows$Log" "kind" "[I", Cond.fieldLink RX1 15 "TimerRows$Log" "number" "[I", Cond.fieldLink RX1 18 "TimerRows$Log" "key" "[J", Cond.fieldLink RX1 22 "TimerRows$Log" "time" "[J", Cond.fieldLink RX1 25 "TimerRows$Log" "often" "[I"]
def wsX3_init : List Cond := .code yX3_init cX3_init 1 none :: ((wsX3_init_r1 ++ (wsX3_init_r2 ++ wsX3_init_r3)) ++ wsX20 ++ wsX30 ++ wsX10 ++ wsX00)
def wsX3_clear_r1 : List Cond := [Cond.fieldLink RX3 12 "TimerRows" "live" "LTimerRows$State;", Cond.fieldLink RX3 31 "TimerRows$State" "timers" "LTimerRows$Line;", Cond.fieldLink RX3 35 "TimerRows$Line" "size" "I", Cond.fieldLink RX3 40 "TimerRows$State" "rows" "LTimerRows$Line;", Cond.fieldLink RX3 23 "TimerRows" "log" "LTimerRows$Log;", Cond.fieldLink RX3 46 "TimerRows$Log" "size" "I", Cond.fieldLink RX3 27 "TimerRows" "keptCount" "I", Cond.methodLink RX3 43 yX2_begin, Cond.instanceMethod yX2_begin, Cond.selects RX2 yX2_begin yX2_begin, Cond.initialized RX2, Cond.code yX2_begin cX2_begin 1 none, Cond.fieldLink RX2 12 "TimerRows$State" "timers" "LTimerRows$Line;", Cond.fieldLink RX2 28 "TimerRows$Line" "size" "I", Cond.fieldLink RX2 18 "TimerRows$State" "rows" "LTimerRows$Line;", Cond.fieldLink RX2 21 "TimerRows$State" "nows" "[J", Cond.constantLong RX2 32 (-1), Cond.fieldLink RX2 40 "TimerRows$State" "timersSet" "I", Cond.fieldLink RX2 43 "TimerRows$State" "rowsCame" "I", Cond.fieldLink RX2 46 "TimerRows$State" "late" "I", Cond.fieldLink RX2 49 "TimerRows$State" "rowsFirst" "Z", Cond.methodLink RX2 34 yJ7_fill_d0a16, Cond.static yJ7_fill_d0a16, Cond.initialized RJ7]
def wsX3_clear_r2 : List Cond := [Cond.code yJ7_fill_d0a16 cJ7_fill_d0a16 5 none]
def wsX3_clear : List Cond := .code yX3_clear cX3_clear 2 (some .int) :: ((wsX3_clear_r1 ++ wsX3_clear_r2) ++ wsX30 ++ wsX20 ++ wsX00 ++ wsX10)
def wsX3_needClock : List Cond := .code yX3_needClock cX3_needClock 1 none :: ([.classLink RX3 57 "java/lang/IllegalArgumentException", .initialized "java/lang/IllegalArgumentException"] ++ (vx_atS RX3 61 "java/lang/IllegalArgumentException" ["java/lang/RuntimeException", "java/lang/Exception"]).filter goodWord)
def wsX3_needTime : List Cond := .code yX3_needTime cX3_needTime 2 none :: ([.classLink RX3 57 "java/lang/IllegalArgumentException", .initialized "java/lang/IllegalArgumentException", .constantLong RX3 215 (1000000000000)] ++ (vx_atS RX3 61 "java/lang/IllegalArgumentException" ["java/lang/RuntimeException", "java/lang/Exception"]).filter goodWord)
def wsX3_set_r1 : List Cond := [Cond.classLink RX3 57 "java/lang/IllegalArgumentException", Cond.initialized "java/lang/IllegalArgumentException", Cond.classLink RX3 70 "java/lang/IllegalStateException", Cond.initialized "java/lang/IllegalStateException", Cond.constantLong RX3 55 (1000000000), Cond.fieldLink RX3 12 "TimerRows" "live" "LTimerRows$State;", Cond.fieldLink RX3 31 "TimerRows$State" "timers" "LTimerRows$Line;", Cond.methodLink RX3 47 yX3_needClock, Cond.static yX3_needClock, Cond.initialized RX3, Cond.code yX3_needClock cX3_needClock 1 none, Cond.methodLink RX3 51 yX3_needTime, Cond.static yX3_needTime, Cond.code yX3_needTime cX3_needTime 2 none, Cond.constantLong RX3 215 (1000000000000), Cond.methodLink RX3 66 yX0_isFull, Cond.instanceMethod yX0_isFull, Cond.selects RX0 yX0_isFull yX0_isFull, Cond.initialized RX0, Cond.code yX0_isFull cX0_isFull 1 (some .boolean), Cond.fieldLink RX0 34 "TimerRows$Line" "size" "I", Cond.methodLink RX3 75 yX2_takeTimerNumber, Cond.instanceMethod yX2_takeTimerNumber, Cond.selects RX2 yX2_takeTimerNumber yX2_takeTimerNumber]
def wsX3_set_r2 : List Cond := [Cond.initialized RX2, Cond.code yX2_takeTimerNumber cX2_takeTimerNumber 2 (some .int), Cond.fieldLink RX2 40 "TimerRows$State" "timersSet" "I", Cond.methodLink RX3 79 yX0_enter, Cond.instanceMethod yX0_enter, Cond.selects RX0 yX0_enter yX0_enter, Cond.code yX0_enter cX0_enter 11 none, Cond.fieldLink RX0 9 "TimerRows$Line" "order" "[I", Cond.fieldLink RX0 15 "TimerRows$Line" "number" "[I", Cond.fieldLink RX0 18 "TimerRows$Line" "clock" "[I", Cond.fieldLink RX0 21 "TimerRows$Line" "key" "[J", Cond.fieldLink RX0 25 "TimerRows$Line" "time" "[J", Cond.fieldLink RX0 28 "TimerRows$Line" "gap" "[J", Cond.fieldLink RX0 31 "TimerRows$Line" "often" "[I", Cond.methodLink RX0 38 yX0_sortInFirstFree, Cond.instanceMethod yX0_sortInFirstFree, Cond.selects RX0 yX0_sortInFirstFree yX0_sortInFirstFree, Cond.code yX0_sortInFirstFree cX0_sortInFirstFree 3 none, Cond.methodLink RX0 41 arraycopyName, Cond.native arraycopyName, Cond.static arraycopyName, Cond.initialized "java/lang/System", Cond.methodLink RX0 51 yX0_countAheadOf, Cond.instanceMethod yX0_countAheadOf]
def wsX3_set_r3 : List Cond := [Cond.selects RX0 yX0_countAheadOf yX0_countAheadOf, Cond.code yX0_countAheadOf cX0_countAheadOf 5 (some .int), Cond.methodLink RX0 55 yX0_goesAhead, Cond.instanceMethod yX0_goesAhead, Cond.selects RX0 yX0_goesAhead yX0_goesAhead, Cond.code yX0_goesAhead cX0_goesAhead 3 (some .boolean)]
def wsX3_set : List Cond := .code yX3_set cX3_set 10 (some .int) :: ((wsX3_set_r1 ++ (wsX3_set_r2 ++ wsX3_set_r3)) ++ wsX30 ++ wsX20 ++ wsX00 ++ (vx_atS RX3 61 "java/lang/IllegalArgumentException" ["java/lang/RuntimeException", "java/lang/Exception"]).filter goodWord ++ (vx_atS RX3 74 "java/lang/IllegalStateException" ["java/lang/RuntimeException", "java/lang/Exception"]).filter goodWord)
def wsX3_needTimer : List Cond := .code yX3_needTimer cX3_needTimer 3 (some .int) :: ([.classLink RX3 127 "java/util/NoSuchElementException", .initialized "java/util/NoSuchElementException", .fieldLink RX3 12 "TimerRows" "live" "LTimerRows$State;", .fieldLink RX3 31 "TimerRows$State" "timers" "LTimerRows$Line;", .methodLink RX3 95 yX0_placeOf, .instanceMethod yX0_placeOf, .selects RX0 yX0_placeOf yX0_placeOf, .initialized RX0, .code yX0_placeOf cX0_placeOf 3 (some .int), .fieldLink RX0 34 "TimerRows$Line" "size" "I", .fieldLink RX0 15 "TimerRows$Line" "number" "[I", .fieldLink RX0 9 "TimerRows$Line" "order" "[I"] ++ wsX30 ++ wsX20 ++ wsX00 ++ (wy_at RX3 131 "java/util/NoSuchElementException" 13 prog_18_method_4_code ["java/lang/RuntimeException", "java/lang/Exception"]).filter goodWord)
def wsX3_move_r1 : List Cond := [Cond.fieldLink RX3 12 "TimerRows" "live" "LTimerRows$State;", Cond.fieldLink RX3 31 "TimerRows$State" "timers" "LTimerRows$Line;", Cond.methodLink RX3 51 yX3_needTime, Cond.static yX3_needTime, Cond.initialized RX3, Cond.code yX3_needTime cX3_needTime 2 none, Cond.classLink RX3 57 "java/lang/IllegalArgumentException", Cond.initialized "java/lang/IllegalArgumentException", Cond.constantLong RX3 215 (1000000000000), Cond.methodLink RX3 83 yX3_needTimer, Cond.instanceMethod yX3_needTimer, Cond.selects RX3 yX3_needTimer yX3_needTimer, Cond.code yX3_needTimer cX3_needTimer 3 (some .int), Cond.classLink RX3 127 "java/util/NoSuchElementException", Cond.initialized "java/util/NoSuchElementException", Cond.methodLink RX3 95 yX0_placeOf, Cond.instanceMethod yX0_placeOf, Cond.selects RX0 yX0_placeOf yX0_placeOf, Cond.initialized RX0, Cond.code yX0_placeOf cX0_placeOf 3 (some .int), Cond.fieldLink RX0 34 "TimerRows$Line" "size" "I", Cond.fieldLink RX0 15 "TimerRows$Line" "number" "[I", Cond.fieldLink RX0 9 "TimerRows$Line" "order" "[I", Cond.methodLink RX3 87 yX0_timeAt]
def wsX3_move_r2 : List Cond := [Cond.instanceMethod yX0_timeAt, Cond.selects RX0 yX0_timeAt yX0_timeAt, Cond.code yX0_timeAt cX0_timeAt 2 (some .long), Cond.fieldLink RX0 25 "TimerRows$Line" "time" "[J", Cond.methodLink RX3 91 yX0_retime, Cond.instanceMethod yX0_retime, Cond.selects RX0 yX0_retime yX0_retime, Cond.code yX0_retime cX0_retime 4 none, Cond.methodLink RX0 47 yX0_leave, Cond.instanceMethod yX0_leave, Cond.selects RX0 yX0_leave yX0_leave, Cond.code yX0_leave cX0_leave 3 none, Cond.methodLink RX0 41 arraycopyName, Cond.native arraycopyName, Cond.static arraycopyName, Cond.initialized "java/lang/System", Cond.methodLink RX0 38 yX0_sortInFirstFree, Cond.instanceMethod yX0_sortInFirstFree, Cond.selects RX0 yX0_sortInFirstFree yX0_sortInFirstFree, Cond.code yX0_sortInFirstFree cX0_sortInFirstFree 3 none, Cond.methodLink RX0 51 yX0_countAheadOf, Cond.instanceMethod yX0_countAheadOf, Cond.selects RX0 yX0_countAheadOf yX0_countAheadOf, Cond.code yX0_countAheadOf cX0_countAheadOf 5 (some .int)]
def wsX3_move_r3 : List Cond := [Cond.methodLink RX0 55 yX0_goesAhead, Cond.instanceMethod yX0_goesAhead, Cond.selects RX0 yX0_goesAhead yX0_goesAhead, Cond.code yX0_goesAhead cX0_goesAhead 3 (some .boolean), Cond.fieldLink RX0 21 "TimerRows$Line" "key" "[J"]
def wsX3_move : List Cond := .code yX3_move cX3_move 7 (some .long) :: ((wsX3_move_r1 ++ (wsX3_move_r2 ++ wsX3_move_r3)) ++ wsX30 ++ wsX20 ++ wsX00 ++ (vx_atS RX3 61 "java/lang/IllegalArgumentException" ["java/lang/RuntimeException", "java/lang/Exception"]).filter goodWord ++ (wy_at RX3 131 "java/util/NoSuchElementException" 13 prog_18_method_4_code ["java/lang/RuntimeException", "java/lang/Exception"]).filter goodWord)
def wsX3_cancel : List Cond := .code yX3_cancel cX3_cancel 3 (some .boolean) :: ([.fieldLink RX3 12 "TimerRows" "live" "LTimerRows$State;", .fieldLink RX3 31 "TimerRows$State" "timers" "LTimerRows$Line;", .methodLink RX3 95 yX0_placeOf, .instanceMethod yX0_placeOf, .selects RX0 yX0_placeOf yX0_placeOf, .initialized RX0, .code yX0_placeOf cX0_placeOf 3 (some .int), .fieldLink RX0 34 "TimerRows$Line" "size" "I", .fieldLink RX0 15 "TimerRows$Line" "number" "[I", .fieldLink RX0 9 "TimerRows$Line" "order" "[I", .methodLink RX3 98 yX0_leave, .instanceMethod yX0_leave, .selects RX0 yX0_leave yX0_leave, .code yX0_leave cX0_leave 3 none, .methodLink RX0 41 arraycopyName, .native arraycopyName, .static arraycopyName, .initialized "java/lang/System"] ++ wsX30 ++ wsX20 ++ wsX00)
def wsX3_row_r1 : List Cond := [Cond.classLink RX3 70 "java/lang/IllegalStateException", Cond.initialized "java/lang/IllegalStateException", Cond.fieldLink RX3 12 "TimerRows" "live" "LTimerRows$State;", Cond.fieldLink RX3 101 "TimerRows$State" "nows" "[J", Cond.fieldLink RX3 105 "TimerRows$State" "late" "I", Cond.fieldLink RX3 40 "TimerRows$State" "rows" "LTimerRows$Line;", Cond.fieldLink RX3 110 "TimerRows$State" "rowsCame" "I", Cond.methodLink RX3 51 yX3_needTime, Cond.static yX3_needTime, Cond.initialized RX3, Cond.code yX3_needTime cX3_needTime 2 none, Cond.classLink RX3 57 "java/lang/IllegalArgumentException", Cond.initialized "java/lang/IllegalArgumentException", Cond.constantLong RX3 215 (1000000000000), Cond.methodLink RX3 66 yX0_isFull, Cond.instanceMethod yX0_isFull, Cond.selects RX0 yX0_isFull yX0_isFull, Cond.initialized RX0, Cond.code yX0_isFull cX0_isFull 1 (some .boolean), Cond.fieldLink RX0 34 "TimerRows$Line" "size" "I", Cond.methodLink RX3 79 yX0_enter, Cond.instanceMethod yX0_enter, Cond.selects RX0 yX0_enter yX0_enter, Cond.code yX0_enter cX0_enter 11 none]
def wsX3_row_r2 : List Cond := [Cond.fieldLink RX0 9 "TimerRows$Line" "order" "[I", Cond.fieldLink RX0 15 "TimerRows$Line" "number" "[I", Cond.fieldLink RX0 18 "TimerRows$Line" "clock" "[I", Cond.fieldLink RX0 21 "TimerRows$Line" "key" "[J", Cond.fieldLink RX0 25 "TimerRows$Line" "time" "[J", Cond.fieldLink RX0 28 "TimerRows$Line" "gap" "[J", Cond.fieldLink RX0 31 "TimerRows$Line" "often" "[I", Cond.methodLink RX0 38 yX0_sortInFirstFree, Cond.instanceMethod yX0_sortInFirstFree, Cond.selects RX0 yX0_sortInFirstFree yX0_sortInFirstFree, Cond.code yX0_sortInFirstFree cX0_sortInFirstFree 3 none, Cond.methodLink RX0 41 arraycopyName, Cond.native arraycopyName, Cond.static arraycopyName, Cond.initialized "java/lang/System", Cond.methodLink RX0 51 yX0_countAheadOf, Cond.instanceMethod yX0_countAheadOf, Cond.selects RX0 yX0_countAheadOf yX0_countAheadOf, Cond.code yX0_countAheadOf cX0_countAheadOf 5 (some .int), Cond.methodLink RX0 55 yX0_goesAhead, Cond.instanceMethod yX0_goesAhead, Cond.selects RX0 yX0_goesAhead yX0_goesAhead, Cond.code yX0_goesAhead cX0_goesAhead 3 (some .boolean)]
def wsX3_row : List Cond := .code yX3_row cX3_row 6 (some .int) :: ((wsX3_row_r1 ++ wsX3_row_r2) ++ wsX30 ++ wsX20 ++ wsX00 ++ (vx_atS RX3 74 "java/lang/IllegalStateException" ["java/lang/RuntimeException", "java/lang/Exception"]).filter goodWord ++ (vx_atS RX3 61 "java/lang/IllegalArgumentException" ["java/lang/RuntimeException", "java/lang/Exception"]).filter goodWord)
def wsX3_first : List Cond := .code yX3_first cX3_first 3 (some .boolean) :: ([.fieldLink RX3 12 "TimerRows" "live" "LTimerRows$State;", .fieldLink RX3 113 "TimerRows$State" "rowsFirst" "Z"] ++ wsX30 ++ wsX20)
def wsX3_doFirstDue_r1 : List Cond := [Cond.fieldLink RX3 12 "TimerRows" "live" "LTimerRows$State;", Cond.fieldLink RX3 31 "TimerRows$State" "timers" "LTimerRows$Line;", Cond.fieldLink RX3 40 "TimerRows$State" "rows" "LTimerRows$Line;", Cond.fieldLink RX3 23 "TimerRows" "log" "LTimerRows$Log;", Cond.methodLink RX3 196 yX0_dueOf, Cond.instanceMethod yX0_dueOf, Cond.selects RX0 yX0_dueOf yX0_dueOf, Cond.initialized RX0, Cond.code yX0_dueOf cX0_dueOf 5 (some .int), Cond.methodLink RX0 59 yX0_headOf, Cond.instanceMethod yX0_headOf, Cond.selects RX0 yX0_headOf yX0_headOf, Cond.code yX0_headOf cX0_headOf 3 (some .int), Cond.fieldLink RX0 34 "TimerRows$Line" "size" "I", Cond.fieldLink RX0 18 "TimerRows$Line" "clock" "[I", Cond.fieldLink RX0 9 "TimerRows$Line" "order" "[I", Cond.methodLink RX0 62 yX0_timeAt, Cond.instanceMethod yX0_timeAt, Cond.selects RX0 yX0_timeAt yX0_timeAt, Cond.code yX0_timeAt cX0_timeAt 2 (some .long), Cond.fieldLink RX0 25 "TimerRows$Line" "time" "[J", Cond.methodLink RX3 200 yX2_rowGoesAhead, Cond.instanceMethod yX2_rowGoesAhead, Cond.selects RX2 yX2_rowGoesAhead yX2_rowGoesAhead]
def wsX3_doFirstDue_r2 : List Cond := [Cond.initialized RX2, Cond.code yX2_rowGoesAhead cX2_rowGoesAhead 7 (some .boolean), Cond.fieldLink RX2 18 "TimerRows$State" "rows" "LTimerRows$Line;", Cond.fieldLink RX2 12 "TimerRows$State" "timers" "LTimerRows$Line;", Cond.fieldLink RX2 49 "TimerRows$State" "rowsFirst" "Z", Cond.methodLink RX2 63 yX0_timeAt, Cond.methodLink RX3 204 yX1_add, Cond.instanceMethod yX1_add, Cond.selects RX1 yX1_add yX1_add, Cond.initialized RX1, Cond.code yX1_add cX1_add 5 none, Cond.fieldLink RX1 28 "TimerRows$Log" "size" "I", Cond.fieldLink RX1 9 "TimerRows$Log" "kind" "[I", Cond.fieldLink RX1 35 "TimerRows$Line" "order" "[I", Cond.fieldLink RX1 15 "TimerRows$Log" "number" "[I", Cond.fieldLink RX1 40 "TimerRows$Line" "number" "[I", Cond.fieldLink RX1 18 "TimerRows$Log" "key" "[J", Cond.fieldLink RX1 41 "TimerRows$Line" "key" "[J", Cond.fieldLink RX1 22 "TimerRows$Log" "time" "[J", Cond.fieldLink RX1 42 "TimerRows$Line" "time" "[J", Cond.fieldLink RX1 25 "TimerRows$Log" "often" "[I", Cond.fieldLink RX1 43 "TimerRows$Line" "often" "[I", Cond.methodLink RX1 32 yX1_grow, Cond.instanceMethod yX1_grow]
def wsX3_doFirstDue_r3 : List Cond := [Cond.selects RX1 yX1_grow yX1_grow, Cond.code yX1_grow cX1_grow 2 none, Cond.methodLink RX1 44 yJ7_copyOf_59c91, Cond.static yJ7_copyOf_59c91, Cond.initialized RJ7, Cond.code yJ7_copyOf_59c91 cJ7_copyOf_59c91 3 (some (.array .int)), Cond.methodLink RJ7 316 ⟨"[I", "clone", "()Ljava/lang/Object;"⟩, Cond.sameMethod "[I" "java/lang/Object" "clone" "()Ljava/lang/Object;", Cond.native ⟨"java/lang/Object", "clone", "()Ljava/lang/Object;"⟩, Cond.instanceMethod ⟨"java/lang/Object", "clone", "()Ljava/lang/Object;"⟩, Cond.selects "[I" ⟨"[I", "clone", "()Ljava/lang/Object;"⟩ ⟨"java/lang/Object", "clone", "()Ljava/lang/Object;"⟩, Cond.classLink RJ7 317 "[I", Cond.arrayClass .int, Cond.methodLink RJ7 304 Lib.Math.min.name, Cond.static Lib.Math.min.name, Cond.initialized "java/lang/Math", Cond.code Lib.Math.min.name Lib.Math.min.code 2 (some .int), Cond.methodLink RJ7 150 arraycopyName, Cond.native arraycopyName, Cond.static arraycopyName, Cond.initialized "java/lang/System", Cond.methodLink RX1 50 yJ7_copyOf_c38d5, Cond.static yJ7_copyOf_c38d5, Cond.code yJ7_copyOf_c38d5 cJ7_copyOf_c38d5 3 (some (.array .long))]
def wsX3_doFirstDue_r4 : List Cond := [Cond.methodLink RJ7 319 ⟨"[J", "clone", "()Ljava/lang/Object;"⟩, Cond.sameMethod "[J" "java/lang/Object" "clone" "()Ljava/lang/Object;", Cond.selects "[J" ⟨"[J", "clone", "()Ljava/lang/Object;"⟩ ⟨"java/lang/Object", "clone", "()Ljava/lang/Object;"⟩, Cond.classLink RJ7 320 "[J", Cond.arrayClass .long, Cond.methodLink RX3 98 yX0_leave, Cond.instanceMethod yX0_leave, Cond.selects RX0 yX0_leave yX0_leave, Cond.code yX0_leave cX0_leave 3 none, Cond.methodLink RX0 41 arraycopyName, Cond.methodLink RX3 208 yX2_finishTimer, Cond.instanceMethod yX2_finishTimer, Cond.selects RX2 yX2_finishTimer yX2_finishTimer, Cond.code yX2_finishTimer cX2_finishTimer 2 none, Cond.fieldLink RX2 67 "TimerRows$Line" "often" "[I", Cond.fieldLink RX2 71 "TimerRows$Line" "order" "[I", Cond.methodLink RX2 74 yX2_takeTimerNumber, Cond.instanceMethod yX2_takeTimerNumber, Cond.selects RX2 yX2_takeTimerNumber yX2_takeTimerNumber, Cond.code yX2_takeTimerNumber cX2_takeTimerNumber 2 (some .int), Cond.fieldLink RX2 40 "TimerRows$State" "timersSet" "I", Cond.methodLink RX2 78 yX0_setAgain, Cond.instanceMethod yX0_setAgain, Cond.selects RX0 yX0_setAgain yX0_setAgain]
def wsX3_doFirstDue_r5 : List Cond := [Cond.code yX0_setAgain cX0_setAgain 4 none, Cond.fieldLink RX0 15 "TimerRows$Line" "number" "[I", Cond.fieldLink RX0 28 "TimerRows$Line" "gap" "[J", Cond.fieldLink RX0 31 "TimerRows$Line" "often" "[I", Cond.methodLink RX0 47 yX0_leave, Cond.methodLink RX0 38 yX0_sortInFirstFree, Cond.instanceMethod yX0_sortInFirstFree, Cond.selects RX0 yX0_sortInFirstFree yX0_sortInFirstFree, Cond.code yX0_sortInFirstFree cX0_sortInFirstFree 3 none, Cond.methodLink RX0 51 yX0_countAheadOf, Cond.instanceMethod yX0_countAheadOf, Cond.selects RX0 yX0_countAheadOf yX0_countAheadOf, Cond.code yX0_countAheadOf cX0_countAheadOf 5 (some .int), Cond.methodLink RX0 55 yX0_goesAhead, Cond.instanceMethod yX0_goesAhead, Cond.selects RX0 yX0_goesAhead yX0_goesAhead, Cond.code yX0_goesAhead cX0_goesAhead 3 (some .boolean), Cond.fieldLink RX0 21 "TimerRows$Line" "key" "[J", Cond.methodLink RX2 82 yX0_leave]
def wsX3_doFirstDue : List Cond := .code yX3_doFirstDue cX3_doFirstDue 6 (some .boolean) :: ((wsX3_doFirstDue_r1 ++ (wsX3_doFirstDue_r2 ++ (wsX3_doFirstDue_r3 ++ (wsX3_doFirstDue_r4 ++ wsX3_doFirstDue_r5)))) ++ wsX30 ++ wsX20 ++ wsX00 ++ wsX10)
def wsX3_pass_r1 : List Cond := [Cond.classLink RX3 57 "java/lang/IllegalArgumentException", Cond.initialized "java/lang/IllegalArgumentException", Cond.fieldLink RX3 12 "TimerRows" "live" "LTimerRows$State;", Cond.fieldLink RX3 101 "TimerRows$State" "nows" "[J", Cond.fieldLink RX3 23 "TimerRows" "log" "LTimerRows$Log;", Cond.fieldLink RX3 46 "TimerRows$Log" "size" "I", Cond.methodLink RX3 47 yX3_needClock, Cond.static yX3_needClock, Cond.initialized RX3, Cond.code yX3_needClock cX3_needClock 1 none, Cond.methodLink RX3 51 yX3_needTime, Cond.static yX3_needTime, Cond.code yX3_needTime cX3_needTime 2 none, Cond.constantLong RX3 215 (1000000000000), Cond.methodLink RX3 119 yX3_doFirstDue, Cond.instanceMethod yX3_doFirstDue, Cond.selects RX3 yX3_doFirstDue yX3_doFirstDue, Cond.code yX3_doFirstDue cX3_doFirstDue 6 (some .boolean), Cond.fieldLink RX3 31 "TimerRows$State" "timers" "LTimerRows$Line;", Cond.fieldLink RX3 40 "TimerRows$State" "rows" "LTimerRows$Line;", Cond.methodLink RX3 196 yX0_dueOf, Cond.instanceMethod yX0_dueOf, Cond.selects RX0 yX0_dueOf yX0_dueOf, Cond.initialized RX0]
def wsX3_pass_r2 : List Cond := [Cond.code yX0_dueOf cX0_dueOf 5 (some .int), Cond.methodLink RX0 59 yX0_headOf, Cond.instanceMethod yX0_headOf, Cond.selects RX0 yX0_headOf yX0_headOf, Cond.code yX0_headOf cX0_headOf 3 (some .int), Cond.fieldLink RX0 34 "TimerRows$Line" "size" "I", Cond.fieldLink RX0 18 "TimerRows$Line" "clock" "[I", Cond.fieldLink RX0 9 "TimerRows$Line" "order" "[I", Cond.methodLink RX0 62 yX0_timeAt, Cond.instanceMethod yX0_timeAt, Cond.selects RX0 yX0_timeAt yX0_timeAt, Cond.code yX0_timeAt cX0_timeAt 2 (some .long), Cond.fieldLink RX0 25 "TimerRows$Line" "time" "[J", Cond.methodLink RX3 200 yX2_rowGoesAhead, Cond.instanceMethod yX2_rowGoesAhead, Cond.selects RX2 yX2_rowGoesAhead yX2_rowGoesAhead, Cond.initialized RX2, Cond.code yX2_rowGoesAhead cX2_rowGoesAhead 7 (some .boolean), Cond.fieldLink RX2 18 "TimerRows$State" "rows" "LTimerRows$Line;", Cond.fieldLink RX2 12 "TimerRows$State" "timers" "LTimerRows$Line;", Cond.fieldLink RX2 49 "TimerRows$State" "rowsFirst" "Z", Cond.methodLink RX2 63 yX0_timeAt, Cond.methodLink RX3 204 yX1_add, Cond.instanceMethod yX1_add]
def wsX3_pass_r3 : List Cond := [Cond.selects RX1 yX1_add yX1_add, Cond.initialized RX1, Cond.code yX1_add cX1_add 5 none, Cond.fieldLink RX1 28 "TimerRows$Log" "size" "I", Cond.fieldLink RX1 9 "TimerRows$Log" "kind" "[I", Cond.fieldLink RX1 35 "TimerRows$Line" "order" "[I", Cond.fieldLink RX1 15 "TimerRows$Log" "number" "[I", Cond.fieldLink RX1 40 "TimerRows$Line" "number" "[I", Cond.fieldLink RX1 18 "TimerRows$Log" "key" "[J", Cond.fieldLink RX1 41 "TimerRows$Line" "key" "[J", Cond.fieldLink RX1 22 "TimerRows$Log" "time" "[J", Cond.fieldLink RX1 42 "TimerRows$Line" "time" "[J", Cond.fieldLink RX1 25 "TimerRows$Log" "often" "[I", Cond.fieldLink RX1 43 "TimerRows$Line" "often" "[I", Cond.methodLink RX1 32 yX1_grow, Cond.instanceMethod yX1_grow, Cond.selects RX1 yX1_grow yX1_grow, Cond.code yX1_grow cX1_grow 2 none, Cond.methodLink RX1 44 yJ7_copyOf_59c91, Cond.static yJ7_copyOf_59c91, Cond.initialized RJ7, Cond.code yJ7_copyOf_59c91 cJ7_copyOf_59c91 3 (some (.array .int)), Cond.methodLink RJ7 316 ⟨"[I", "clone", "()Ljava/lang/Object;"⟩, Cond.sameMethod "[I" "java/lang/Object" "clone" "()Ljava/lang/Object;"]
def wsX3_pass_r4 : List Cond := [Cond.native ⟨"java/lang/Object", "clone", "()Ljava/lang/Object;"⟩, Cond.instanceMethod ⟨"java/lang/Object", "clone", "()Ljava/lang/Object;"⟩, Cond.selects "[I" ⟨"[I", "clone", "()Ljava/lang/Object;"⟩ ⟨"java/lang/Object", "clone", "()Ljava/lang/Object;"⟩, Cond.classLink RJ7 317 "[I", Cond.arrayClass .int, Cond.methodLink RJ7 304 Lib.Math.min.name, Cond.static Lib.Math.min.name, Cond.initialized "java/lang/Math", Cond.code Lib.Math.min.name Lib.Math.min.code 2 (some .int), Cond.methodLink RJ7 150 arraycopyName, Cond.native arraycopyName, Cond.static arraycopyName, Cond.initialized "java/lang/System", Cond.methodLink RX1 50 yJ7_copyOf_c38d5, Cond.static yJ7_copyOf_c38d5, Cond.code yJ7_copyOf_c38d5 cJ7_copyOf_c38d5 3 (some (.array .long)), Cond.methodLink RJ7 319 ⟨"[J", "clone", "()Ljava/lang/Object;"⟩, Cond.sameMethod "[J" "java/lang/Object" "clone" "()Ljava/lang/Object;", Cond.selects "[J" ⟨"[J", "clone", "()Ljava/lang/Object;"⟩ ⟨"java/lang/Object", "clone", "()Ljava/lang/Object;"⟩, Cond.classLink RJ7 320 "[J", Cond.arrayClass .long, Cond.methodLink RX3 98 yX0_leave, Cond.instanceMethod yX0_leave, Cond.selects RX0 yX0_leave yX0_leave]
def wsX3_pass_r5 : List Cond := [Cond.code yX0_leave cX0_leave 3 none, Cond.methodLink RX0 41 arraycopyName, Cond.methodLink RX3 208 yX2_finishTimer, Cond.instanceMethod yX2_finishTimer, Cond.selects RX2 yX2_finishTimer yX2_finishTimer, Cond.code yX2_finishTimer cX2_finishTimer 2 none, Cond.fieldLink RX2 67 "TimerRows$Line" "often" "[I", Cond.fieldLink RX2 71 "TimerRows$Line" "order" "[I", Cond.methodLink RX2 74 yX2_takeTimerNumber, Cond.instanceMethod yX2_takeTimerNumber, Cond.selects RX2 yX2_takeTimerNumber yX2_takeTimerNumber, Cond.code yX2_takeTimerNumber cX2_takeTimerNumber 2 (some .int), Cond.fieldLink RX2 40 "TimerRows$State" "timersSet" "I", Cond.methodLink RX2 78 yX0_setAgain, Cond.instanceMethod yX0_setAgain, Cond.selects RX0 yX0_setAgain yX0_setAgain, Cond.code yX0_setAgain cX0_setAgain 4 none, Cond.fieldLink RX0 15 "TimerRows$Line" "number" "[I", Cond.fieldLink RX0 28 "TimerRows$Line" "gap" "[J", Cond.fieldLink RX0 31 "TimerRows$Line" "often" "[I", Cond.methodLink RX0 47 yX0_leave, Cond.methodLink RX0 38 yX0_sortInFirstFree, Cond.instanceMethod yX0_sortInFirstFree, Cond.selects RX0 yX0_sortInFirstFree yX0_sortInFirstFree]
def wsX3_pass_r6 : List Cond := [Cond.code yX0_sortInFirstFree cX0_sortInFirstFree 3 none, Cond.methodLink RX0 51 yX0_countAheadOf, Cond.instanceMethod yX0_countAheadOf, Cond.selects RX0 yX0_countAheadOf yX0_countAheadOf, Cond.code yX0_countAheadOf cX0_countAheadOf 5 (some .int), Cond.methodLink RX0 55 yX0_goesAhead, Cond.instanceMethod yX0_goesAhead, Cond.selects RX0 yX0_goesAhead yX0_goesAhead, Cond.code yX0_goesAhead cX0_goesAhead 3 (some .boolean), Cond.fieldLink RX0 21 "TimerRows$Line" "key" "[J", Cond.methodLink RX2 82 yX0_leave]
def wsX3_pass : List Cond := .code yX3_pass cX3_pass 5 (some .int) :: ((wsX3_pass_r1 ++ (wsX3_pass_r2 ++ (wsX3_pass_r3 ++ (wsX3_pass_r4 ++ (wsX3_pass_r5 ++ wsX3_pass_r6))))) ++ wsX30 ++ wsX20 ++ wsX10 ++ wsX00 ++ (vx_atS RX3 61 "java/lang/IllegalArgumentException" ["java/lang/RuntimeException", "java/lang/Exception"]).filter goodWord)
def wsX3_needWhat : List Cond := .code yX3_needWhat cX3_needWhat 2 none :: ([.classLink RX3 57 "java/lang/IllegalArgumentException", .initialized "java/lang/IllegalArgumentException"] ++ (vx_atS RX3 61 "java/lang/IllegalArgumentException" ["java/lang/RuntimeException", "java/lang/Exception"]).filter goodWord)
def wsX3_done : List Cond := .code yX3_done cX3_done 3 (some .long) :: ([.classLink RX3 127 "java/util/NoSuchElementException", .initialized "java/util/NoSuchElementException", .fieldLink RX3 23 "TimerRows" "log" "LTimerRows$Log;", .fieldLink RX3 46 "TimerRows$Log" "size" "I", .fieldLink RX3 132 "TimerRows$Log" "kind" "[I", .fieldLink RX3 136 "TimerRows$Log" "number" "[I", .fieldLink RX3 139 "TimerRows$Log" "key" "[J", .fieldLink RX3 142 "TimerRows$Log" "time" "[J", .fieldLink RX3 145 "TimerRows$Log" "often" "[I", .methodLink RX3 123 yX3_needWhat, .static yX3_needWhat, .initialized RX3, .code yX3_needWhat cX3_needWhat 2 none, .classLink RX3 57 "java/lang/IllegalArgumentException", .initialized "java/lang/IllegalArgumentException"] ++ wsX30 ++ wsX10 ++ (wy_at RX3 131 "java/util/NoSuchElementException" 13 prog_18_method_4_code ["java/lang/RuntimeException", "java/lang/Exception"]).filter goodWord ++ (vx_atS RX3 61 "java/lang/IllegalArgumentException" ["java/lang/RuntimeException", "java/lang/Exception"]).filter goodWord)
def wsX3_told_r1 : List Cond := [Cond.fieldLink RX3 12 "TimerRows" "live" "LTimerRows$State;", Cond.fieldLink RX3 31 "TimerRows$State" "timers" "LTimerRows$Line;", Cond.fieldLink RX3 148 "TimerRows$Line" "order" "[I", Cond.fieldLink RX3 151 "TimerRows$Line" "clock" "[I", Cond.fieldLink RX3 154 "TimerRows$Line" "key" "[J", Cond.fieldLink RX3 155 "TimerRows$Line" "time" "[J", Cond.fieldLink RX3 156 "TimerRows$Line" "gap" "[J", Cond.fieldLink RX3 159 "TimerRows$Line" "often" "[I", Cond.methodLink RX3 123 yX3_needWhat, Cond.static yX3_needWhat, Cond.initialized RX3, Cond.code yX3_needWhat cX3_needWhat 2 none, Cond.classLink RX3 57 "java/lang/IllegalArgumentException", Cond.initialized "java/lang/IllegalArgumentException", Cond.methodLink RX3 83 yX3_needTimer, Cond.instanceMethod yX3_needTimer, Cond.selects RX3 yX3_needTimer yX3_needTimer, Cond.code yX3_needTimer cX3_needTimer 3 (some .int), Cond.classLink RX3 127 "java/util/NoSuchElementException", Cond.initialized "java/util/NoSuchElementException", Cond.methodLink RX3 95 yX0_placeOf, Cond.instanceMethod yX0_placeOf, Cond.selects RX0 yX0_placeOf yX0_placeOf, Cond.initialized RX0]
def wsX3_told_r2 : List Cond := [Cond.code yX0_placeOf cX0_placeOf 3 (some .int), Cond.fieldLink RX0 34 "TimerRows$Line" "size" "I", Cond.fieldLink RX0 15 "TimerRows$Line" "number" "[I", Cond.fieldLink RX0 9 "TimerRows$Line" "order" "[I"]
def wsX3_told : List Cond := .code yX3_told cX3_told 4 (some .long) :: ((wsX3_told_r1 ++ wsX3_told_r2) ++ wsX30 ++ wsX20 ++ wsX00 ++ (vx_atS RX3 61 "java/lang/IllegalArgumentException" ["java/lang/RuntimeException", "java/lang/Exception"]).filter goodWord ++ (wy_at RX3 131 "java/util/NoSuchElementException" 13 prog_18_method_4_code ["java/lang/RuntimeException", "java/lang/Exception"]).filter goodWord)
def wsX3_next : List Cond := .code yX3_next cX3_next 3 (some .int) :: ([.fieldLink RX3 12 "TimerRows" "live" "LTimerRows$State;", .fieldLink RX3 31 "TimerRows$State" "timers" "LTimerRows$Line;", .fieldLink RX3 163 "TimerRows$Line" "number" "[I", .fieldLink RX3 148 "TimerRows$Line" "order" "[I", .methodLink RX3 47 yX3_needClock, .static yX3_needClock, .initialized RX3, .code yX3_needClock cX3_needClock 1 none, .classLink RX3 57 "java/lang/IllegalArgumentException", .initialized "java/lang/IllegalArgumentException", .methodLink RX3 160 yX0_headOf, .instanceMethod yX0_headOf, .selects RX0 yX0_headOf yX0_headOf, .initialized RX0, .code yX0_headOf cX0_headOf 3 (some .int), .fieldLink RX0 34 "TimerRows$Line" "size" "I", .fieldLink RX0 18 "TimerRows$Line" "clock" "[I", .fieldLink RX0 9 "TimerRows$Line" "order" "[I"] ++ wsX30 ++ wsX20 ++ wsX00 ++ (vx_atS RX3 61 "java/lang/IllegalArgumentException" ["java/lang/RuntimeException", "java/lang/Exception"]).filter goodWord)
def wsX3_waiting : List Cond := .code yX3_waiting cX3_waiting 8 (some .int) :: ([.classLink RX3 57 "java/lang/IllegalArgumentException", .initialized "java/lang/IllegalArgumentException", .fieldLink RX3 12 "TimerRows" "live" "LTimerRows$State;", .fieldLink RX3 31 "TimerRows$State" "timers" "LTimerRows$Line;", .methodLink RX3 47 yX3_needClock, .static yX3_needClock, .initialized RX3, .code yX3_needClock cX3_needClock 1 none, .methodLink RX3 166 yX0_countBetween, .instanceMethod yX0_countBetween, .selects RX0 yX0_countBetween yX0_countBetween, .initialized RX0, .code yX0_countBetween cX0_countBetween 12 (some .int), .fieldLink RX0 34 "TimerRows$Line" "size" "I", .fieldLink RX0 9 "TimerRows$Line" "order" "[I", .fieldLink RX0 25 "TimerRows$Line" "time" "[J", .fieldLink RX0 18 "TimerRows$Line" "clock" "[I", .fieldLink RX0 21 "TimerRows$Line" "key" "[J"] ++ wsX30 ++ wsX20 ++ wsX00 ++ (vx_atS RX3 61 "java/lang/IllegalArgumentException" ["java/lang/RuntimeException", "java/lang/Exception"]).filter goodWord)
def wsX3_keep_r1 : List Cond := [Cond.classLink RX3 70 "java/lang/IllegalStateException", Cond.initialized "java/lang/IllegalStateException", Cond.fieldLink RX3 27 "TimerRows" "keptCount" "I", Cond.fieldLink RX3 16 "TimerRows" "kept" "[LTimerRows$State;", Cond.classLink RX3 9 RX2, Cond.instantiable RX2 7, Cond.initialized RX2, Cond.fieldLink RX3 12 "TimerRows" "live" "LTimerRows$State;", Cond.methodLink RX3 11 yX2_init, Cond.instanceMethod yX2_init, Cond.code yX2_init cX2_init 1 none, Cond.methodLink RX2 3 objectInit, Cond.instanceMethod objectInit, Cond.code objectInit ⟨#[0xb1]⟩ 1 none, Cond.classLink RX2 9 RX0, Cond.instantiable RX0 8, Cond.initialized RX0, Cond.fieldLink RX2 12 "TimerRows$State" "timers" "LTimerRows$Line;", Cond.fieldLink RX2 18 "TimerRows$State" "rows" "LTimerRows$Line;", Cond.arrayClass .long, Cond.fieldLink RX2 21 "TimerRows$State" "nows" "[J", Cond.methodLink RX2 11 yX0_init, Cond.instanceMethod yX0_init, Cond.code yX0_init cX0_init 2 none]
def wsX3_keep_r2 : List Cond := [Cond.methodLink RX0 3 objectInit, Cond.arrayClass .int, Cond.fieldLink RX0 9 "TimerRows$Line" "order" "[I", Cond.fieldLink RX0 15 "TimerRows$Line" "number" "[I", Cond.fieldLink RX0 18 "TimerRows$Line" "clock" "[I", Cond.fieldLink RX0 21 "TimerRows$Line" "key" "[J", Cond.fieldLink RX0 25 "TimerRows$Line" "time" "[J", Cond.fieldLink RX0 28 "TimerRows$Line" "gap" "[J", Cond.fieldLink RX0 31 "TimerRows$Line" "often" "[I", Cond.fieldLink RX0 34 "TimerRows$Line" "size" "I", Cond.methodLink RX2 25 yX2_begin, Cond.instanceMethod yX2_begin, Cond.selects RX2 yX2_begin yX2_begin, Cond.code yX2_begin cX2_begin 1 none, Cond.fieldLink RX2 28 "TimerRows$Line" "size" "I", Cond.constantLong RX2 32 (-1), Cond.fieldLink RX2 40 "TimerRows$State" "timersSet" "I", Cond.fieldLink RX2 43 "TimerRows$State" "rowsCame" "I", Cond.fieldLink RX2 46 "TimerRows$State" "late" "I", Cond.fieldLink RX2 49 "TimerRows$State" "rowsFirst" "Z", Cond.methodLink RX2 34 yJ7_fill_d0a16, Cond.static yJ7_fill_d0a16, Cond.initialized RJ7, Cond.code yJ7_fill_d0a16 cJ7_fill_d0a16 5 none]
def wsX3_keep_r3 : List Cond := [Cond.methodLink RX3 172 yX2_copyFrom, Cond.instanceMethod yX2_copyFrom, Cond.selects RX2 yX2_copyFrom yX2_copyFrom, Cond.code yX2_copyFrom cX2_copyFrom 2 none, Cond.methodLink RX2 57 arraycopyName, Cond.native arraycopyName, Cond.static arraycopyName, Cond.initialized "java/lang/System", Cond.methodLink RX2 53 yX0_copyFrom, Cond.instanceMethod yX0_copyFrom, Cond.selects RX0 yX0_copyFrom yX0_copyFrom, Cond.code yX0_copyFrom cX0_copyFrom 2 none, Cond.methodLink RX0 41 arraycopyName]
def wsX3_keep : List Cond := .code yX3_keep cX3_keep 3 (some .int) :: ((wsX3_keep_r1 ++ (wsX3_keep_r2 ++ wsX3_keep_r3)) ++ wsX30 ++ wsX20 ++ wsX00 ++ (vx_atS RX3 74 "java/lang/IllegalStateException" ["java/lang/RuntimeException", "java/lang/Exception"]).filter goodWord)
def wsX3_back_r1 : List Cond := [Cond.classLink RX3 57 "java/lang/IllegalArgumentException", Cond.initialized "java/lang/IllegalArgumentException", Cond.fieldLink RX3 27 "TimerRows" "keptCount" "I", Cond.fieldLink RX3 16 "TimerRows" "kept" "[LTimerRows$State;", Cond.fieldLink RX3 12 "TimerRows" "live" "LTimerRows$State;", Cond.fieldLink RX3 31 "TimerRows$State" "timers" "LTimerRows$Line;", Cond.fieldLink RX3 35 "TimerRows$Line" "size" "I", Cond.methodLink RX3 172 yX2_copyFrom, Cond.instanceMethod yX2_copyFrom, Cond.selects RX2 yX2_copyFrom yX2_copyFrom, Cond.initialized RX2, Cond.code yX2_copyFrom cX2_copyFrom 2 none, Cond.fieldLink RX2 12 "TimerRows$State" "timers" "LTimerRows$Line;", Cond.fieldLink RX2 18 "TimerRows$State" "rows" "LTimerRows$Line;", Cond.fieldLink RX2 21 "TimerRows$State" "nows" "[J", Cond.methodLink RX2 57 arraycopyName, Cond.native arraycopyName, Cond.static arraycopyName, Cond.initialized "java/lang/System", Cond.fieldLink RX2 40 "TimerRows$State" "timersSet" "I", Cond.fieldLink RX2 43 "TimerRows$State" "rowsCame" "I", Cond.fieldLink RX2 46 "TimerRows$State" "late" "I", Cond.fieldLink RX2 49 "TimerRows$State" "rowsFirst" "Z", Cond.methodLink RX2 53 yX0_copyFrom]
def wsX3_back_r2 : List Cond := [Cond.instanceMethod yX0_copyFrom, Cond.selects RX0 yX0_copyFrom yX0_copyFrom, Cond.initialized RX0, Cond.code yX0_copyFrom cX0_copyFrom 2 none, Cond.fieldLink RX0 9 "TimerRows$Line" "order" "[I", Cond.methodLink RX0 41 arraycopyName, Cond.fieldLink RX0 15 "TimerRows$Line" "number" "[I", Cond.fieldLink RX0 18 "TimerRows$Line" "clock" "[I", Cond.fieldLink RX0 21 "TimerRows$Line" "key" "[J", Cond.fieldLink RX0 25 "TimerRows$Line" "time" "[J", Cond.fieldLink RX0 28 "TimerRows$Line" "gap" "[J", Cond.fieldLink RX0 31 "TimerRows$Line" "often" "[I", Cond.fieldLink RX0 34 "TimerRows$Line" "size" "I"]
def wsX3_back : List Cond := .code yX3_back cX3_back 3 (some .int) :: ((wsX3_back_r1 ++ wsX3_back_r2) ++ wsX30 ++ wsX20 ++ wsX00 ++ (vx_atS RX3 61 "java/lang/IllegalArgumentException" ["java/lang/RuntimeException", "java/lang/Exception"]).filter goodWord)
def wsX3_forget : List Cond := .code yX3_forget cX3_forget 1 (some .int) :: ([.classLink RX3 70 "java/lang/IllegalStateException", .initialized "java/lang/IllegalStateException", .fieldLink RX3 27 "TimerRows" "keptCount" "I"] ++ wsX30 ++ (vx_atS RX3 74 "java/lang/IllegalStateException" ["java/lang/RuntimeException", "java/lang/Exception"]).filter goodWord)
def wsX3_needTasks : List Cond := .code yX3_needTasks cX3_needTasks 1 none :: ([.classLink RX3 57 "java/lang/IllegalArgumentException", .initialized "java/lang/IllegalArgumentException"] ++ (vx_atS RX3 61 "java/lang/IllegalArgumentException" ["java/lang/RuntimeException", "java/lang/Exception"]).filter goodWord)
def wsX3_task : List Cond := .code yX3_task cX3_task 4 (some .int) :: ([.methodLink RX3 180 yX3_needTasks, .static yX3_needTasks, .initialized RX3, .code yX3_needTasks cX3_needTasks 1 none, .classLink RX3 57 "java/lang/IllegalArgumentException", .initialized "java/lang/IllegalArgumentException", .methodLink RX3 183 yX3_taskOf, .static yX3_taskOf, .code yX3_taskOf cX3_taskOf 4 (some .int), .constantLong RX3 223 (128), .methodLink RX3 225 yJ9_floorMod_f86c9, .static yJ9_floorMod_f86c9, .initialized RJ9, .code yJ9_floorMod_f86c9 cJ9_floorMod_f86c9 6 (some .long)] ++ (vx_atS RX3 61 "java/lang/IllegalArgumentException" ["java/lang/RuntimeException", "java/lang/Exception"]).filter goodWord)
def wsX3_load : List Cond := .code yX3_load cX3_load 3 (some .int) :: ([.classLink RX3 57 "java/lang/IllegalArgumentException", .initialized "java/lang/IllegalArgumentException", .fieldLink RX3 12 "TimerRows" "live" "LTimerRows$State;", .fieldLink RX3 31 "TimerRows$State" "timers" "LTimerRows$Line;", .fieldLink RX3 40 "TimerRows$State" "rows" "LTimerRows$Line;", .methodLink RX3 180 yX3_needTasks, .static yX3_needTasks, .initialized RX3, .code yX3_needTasks cX3_needTasks 1 none, .methodLink RX3 189 yX0_countOfTask, .instanceMethod yX0_countOfTask, .selects RX0 yX0_countOfTask yX0_countOfTask, .initialized RX0, .code yX0_countOfTask cX0_countOfTask 5 (some .int), .fieldLink RX0 34 "TimerRows$Line" "size" "I", .fieldLink RX0 21 "TimerRows$Line" "key" "[J", .fieldLink RX0 9 "TimerRows$Line" "order" "[I", .static yX3_taskOf, .code yX3_taskOf cX3_taskOf 4 (some .int), .constantLong RX3 223 (128), .methodLink RX3 225 yJ9_floorMod_f86c9, .static yJ9_floorMod_f86c9, .initialized RJ9, .code yJ9_floorMod_f86c9 cJ9_floorMod_f86c9 6 (some .long)] ++ wsX30 ++ wsX20 ++ wsX00 ++ (vx_atS RX3 61 "java/lang/IllegalArgumentException" ["java/lang/RuntimeException", "java/lang/Exception"]).filter goodWord)
def wsX3_of : List Cond := .code yX3_of cX3_of 2 (some .int) :: ([.fieldLink RX3 12 "TimerRows" "live" "LTimerRows$State;", .fieldLink RX3 31 "TimerRows$State" "timers" "LTimerRows$Line;", .fieldLink RX3 35 "TimerRows$Line" "size" "I", .fieldLink RX3 40 "TimerRows$State" "rows" "LTimerRows$Line;", .fieldLink RX3 193 "TimerRows$State" "timersSet" "I", .fieldLink RX3 110 "TimerRows$State" "rowsCame" "I", .fieldLink RX3 105 "TimerRows$State" "late" "I", .fieldLink RX3 27 "TimerRows" "keptCount" "I", .fieldLink RX3 23 "TimerRows" "log" "LTimerRows$Log;", .fieldLink RX3 46 "TimerRows$Log" "size" "I", .methodLink RX3 123 yX3_needWhat, .static yX3_needWhat, .initialized RX3, .code yX3_needWhat cX3_needWhat 2 none, .classLink RX3 57 "java/lang/IllegalArgumentException", .initialized "java/lang/IllegalArgumentException"] ++ wsX30 ++ wsX20 ++ wsX00 ++ wsX10 ++ (vx_atS RX3 61 "java/lang/IllegalArgumentException" ["java/lang/RuntimeException", "java/lang/Exception"]).filter goodWord)
def wsX3_now : List Cond := .code yX3_now cX3_now 2 (some .long) :: ([.fieldLink RX3 12 "TimerRows" "live" "LTimerRows$State;", .fieldLink RX3 101 "TimerRows$State" "nows" "[J", .methodLink RX3 47 yX3_needClock, .static yX3_needClock, .initialized RX3, .code yX3_needClock cX3_needClock 1 none, .classLink RX3 57 "java/lang/IllegalArgumentException", .initialized "java/lang/IllegalArgumentException"] ++ wsX30 ++ wsX20 ++ (vx_atS RX3 61 "java/lang/IllegalArgumentException" ["java/lang/RuntimeException", "java/lang/Exception"]).filter goodWord)
def wsX4_begin : List Cond := .code yX4_begin cX4_begin 1 none :: ([.fieldLink RX4 7 "TimerRowsModel" "waits" "[I", .fieldLink RX4 36 "TimerRowsModel" "nows" "[J", .constantLong RX4 64 (-1), .fieldLink RX4 39 "TimerRowsModel" "counts" "[I", .fieldLink RX4 66 "TimerRowsModel" "kept" "I", .fieldLink RX4 69 "TimerRowsModel" "done" "I"] ++ wsX40)
def wsX4_init_r1 : List Cond := [Cond.methodLink RX4 1 objectInit, Cond.instanceMethod objectInit, Cond.code objectInit ⟨#[0xb1]⟩ 1 none, Cond.arrayClass .int, Cond.fieldLink RX4 7 "TimerRowsModel" "waits" "[I", Cond.arrayClass .boolean, Cond.fieldLink RX4 13 "TimerRowsModel" "isTimer" "[Z", Cond.fieldLink RX4 17 "TimerRowsModel" "clock" "[I", Cond.fieldLink RX4 20 "TimerRowsModel" "number" "[I", Cond.arrayClass .long, Cond.fieldLink RX4 23 "TimerRowsModel" "key" "[J", Cond.fieldLink RX4 27 "TimerRowsModel" "time" "[J", Cond.fieldLink RX4 30 "TimerRowsModel" "gap" "[J", Cond.fieldLink RX4 33 "TimerRowsModel" "often" "[I", Cond.fieldLink RX4 36 "TimerRowsModel" "nows" "[J", Cond.fieldLink RX4 39 "TimerRowsModel" "counts" "[I", Cond.fieldLink RX4 42 "TimerRowsModel" "doneKind" "[I", Cond.fieldLink RX4 45 "TimerRowsModel" "doneNumber" "[I", Cond.fieldLink RX4 48 "TimerRowsModel" "doneKey" "[J", Cond.fieldLink RX4 51 "TimerRowsModel" "doneTime" "[J", Cond.fieldLink RX4 54 "TimerRowsModel" "doneOften" "[I", Cond.methodLink RX4 57 yX4_begin, Cond.instanceMethod yX4_begin, Cond.selects RX4 yX4_begin yX4_begin]
def wsX4_init_r2 : List Cond := [Cond.initialized RX4, Cond.code yX4_begin cX4_begin 1 none, Cond.constantLong RX4 64 (-1), Cond.fieldLink RX4 66 "TimerRowsModel" "kept" "I", Cond.fieldLink RX4 69 "TimerRowsModel" "done" "I"]
def wsX4_init : List Cond := .code yX4_init cX4_init 1 none :: ((wsX4_init_r1 ++ wsX4_init_r2) ++ wsX40)
def wsX4_thrown : List Cond := .code yX4_thrown cX4_thrown 1 (some .int) :: ([.fieldLink RX4 60 "TimerRowsModel" "code" "I"] ++ wsX40)
def wsX4_isGood : List Cond := .code yX4_isGood cX4_isGood 2 (some .boolean) :: ([.fieldLink RX4 60 "TimerRowsModel" "code" "I"] ++ wsX40)
def wsX4_isIn : List Cond := .code yX4_isIn cX4_isIn 6 (some .boolean) :: ([])
def wsX4_clear : List Cond := .code yX4_clear cX4_clear 2 (some .int) :: ([.fieldLink RX4 60 "TimerRowsModel" "code" "I", .fieldLink RX4 7 "TimerRowsModel" "waits" "[I", .methodLink RX4 57 yX4_begin, .instanceMethod yX4_begin, .selects RX4 yX4_begin yX4_begin, .initialized RX4, .code yX4_begin cX4_begin 1 none, .fieldLink RX4 36 "TimerRowsModel" "nows" "[J", .constantLong RX4 64 (-1), .fieldLink RX4 39 "TimerRowsModel" "counts" "[I", .fieldLink RX4 66 "TimerRowsModel" "kept" "I", .fieldLink RX4 69 "TimerRowsModel" "done" "I"] ++ wsX40)
def wsX4_many : List Cond := .code yX4_many cX4_many 4 (some .int) :: ([.fieldLink RX4 7 "TimerRowsModel" "waits" "[I", .fieldLink RX4 13 "TimerRowsModel" "isTimer" "[Z"] ++ wsX40)
def wsX4_add : List Cond := .code yX4_add cX4_add 12 none :: ([.fieldLink RX4 7 "TimerRowsModel" "waits" "[I", .fieldLink RX4 13 "TimerRowsModel" "isTimer" "[Z", .fieldLink RX4 17 "TimerRowsModel" "clock" "[I", .fieldLink RX4 20 "TimerRowsModel" "number" "[I", .fieldLink RX4 23 "TimerRowsModel" "key" "[J", .fieldLink RX4 27 "TimerRowsModel" "time" "[J", .fieldLink RX4 30 "TimerRowsModel" "gap" "[J", .fieldLink RX4 33 "TimerRowsModel" "often" "[I"] ++ wsX40)
def wsX4_copy : List Cond := .code yX4_copy cX4_copy 3 none :: ([.fieldLink RX4 13 "TimerRowsModel" "isTimer" "[Z", .fieldLink RX4 17 "TimerRowsModel" "clock" "[I", .fieldLink RX4 20 "TimerRowsModel" "number" "[I", .fieldLink RX4 23 "TimerRowsModel" "key" "[J", .fieldLink RX4 27 "TimerRowsModel" "time" "[J", .fieldLink RX4 30 "TimerRowsModel" "gap" "[J", .fieldLink RX4 33 "TimerRowsModel" "often" "[I"] ++ wsX40)
def wsX4_take : List Cond := .code yX4_take cX4_take 2 none :: ([.fieldLink RX4 7 "TimerRowsModel" "waits" "[I", .methodLink RX4 72 yX4_copy, .instanceMethod yX4_copy, .selects RX4 yX4_copy yX4_copy, .initialized RX4, .code yX4_copy cX4_copy 3 none, .fieldLink RX4 13 "TimerRowsModel" "isTimer" "[Z", .fieldLink RX4 17 "TimerRowsModel" "clock" "[I", .fieldLink RX4 20 "TimerRowsModel" "number" "[I", .fieldLink RX4 23 "TimerRowsModel" "key" "[J", .fieldLink RX4 27 "TimerRowsModel" "time" "[J", .fieldLink RX4 30 "TimerRowsModel" "gap" "[J", .fieldLink RX4 33 "TimerRowsModel" "often" "[I"] ++ wsX40)
def wsX4_find : List Cond := .code yX4_find cX4_find 3 (some .int) :: ([.fieldLink RX4 7 "TimerRowsModel" "waits" "[I", .fieldLink RX4 13 "TimerRowsModel" "isTimer" "[Z", .fieldLink RX4 20 "TimerRowsModel" "number" "[I"] ++ wsX40)
def wsX4_set_r1 : List Cond := [Cond.constantLong RX4 80 (1000000000000), Cond.constantLong RX4 82 (1000000000), Cond.constantLong RX4 84 (50), Cond.fieldLink RX4 39 "TimerRowsModel" "counts" "[I", Cond.methodLink RX4 76 yX4_isIn, Cond.static yX4_isIn, Cond.initialized RX4, Cond.code yX4_isIn cX4_isIn 6 (some .boolean), Cond.methodLink RX4 86 yX4_many, Cond.instanceMethod yX4_many, Cond.selects RX4 yX4_many yX4_many, Cond.code yX4_many cX4_many 4 (some .int), Cond.fieldLink RX4 7 "TimerRowsModel" "waits" "[I", Cond.fieldLink RX4 13 "TimerRowsModel" "isTimer" "[Z", Cond.methodLink RX4 90 yX4_isGood, Cond.instanceMethod yX4_isGood, Cond.selects RX4 yX4_isGood yX4_isGood, Cond.code yX4_isGood cX4_isGood 2 (some .boolean), Cond.fieldLink RX4 60 "TimerRowsModel" "code" "I", Cond.methodLink RX4 94 yX4_add, Cond.instanceMethod yX4_add, Cond.selects RX4 yX4_add yX4_add, Cond.code yX4_add cX4_add 12 none, Cond.fieldLink RX4 17 "TimerRowsModel" "clock" "[I"]
def wsX4_set_r2 : List Cond := [Cond.fieldLink RX4 20 "TimerRowsModel" "number" "[I", Cond.fieldLink RX4 23 "TimerRowsModel" "key" "[J", Cond.fieldLink RX4 27 "TimerRowsModel" "time" "[J", Cond.fieldLink RX4 30 "TimerRowsModel" "gap" "[J", Cond.fieldLink RX4 33 "TimerRowsModel" "often" "[I"]
def wsX4_set : List Cond := .code yX4_set cX4_set 10 (some .int) :: ((wsX4_set_r1 ++ wsX4_set_r2) ++ wsX40)
def wsX4_move : List Cond := .code yX4_move cX4_move 7 (some .long) :: ([.constantLong RX4 80 (1000000000000), .fieldLink RX4 27 "TimerRowsModel" "time" "[J", .methodLink RX4 98 yX4_find, .instanceMethod yX4_find, .selects RX4 yX4_find yX4_find, .initialized RX4, .code yX4_find cX4_find 3 (some .int), .fieldLink RX4 7 "TimerRowsModel" "waits" "[I", .fieldLink RX4 13 "TimerRowsModel" "isTimer" "[Z", .fieldLink RX4 20 "TimerRowsModel" "number" "[I", .methodLink RX4 76 yX4_isIn, .static yX4_isIn, .code yX4_isIn cX4_isIn 6 (some .boolean), .methodLink RX4 90 yX4_isGood, .instanceMethod yX4_isGood, .selects RX4 yX4_isGood yX4_isGood, .code yX4_isGood cX4_isGood 2 (some .boolean), .fieldLink RX4 60 "TimerRowsModel" "code" "I"] ++ wsX40)
def wsX4_cancel : List Cond := .code yX4_cancel cX4_cancel 3 (some .boolean) :: ([.fieldLink RX4 60 "TimerRowsModel" "code" "I", .methodLink RX4 98 yX4_find, .instanceMethod yX4_find, .selects RX4 yX4_find yX4_find, .initialized RX4, .code yX4_find cX4_find 3 (some .int), .fieldLink RX4 7 "TimerRowsModel" "waits" "[I", .fieldLink RX4 13 "TimerRowsModel" "isTimer" "[Z", .fieldLink RX4 20 "TimerRowsModel" "number" "[I", .methodLink RX4 102 yX4_take, .instanceMethod yX4_take, .selects RX4 yX4_take yX4_take, .code yX4_take cX4_take 2 none, .methodLink RX4 72 yX4_copy, .instanceMethod yX4_copy, .selects RX4 yX4_copy yX4_copy, .code yX4_copy cX4_copy 3 none, .fieldLink RX4 17 "TimerRowsModel" "clock" "[I", .fieldLink RX4 23 "TimerRowsModel" "key" "[J", .fieldLink RX4 27 "TimerRowsModel" "time" "[J", .fieldLink RX4 30 "TimerRowsModel" "gap" "[J", .fieldLink RX4 33 "TimerRowsModel" "often" "[I"] ++ wsX40)
def wsX4_row_r1 : List Cond := [Cond.constantLong RX4 80 (1000000000000), Cond.fieldLink RX4 36 "TimerRowsModel" "nows" "[J", Cond.fieldLink RX4 39 "TimerRowsModel" "counts" "[I", Cond.methodLink RX4 76 yX4_isIn, Cond.static yX4_isIn, Cond.initialized RX4, Cond.code yX4_isIn cX4_isIn 6 (some .boolean), Cond.methodLink RX4 90 yX4_isGood, Cond.instanceMethod yX4_isGood, Cond.selects RX4 yX4_isGood yX4_isGood, Cond.code yX4_isGood cX4_isGood 2 (some .boolean), Cond.fieldLink RX4 60 "TimerRowsModel" "code" "I", Cond.methodLink RX4 86 yX4_many, Cond.instanceMethod yX4_many, Cond.selects RX4 yX4_many yX4_many, Cond.code yX4_many cX4_many 4 (some .int), Cond.fieldLink RX4 7 "TimerRowsModel" "waits" "[I", Cond.fieldLink RX4 13 "TimerRowsModel" "isTimer" "[Z", Cond.methodLink RX4 94 yX4_add, Cond.instanceMethod yX4_add, Cond.selects RX4 yX4_add yX4_add, Cond.code yX4_add cX4_add 12 none, Cond.fieldLink RX4 17 "TimerRowsModel" "clock" "[I", Cond.fieldLink RX4 20 "TimerRowsModel" "number" "[I"]
def wsX4_row_r2 : List Cond := [Cond.fieldLink RX4 23 "TimerRowsModel" "key" "[J", Cond.fieldLink RX4 27 "TimerRowsModel" "time" "[J", Cond.fieldLink RX4 30 "TimerRowsModel" "gap" "[J", Cond.fieldLink RX4 33 "TimerRowsModel" "often" "[I"]
def wsX4_row : List Cond := .code yX4_row cX4_row 5 (some .int) :: ((wsX4_row_r1 ++ wsX4_row_r2) ++ wsX40)
def wsX4_first : List Cond := .code yX4_first cX4_first 3 (some .boolean) :: ([.fieldLink RX4 60 "TimerRowsModel" "code" "I", .fieldLink RX4 39 "TimerRowsModel" "counts" "[I"] ++ wsX40)
def wsX4_isAhead : List Cond := .code yX4_isAhead cX4_isAhead 3 (some .boolean) :: ([.fieldLink RX4 27 "TimerRowsModel" "time" "[J", .fieldLink RX4 13 "TimerRowsModel" "isTimer" "[Z", .fieldLink RX4 39 "TimerRowsModel" "counts" "[I", .fieldLink RX4 23 "TimerRowsModel" "key" "[J", .fieldLink RX4 20 "TimerRowsModel" "number" "[I"] ++ wsX40)
def wsX4_leastOf : List Cond := .code yX4_leastOf cX4_leastOf 8 (some .int) :: ([.fieldLink RX4 7 "TimerRowsModel" "waits" "[I", .fieldLink RX4 17 "TimerRowsModel" "clock" "[I", .fieldLink RX4 27 "TimerRowsModel" "time" "[J", .fieldLink RX4 13 "TimerRowsModel" "isTimer" "[Z", .methodLink RX4 106 yX4_isAhead, .instanceMethod yX4_isAhead, .selects RX4 yX4_isAhead yX4_isAhead, .initialized RX4, .code yX4_isAhead cX4_isAhead 3 (some .boolean), .fieldLink RX4 39 "TimerRowsModel" "counts" "[I", .fieldLink RX4 23 "TimerRowsModel" "key" "[J", .fieldLink RX4 20 "TimerRowsModel" "number" "[I"] ++ wsX40)
def wsX4_pass_r1 : List Cond := [Cond.constantLong RX4 80 (1000000000000), Cond.fieldLink RX4 36 "TimerRowsModel" "nows" "[J", Cond.fieldLink RX4 69 "TimerRowsModel" "done" "I", Cond.fieldLink RX4 42 "TimerRowsModel" "doneKind" "[I", Cond.fieldLink RX4 13 "TimerRowsModel" "isTimer" "[Z", Cond.fieldLink RX4 45 "TimerRowsModel" "doneNumber" "[I", Cond.fieldLink RX4 20 "TimerRowsModel" "number" "[I", Cond.fieldLink RX4 48 "TimerRowsModel" "doneKey" "[J", Cond.fieldLink RX4 23 "TimerRowsModel" "key" "[J", Cond.fieldLink RX4 51 "TimerRowsModel" "doneTime" "[J", Cond.fieldLink RX4 27 "TimerRowsModel" "time" "[J", Cond.fieldLink RX4 54 "TimerRowsModel" "doneOften" "[I", Cond.fieldLink RX4 33 "TimerRowsModel" "often" "[I", Cond.fieldLink RX4 39 "TimerRowsModel" "counts" "[I", Cond.fieldLink RX4 30 "TimerRowsModel" "gap" "[J", Cond.methodLink RX4 76 yX4_isIn, Cond.static yX4_isIn, Cond.initialized RX4, Cond.code yX4_isIn cX4_isIn 6 (some .boolean), Cond.methodLink RX4 90 yX4_isGood, Cond.instanceMethod yX4_isGood, Cond.selects RX4 yX4_isGood yX4_isGood, Cond.code yX4_isGood cX4_isGood 2 (some .boolean), Cond.fieldLink RX4 60 "TimerRowsModel" "code" "I"]
def wsX4_pass_r2 : List Cond := [Cond.methodLink RX4 110 yX4_leastOf, Cond.instanceMethod yX4_leastOf, Cond.selects RX4 yX4_leastOf yX4_leastOf, Cond.code yX4_leastOf cX4_leastOf 8 (some .int), Cond.fieldLink RX4 7 "TimerRowsModel" "waits" "[I", Cond.fieldLink RX4 17 "TimerRowsModel" "clock" "[I", Cond.methodLink RX4 106 yX4_isAhead, Cond.instanceMethod yX4_isAhead, Cond.selects RX4 yX4_isAhead yX4_isAhead, Cond.code yX4_isAhead cX4_isAhead 3 (some .boolean), Cond.methodLink RX4 102 yX4_take, Cond.instanceMethod yX4_take, Cond.selects RX4 yX4_take yX4_take, Cond.code yX4_take cX4_take 2 none, Cond.methodLink RX4 72 yX4_copy, Cond.instanceMethod yX4_copy, Cond.selects RX4 yX4_copy yX4_copy, Cond.code yX4_copy cX4_copy 3 none]
def wsX4_pass : List Cond := .code yX4_pass cX4_pass 5 (some .int) :: ((wsX4_pass_r1 ++ wsX4_pass_r2) ++ wsX40)
def wsX4_done : List Cond := .code yX4_done cX4_done 3 (some .long) :: ([.constantLong RX4 114 (4), .fieldLink RX4 69 "TimerRowsModel" "done" "I", .fieldLink RX4 42 "TimerRowsModel" "doneKind" "[I", .fieldLink RX4 45 "TimerRowsModel" "doneNumber" "[I", .fieldLink RX4 48 "TimerRowsModel" "doneKey" "[J", .fieldLink RX4 51 "TimerRowsModel" "doneTime" "[J", .fieldLink RX4 54 "TimerRowsModel" "doneOften" "[I", .methodLink RX4 76 yX4_isIn, .static yX4_isIn, .initialized RX4, .code yX4_isIn cX4_isIn 6 (some .boolean), .methodLink RX4 90 yX4_isGood, .instanceMethod yX4_isGood, .selects RX4 yX4_isGood yX4_isGood, .code yX4_isGood cX4_isGood 2 (some .boolean), .fieldLink RX4 60 "TimerRowsModel" "code" "I"] ++ wsX40)
def wsX4_told : List Cond := .code yX4_told cX4_told 4 (some .long) :: ([.constantLong RX4 114 (4), .fieldLink RX4 17 "TimerRowsModel" "clock" "[I", .fieldLink RX4 23 "TimerRowsModel" "key" "[J", .fieldLink RX4 27 "TimerRowsModel" "time" "[J", .fieldLink RX4 30 "TimerRowsModel" "gap" "[J", .fieldLink RX4 33 "TimerRowsModel" "often" "[I", .methodLink RX4 98 yX4_find, .instanceMethod yX4_find, .selects RX4 yX4_find yX4_find, .initialized RX4, .code yX4_find cX4_find 3 (some .int), .fieldLink RX4 7 "TimerRowsModel" "waits" "[I", .fieldLink RX4 13 "TimerRowsModel" "isTimer" "[Z", .fieldLink RX4 20 "TimerRowsModel" "number" "[I", .methodLink RX4 76 yX4_isIn, .static yX4_isIn, .code yX4_isIn cX4_isIn 6 (some .boolean), .methodLink RX4 90 yX4_isGood, .instanceMethod yX4_isGood, .selects RX4 yX4_isGood yX4_isGood, .code yX4_isGood cX4_isGood 2 (some .boolean), .fieldLink RX4 60 "TimerRowsModel" "code" "I"] ++ wsX40)
def wsX4_next_r1 : List Cond := [Cond.constantLong RX4 116 (4000000000000), Cond.fieldLink RX4 20 "TimerRowsModel" "number" "[I", Cond.methodLink RX4 76 yX4_isIn, Cond.static yX4_isIn, Cond.initialized RX4, Cond.code yX4_isIn cX4_isIn 6 (some .boolean), Cond.methodLink RX4 90 yX4_isGood, Cond.instanceMethod yX4_isGood, Cond.selects RX4 yX4_isGood yX4_isGood, Cond.code yX4_isGood cX4_isGood 2 (some .boolean), Cond.fieldLink RX4 60 "TimerRowsModel" "code" "I", Cond.methodLink RX4 110 yX4_leastOf, Cond.instanceMethod yX4_leastOf, Cond.selects RX4 yX4_leastOf yX4_leastOf, Cond.code yX4_leastOf cX4_leastOf 8 (some .int), Cond.fieldLink RX4 7 "TimerRowsModel" "waits" "[I", Cond.fieldLink RX4 17 "TimerRowsModel" "clock" "[I", Cond.fieldLink RX4 27 "TimerRowsModel" "time" "[J", Cond.fieldLink RX4 13 "TimerRowsModel" "isTimer" "[Z", Cond.methodLink RX4 106 yX4_isAhead, Cond.instanceMethod yX4_isAhead, Cond.selects RX4 yX4_isAhead yX4_isAhead, Cond.code yX4_isAhead cX4_isAhead 3 (some .boolean), Cond.fieldLink RX4 39 "TimerRowsModel" "counts" "[I"]
def wsX4_next_r2 : List Cond := [Cond.fieldLink RX4 23 "TimerRowsModel" "key" "[J"]
def wsX4_next : List Cond := .code yX4_next cX4_next 3 (some .int) :: ((wsX4_next_r1 ++ wsX4_next_r2) ++ wsX40)
def wsX4_waiting : List Cond := .code yX4_waiting cX4_waiting 10 (some .int) :: ([.fieldLink RX4 7 "TimerRowsModel" "waits" "[I", .fieldLink RX4 13 "TimerRowsModel" "isTimer" "[Z", .fieldLink RX4 17 "TimerRowsModel" "clock" "[I", .fieldLink RX4 23 "TimerRowsModel" "key" "[J", .fieldLink RX4 27 "TimerRowsModel" "time" "[J", .methodLink RX4 76 yX4_isIn, .static yX4_isIn, .initialized RX4, .code yX4_isIn cX4_isIn 6 (some .boolean), .methodLink RX4 90 yX4_isGood, .instanceMethod yX4_isGood, .selects RX4 yX4_isGood yX4_isGood, .code yX4_isGood cX4_isGood 2 (some .boolean), .fieldLink RX4 60 "TimerRowsModel" "code" "I"] ++ wsX40)
def wsX4_lay : List Cond := .code yX4_lay cX4_lay 4 none :: ([.fieldLink RX4 7 "TimerRowsModel" "waits" "[I", .fieldLink RX4 36 "TimerRowsModel" "nows" "[J", .fieldLink RX4 39 "TimerRowsModel" "counts" "[I", .methodLink RX4 72 yX4_copy, .instanceMethod yX4_copy, .selects RX4 yX4_copy yX4_copy, .initialized RX4, .code yX4_copy cX4_copy 3 none, .fieldLink RX4 13 "TimerRowsModel" "isTimer" "[Z", .fieldLink RX4 17 "TimerRowsModel" "clock" "[I", .fieldLink RX4 20 "TimerRowsModel" "number" "[I", .fieldLink RX4 23 "TimerRowsModel" "key" "[J", .fieldLink RX4 27 "TimerRowsModel" "time" "[J", .fieldLink RX4 30 "TimerRowsModel" "gap" "[J", .fieldLink RX4 33 "TimerRowsModel" "often" "[I"] ++ wsX40)
def wsX4_keep_r1 : List Cond := [Cond.fieldLink RX4 66 "TimerRowsModel" "kept" "I", Cond.methodLink RX4 90 yX4_isGood, Cond.instanceMethod yX4_isGood, Cond.selects RX4 yX4_isGood yX4_isGood, Cond.initialized RX4, Cond.code yX4_isGood cX4_isGood 2 (some .boolean), Cond.fieldLink RX4 60 "TimerRowsModel" "code" "I", Cond.methodLink RX4 118 yX4_lay, Cond.instanceMethod yX4_lay, Cond.selects RX4 yX4_lay yX4_lay, Cond.code yX4_lay cX4_lay 4 none, Cond.fieldLink RX4 7 "TimerRowsModel" "waits" "[I", Cond.fieldLink RX4 36 "TimerRowsModel" "nows" "[J", Cond.fieldLink RX4 39 "TimerRowsModel" "counts" "[I", Cond.methodLink RX4 72 yX4_copy, Cond.instanceMethod yX4_copy, Cond.selects RX4 yX4_copy yX4_copy, Cond.code yX4_copy cX4_copy 3 none, Cond.fieldLink RX4 13 "TimerRowsModel" "isTimer" "[Z", Cond.fieldLink RX4 17 "TimerRowsModel" "clock" "[I", Cond.fieldLink RX4 20 "TimerRowsModel" "number" "[I", Cond.fieldLink RX4 23 "TimerRowsModel" "key" "[J", Cond.fieldLink RX4 27 "TimerRowsModel" "time" "[J", Cond.fieldLink RX4 30 "TimerRowsModel" "gap" "[J"]
def wsX4_keep_r2 : List Cond := [Cond.fieldLink RX4 33 "TimerRowsModel" "often" "[I"]
def wsX4_keep : List Cond := .code yX4_keep cX4_keep 1 (some .int) :: ((wsX4_keep_r1 ++ wsX4_keep_r2) ++ wsX40)
def wsX4_back_r1 : List Cond := [Cond.fieldLink RX4 66 "TimerRowsModel" "kept" "I", Cond.methodLink RX4 76 yX4_isIn, Cond.static yX4_isIn, Cond.initialized RX4, Cond.code yX4_isIn cX4_isIn 6 (some .boolean), Cond.methodLink RX4 90 yX4_isGood, Cond.instanceMethod yX4_isGood, Cond.selects RX4 yX4_isGood yX4_isGood, Cond.code yX4_isGood cX4_isGood 2 (some .boolean), Cond.fieldLink RX4 60 "TimerRowsModel" "code" "I", Cond.methodLink RX4 118 yX4_lay, Cond.instanceMethod yX4_lay, Cond.selects RX4 yX4_lay yX4_lay, Cond.code yX4_lay cX4_lay 4 none, Cond.fieldLink RX4 7 "TimerRowsModel" "waits" "[I", Cond.fieldLink RX4 36 "TimerRowsModel" "nows" "[J", Cond.fieldLink RX4 39 "TimerRowsModel" "counts" "[I", Cond.methodLink RX4 72 yX4_copy, Cond.instanceMethod yX4_copy, Cond.selects RX4 yX4_copy yX4_copy, Cond.code yX4_copy cX4_copy 3 none, Cond.fieldLink RX4 13 "TimerRowsModel" "isTimer" "[Z", Cond.fieldLink RX4 17 "TimerRowsModel" "clock" "[I", Cond.fieldLink RX4 20 "TimerRowsModel" "number" "[I"]
def wsX4_back_r2 : List Cond := [Cond.fieldLink RX4 23 "TimerRowsModel" "key" "[J", Cond.fieldLink RX4 27 "TimerRowsModel" "time" "[J", Cond.fieldLink RX4 30 "TimerRowsModel" "gap" "[J", Cond.fieldLink RX4 33 "TimerRowsModel" "often" "[I", Cond.methodLink RX4 86 yX4_many, Cond.instanceMethod yX4_many, Cond.selects RX4 yX4_many yX4_many, Cond.code yX4_many cX4_many 4 (some .int)]
def wsX4_back : List Cond := .code yX4_back cX4_back 2 (some .int) :: ((wsX4_back_r1 ++ wsX4_back_r2) ++ wsX40)
def wsX4_forget : List Cond := .code yX4_forget cX4_forget 1 (some .int) :: ([.fieldLink RX4 66 "TimerRowsModel" "kept" "I", .methodLink RX4 90 yX4_isGood, .instanceMethod yX4_isGood, .selects RX4 yX4_isGood yX4_isGood, .initialized RX4, .code yX4_isGood cX4_isGood 2 (some .boolean), .fieldLink RX4 60 "TimerRowsModel" "code" "I"] ++ wsX40)
def wsX4_taskOf : List Cond := .code yX4_taskOf cX4_taskOf 4 (some .int) :: ([.constantLong RX4 121 (128)])
def wsX4_task : List Cond := .code yX4_task cX4_task 4 (some .int) :: ([.constantLong RX4 121 (128), .methodLink RX4 76 yX4_isIn, .static yX4_isIn, .initialized RX4, .code yX4_isIn cX4_isIn 6 (some .boolean), .methodLink RX4 90 yX4_isGood, .instanceMethod yX4_isGood, .selects RX4 yX4_isGood yX4_isGood, .code yX4_isGood cX4_isGood 2 (some .boolean), .fieldLink RX4 60 "TimerRowsModel" "code" "I", .methodLink RX4 123 yX4_taskOf, .static yX4_taskOf, .code yX4_taskOf cX4_taskOf 4 (some .int)] ++ wsX40)
def wsX4_load : List Cond := .code yX4_load cX4_load 5 (some .int) :: ([.constantLong RX4 121 (128), .fieldLink RX4 7 "TimerRowsModel" "waits" "[I", .fieldLink RX4 23 "TimerRowsModel" "key" "[J", .methodLink RX4 76 yX4_isIn, .static yX4_isIn, .initialized RX4, .code yX4_isIn cX4_isIn 6 (some .boolean), .methodLink RX4 90 yX4_isGood, .instanceMethod yX4_isGood, .selects RX4 yX4_isGood yX4_isGood, .code yX4_isGood cX4_isGood 2 (some .boolean), .fieldLink RX4 60 "TimerRowsModel" "code" "I", .methodLink RX4 123 yX4_taskOf, .static yX4_taskOf, .code yX4_taskOf cX4_taskOf 4 (some .int)] ++ wsX40)
def wsX4_of : List Cond := .code yX4_of cX4_of 2 (some .int) :: ([.constantLong RX4 127 (6), .fieldLink RX4 39 "TimerRowsModel" "counts" "[I", .fieldLink RX4 66 "TimerRowsModel" "kept" "I", .fieldLink RX4 69 "TimerRowsModel" "done" "I", .methodLink RX4 76 yX4_isIn, .static yX4_isIn, .initialized RX4, .code yX4_isIn cX4_isIn 6 (some .boolean), .methodLink RX4 90 yX4_isGood, .instanceMethod yX4_isGood, .selects RX4 yX4_isGood yX4_isGood, .code yX4_isGood cX4_isGood 2 (some .boolean), .fieldLink RX4 60 "TimerRowsModel" "code" "I", .methodLink RX4 86 yX4_many, .instanceMethod yX4_many, .selects RX4 yX4_many yX4_many, .code yX4_many cX4_many 4 (some .int), .fieldLink RX4 7 "TimerRowsModel" "waits" "[I", .fieldLink RX4 13 "TimerRowsModel" "isTimer" "[Z"] ++ wsX40)
def wsX4_now : List Cond := .code yX4_now cX4_now 2 (some .long) :: ([.fieldLink RX4 36 "TimerRowsModel" "nows" "[J", .methodLink RX4 76 yX4_isIn, .static yX4_isIn, .initialized RX4, .code yX4_isIn cX4_isIn 6 (some .boolean), .methodLink RX4 90 yX4_isGood, .instanceMethod yX4_isGood, .selects RX4 yX4_isGood yX4_isGood, .code yX4_isGood cX4_isGood 2 (some .boolean), .fieldLink RX4 60 "TimerRowsModel" "code" "I"] ++ wsX40)
def wsJ9_min_7cf53 : List Cond := .code yJ9_min_7cf53 cJ9_min_7cf53 2 (some .int) :: ([])
def wsL_set_r1 : List Cond := [Cond.classLink RL 13 "java/lang/IllegalArgumentException", Cond.classLink RL 15 "java/lang/IllegalStateException", Cond.methodLink RL 7 yX3_set, Cond.instanceMethod yX3_set, Cond.selects RX3 yX3_set yX3_set, Cond.initialized RX3, Cond.code yX3_set cX3_set 10 (some .int), Cond.classLink RX3 57 "java/lang/IllegalArgumentException", Cond.initialized "java/lang/IllegalArgumentException", Cond.classLink RX3 70 "java/lang/IllegalStateException", Cond.initialized "java/lang/IllegalStateException", Cond.constantLong RX3 55 (1000000000), Cond.fieldLink RX3 12 "TimerRows" "live" "LTimerRows$State;", Cond.fieldLink RX3 31 "TimerRows$State" "timers" "LTimerRows$Line;", Cond.methodLink RX3 47 yX3_needClock, Cond.static yX3_needClock, Cond.code yX3_needClock cX3_needClock 1 none, Cond.methodLink RX3 51 yX3_needTime, Cond.static yX3_needTime, Cond.code yX3_needTime cX3_needTime 2 none, Cond.constantLong RX3 215 (1000000000000), Cond.methodLink RX3 66 yX0_isFull, Cond.instanceMethod yX0_isFull, Cond.selects RX0 yX0_isFull yX0_isFull]
def wsL_set_r2 : List Cond := [Cond.initialized RX0, Cond.code yX0_isFull cX0_isFull 1 (some .boolean), Cond.fieldLink RX0 34 "TimerRows$Line" "size" "I", Cond.methodLink RX3 75 yX2_takeTimerNumber, Cond.instanceMethod yX2_takeTimerNumber, Cond.selects RX2 yX2_takeTimerNumber yX2_takeTimerNumber, Cond.initialized RX2, Cond.code yX2_takeTimerNumber cX2_takeTimerNumber 2 (some .int), Cond.fieldLink RX2 40 "TimerRows$State" "timersSet" "I", Cond.methodLink RX3 79 yX0_enter, Cond.instanceMethod yX0_enter, Cond.selects RX0 yX0_enter yX0_enter, Cond.code yX0_enter cX0_enter 11 none, Cond.fieldLink RX0 9 "TimerRows$Line" "order" "[I", Cond.fieldLink RX0 15 "TimerRows$Line" "number" "[I", Cond.fieldLink RX0 18 "TimerRows$Line" "clock" "[I", Cond.fieldLink RX0 21 "TimerRows$Line" "key" "[J", Cond.fieldLink RX0 25 "TimerRows$Line" "time" "[J", Cond.fieldLink RX0 28 "TimerRows$Line" "gap" "[J", Cond.fieldLink RX0 31 "TimerRows$Line" "often" "[I", Cond.methodLink RX0 38 yX0_sortInFirstFree, Cond.instanceMethod yX0_sortInFirstFree, Cond.selects RX0 yX0_sortInFirstFree yX0_sortInFirstFree, Cond.code yX0_sortInFirstFree cX0_sortInFirstFree 3 none]
def wsL_set_r3 : List Cond := [Cond.methodLink RX0 41 arraycopyName, Cond.native arraycopyName, Cond.static arraycopyName, Cond.initialized "java/lang/System", Cond.methodLink RX0 51 yX0_countAheadOf, Cond.instanceMethod yX0_countAheadOf, Cond.selects RX0 yX0_countAheadOf yX0_countAheadOf, Cond.code yX0_countAheadOf cX0_countAheadOf 5 (some .int), Cond.methodLink RX0 55 yX0_goesAhead, Cond.instanceMethod yX0_goesAhead, Cond.selects RX0 yX0_goesAhead yX0_goesAhead, Cond.code yX0_goesAhead cX0_goesAhead 3 (some .boolean)]
def wsL_set : List Cond := .codeWith yL_set cL_set 11 (some .int) [(0, 17, 20, 13), (0, 17, 24, 15)] :: ((wsL_set_r1 ++ (wsL_set_r2 ++ wsL_set_r3)) ++ wsX30 ++ wsX20 ++ wsX00 ++ (vx_atS RX3 61 "java/lang/IllegalArgumentException" ["java/lang/RuntimeException", "java/lang/Exception"]).filter goodWord ++ (vx_atS RX3 74 "java/lang/IllegalStateException" ["java/lang/RuntimeException", "java/lang/Exception"]).filter goodWord)
def wsL_move_r1 : List Cond := [Cond.classLink RL 13 "java/lang/IllegalArgumentException", Cond.classLink RL 21 "java/util/NoSuchElementException", Cond.methodLink RL 17 yX3_move, Cond.instanceMethod yX3_move, Cond.selects RX3 yX3_move yX3_move, Cond.initialized RX3, Cond.code yX3_move cX3_move 7 (some .long), Cond.fieldLink RX3 12 "TimerRows" "live" "LTimerRows$State;", Cond.fieldLink RX3 31 "TimerRows$State" "timers" "LTimerRows$Line;", Cond.methodLink RX3 51 yX3_needTime, Cond.static yX3_needTime, Cond.code yX3_needTime cX3_needTime 2 none, Cond.classLink RX3 57 "java/lang/IllegalArgumentException", Cond.initialized "java/lang/IllegalArgumentException", Cond.constantLong RX3 215 (1000000000000), Cond.methodLink RX3 83 yX3_needTimer, Cond.instanceMethod yX3_needTimer, Cond.selects RX3 yX3_needTimer yX3_needTimer, Cond.code yX3_needTimer cX3_needTimer 3 (some .int), Cond.classLink RX3 127 "java/util/NoSuchElementException", Cond.initialized "java/util/NoSuchElementException", Cond.methodLink RX3 95 yX0_placeOf, Cond.instanceMethod yX0_placeOf, Cond.selects RX0 yX0_placeOf yX0_placeOf]
def wsL_move_r2 : List Cond := [Cond.initialized RX0, Cond.code yX0_placeOf cX0_placeOf 3 (some .int), Cond.fieldLink RX0 34 "TimerRows$Line" "size" "I", Cond.fieldLink RX0 15 "TimerRows$Line" "number" "[I", Cond.fieldLink RX0 9 "TimerRows$Line" "order" "[I", Cond.methodLink RX3 87 yX0_timeAt, Cond.instanceMethod yX0_timeAt, Cond.selects RX0 yX0_timeAt yX0_timeAt, Cond.code yX0_timeAt cX0_timeAt 2 (some .long), Cond.fieldLink RX0 25 "TimerRows$Line" "time" "[J", Cond.methodLink RX3 91 yX0_retime, Cond.instanceMethod yX0_retime, Cond.selects RX0 yX0_retime yX0_retime, Cond.code yX0_retime cX0_retime 4 none, Cond.methodLink RX0 47 yX0_leave, Cond.instanceMethod yX0_leave, Cond.selects RX0 yX0_leave yX0_leave, Cond.code yX0_leave cX0_leave 3 none, Cond.methodLink RX0 41 arraycopyName, Cond.native arraycopyName, Cond.static arraycopyName, Cond.initialized "java/lang/System", Cond.methodLink RX0 38 yX0_sortInFirstFree, Cond.instanceMethod yX0_sortInFirstFree]
def wsL_move_r3 : List Cond := [Cond.selects RX0 yX0_sortInFirstFree yX0_sortInFirstFree, Cond.code yX0_sortInFirstFree cX0_sortInFirstFree 3 none, Cond.methodLink RX0 51 yX0_countAheadOf, Cond.instanceMethod yX0_countAheadOf, Cond.selects RX0 yX0_countAheadOf yX0_countAheadOf, Cond.code yX0_countAheadOf cX0_countAheadOf 5 (some .int), Cond.methodLink RX0 55 yX0_goesAhead, Cond.instanceMethod yX0_goesAhead, Cond.selects RX0 yX0_goesAhead yX0_goesAhead, Cond.code yX0_goesAhead cX0_goesAhead 3 (some .boolean), Cond.fieldLink RX0 21 "TimerRows$Line" "key" "[J"]
def wsL_move : List Cond := .codeWith yL_move cL_move 6 (some .int) [(0, 10, 13, 13), (0, 10, 17, 21)] :: ((wsL_move_r1 ++ (wsL_move_r2 ++ wsL_move_r3)) ++ wsX30 ++ wsX20 ++ wsX00 ++ (vx_atS RX3 61 "java/lang/IllegalArgumentException" ["java/lang/RuntimeException", "java/lang/Exception"]).filter goodWord ++ (wy_at RX3 131 "java/util/NoSuchElementException" 13 prog_18_method_4_code ["java/lang/RuntimeException", "java/lang/Exception"]).filter goodWord)
def wsL_row_r1 : List Cond := [Cond.classLink RL 13 "java/lang/IllegalArgumentException", Cond.classLink RL 15 "java/lang/IllegalStateException", Cond.methodLink RL 23 yX3_row, Cond.instanceMethod yX3_row, Cond.selects RX3 yX3_row yX3_row, Cond.initialized RX3, Cond.code yX3_row cX3_row 6 (some .int), Cond.classLink RX3 70 "java/lang/IllegalStateException", Cond.initialized "java/lang/IllegalStateException", Cond.fieldLink RX3 12 "TimerRows" "live" "LTimerRows$State;", Cond.fieldLink RX3 101 "TimerRows$State" "nows" "[J", Cond.fieldLink RX3 105 "TimerRows$State" "late" "I", Cond.fieldLink RX3 40 "TimerRows$State" "rows" "LTimerRows$Line;", Cond.fieldLink RX3 110 "TimerRows$State" "rowsCame" "I", Cond.methodLink RX3 51 yX3_needTime, Cond.static yX3_needTime, Cond.code yX3_needTime cX3_needTime 2 none, Cond.classLink RX3 57 "java/lang/IllegalArgumentException", Cond.initialized "java/lang/IllegalArgumentException", Cond.constantLong RX3 215 (1000000000000), Cond.methodLink RX3 66 yX0_isFull, Cond.instanceMethod yX0_isFull, Cond.selects RX0 yX0_isFull yX0_isFull, Cond.initialized RX0]
def wsL_row_r2 : List Cond := [Cond.code yX0_isFull cX0_isFull 1 (some .boolean), Cond.fieldLink RX0 34 "TimerRows$Line" "size" "I", Cond.methodLink RX3 79 yX0_enter, Cond.instanceMethod yX0_enter, Cond.selects RX0 yX0_enter yX0_enter, Cond.code yX0_enter cX0_enter 11 none, Cond.fieldLink RX0 9 "TimerRows$Line" "order" "[I", Cond.fieldLink RX0 15 "TimerRows$Line" "number" "[I", Cond.fieldLink RX0 18 "TimerRows$Line" "clock" "[I", Cond.fieldLink RX0 21 "TimerRows$Line" "key" "[J", Cond.fieldLink RX0 25 "TimerRows$Line" "time" "[J", Cond.fieldLink RX0 28 "TimerRows$Line" "gap" "[J", Cond.fieldLink RX0 31 "TimerRows$Line" "often" "[I", Cond.methodLink RX0 38 yX0_sortInFirstFree, Cond.instanceMethod yX0_sortInFirstFree, Cond.selects RX0 yX0_sortInFirstFree yX0_sortInFirstFree, Cond.code yX0_sortInFirstFree cX0_sortInFirstFree 3 none, Cond.methodLink RX0 41 arraycopyName, Cond.native arraycopyName, Cond.static arraycopyName, Cond.initialized "java/lang/System", Cond.methodLink RX0 51 yX0_countAheadOf, Cond.instanceMethod yX0_countAheadOf, Cond.selects RX0 yX0_countAheadOf yX0_countAheadOf]
def wsL_row_r3 : List Cond := [Cond.code yX0_countAheadOf cX0_countAheadOf 5 (some .int), Cond.methodLink RX0 55 yX0_goesAhead, Cond.instanceMethod yX0_goesAhead, Cond.selects RX0 yX0_goesAhead yX0_goesAhead, Cond.code yX0_goesAhead cX0_goesAhead 3 (some .boolean)]
def wsL_row : List Cond := .codeWith yL_row cL_row 7 (some .int) [(0, 11, 14, 13), (0, 11, 18, 15)] :: ((wsL_row_r1 ++ (wsL_row_r2 ++ wsL_row_r3)) ++ wsX30 ++ wsX20 ++ wsX00 ++ (vx_atS RX3 74 "java/lang/IllegalStateException" ["java/lang/RuntimeException", "java/lang/Exception"]).filter goodWord ++ (vx_atS RX3 61 "java/lang/IllegalArgumentException" ["java/lang/RuntimeException", "java/lang/Exception"]).filter goodWord)
def wsL_pass_r1 : List Cond := [Cond.classLink RL 13 "java/lang/IllegalArgumentException", Cond.methodLink RL 27 yX3_pass, Cond.instanceMethod yX3_pass, Cond.selects RX3 yX3_pass yX3_pass, Cond.initialized RX3, Cond.code yX3_pass cX3_pass 5 (some .int), Cond.classLink RX3 57 "java/lang/IllegalArgumentException", Cond.initialized "java/lang/IllegalArgumentException", Cond.fieldLink RX3 12 "TimerRows" "live" "LTimerRows$State;", Cond.fieldLink RX3 101 "TimerRows$State" "nows" "[J", Cond.fieldLink RX3 23 "TimerRows" "log" "LTimerRows$Log;", Cond.fieldLink RX3 46 "TimerRows$Log" "size" "I", Cond.methodLink RX3 47 yX3_needClock, Cond.static yX3_needClock, Cond.code yX3_needClock cX3_needClock 1 none, Cond.methodLink RX3 51 yX3_needTime, Cond.static yX3_needTime, Cond.code yX3_needTime cX3_needTime 2 none, Cond.constantLong RX3 215 (1000000000000), Cond.methodLink RX3 119 yX3_doFirstDue, Cond.instanceMethod yX3_doFirstDue, Cond.selects RX3 yX3_doFirstDue yX3_doFirstDue, Cond.code yX3_doFirstDue cX3_doFirstDue 6 (some .boolean), Cond.fieldLink RX3 31 "TimerRows$State" "timers" "LTimerRows$Line;"]
def wsL_pass_r2 : List Cond := [Cond.fieldLink RX3 40 "TimerRows$State" "rows" "LTimerRows$Line;", Cond.methodLink RX3 196 yX0_dueOf, Cond.instanceMethod yX0_dueOf, Cond.selects RX0 yX0_dueOf yX0_dueOf, Cond.initialized RX0, Cond.code yX0_dueOf cX0_dueOf 5 (some .int), Cond.methodLink RX0 59 yX0_headOf, Cond.instanceMethod yX0_headOf, Cond.selects RX0 yX0_headOf yX0_headOf, Cond.code yX0_headOf cX0_headOf 3 (some .int), Cond.fieldLink RX0 34 "TimerRows$Line" "size" "I", Cond.fieldLink RX0 18 "TimerRows$Line" "clock" "[I", Cond.fieldLink RX0 9 "TimerRows$Line" "order" "[I", Cond.methodLink RX0 62 yX0_timeAt, Cond.instanceMethod yX0_timeAt, Cond.selects RX0 yX0_timeAt yX0_timeAt, Cond.code yX0_timeAt cX0_timeAt 2 (some .long), Cond.fieldLink RX0 25 "TimerRows$Line" "time" "[J", Cond.methodLink RX3 200 yX2_rowGoesAhead, Cond.instanceMethod yX2_rowGoesAhead, Cond.selects RX2 yX2_rowGoesAhead yX2_rowGoesAhead, Cond.initialized RX2, Cond.code yX2_rowGoesAhead cX2_rowGoesAhead 7 (some .boolean), Cond.fieldLink RX2 18 "TimerRows$State" "rows" "LTimerRows$Line;"]
def wsL_pass_r3 : List Cond := [Cond.fieldLink RX2 12 "TimerRows$State" "timers" "LTimerRows$Line;", Cond.fieldLink RX2 49 "TimerRows$State" "rowsFirst" "Z", Cond.methodLink RX2 63 yX0_timeAt, Cond.methodLink RX3 204 yX1_add, Cond.instanceMethod yX1_add, Cond.selects RX1 yX1_add yX1_add, Cond.initialized RX1, Cond.code yX1_add cX1_add 5 none, Cond.fieldLink RX1 28 "TimerRows$Log" "size" "I", Cond.fieldLink RX1 9 "TimerRows$Log" "kind" "[I", Cond.fieldLink RX1 35 "TimerRows$Line" "order" "[I", Cond.fieldLink RX1 15 "TimerRows$Log" "number" "[I", Cond.fieldLink RX1 40 "TimerRows$Line" "number" "[I", Cond.fieldLink RX1 18 "TimerRows$Log" "key" "[J", Cond.fieldLink RX1 41 "TimerRows$Line" "key" "[J", Cond.fieldLink RX1 22 "TimerRows$Log" "time" "[J", Cond.fieldLink RX1 42 "TimerRows$Line" "time" "[J", Cond.fieldLink RX1 25 "TimerRows$Log" "often" "[I", Cond.fieldLink RX1 43 "TimerRows$Line" "often" "[I", Cond.methodLink RX1 32 yX1_grow, Cond.instanceMethod yX1_grow, Cond.selects RX1 yX1_grow yX1_grow, Cond.code yX1_grow cX1_grow 2 none, Cond.methodLink RX1 44 yJ7_copyOf_59c91]
def wsL_pass_r4 : List Cond := [Cond.static yJ7_copyOf_59c91, Cond.initialized RJ7, Cond.code yJ7_copyOf_59c91 cJ7_copyOf_59c91 3 (some (.array .int)), Cond.methodLink RJ7 316 ⟨"[I", "clone", "()Ljava/lang/Object;"⟩, Cond.sameMethod "[I" "java/lang/Object" "clone" "()Ljava/lang/Object;", Cond.native ⟨"java/lang/Object", "clone", "()Ljava/lang/Object;"⟩, Cond.instanceMethod ⟨"java/lang/Object", "clone", "()Ljava/lang/Object;"⟩, Cond.selects "[I" ⟨"[I", "clone", "()Ljava/lang/Object;"⟩ ⟨"java/lang/Object", "clone", "()Ljava/lang/Object;"⟩, Cond.classLink RJ7 317 "[I", Cond.arrayClass .int, Cond.methodLink RJ7 304 Lib.Math.min.name, Cond.static Lib.Math.min.name, Cond.initialized "java/lang/Math", Cond.code Lib.Math.min.name Lib.Math.min.code 2 (some .int), Cond.methodLink RJ7 150 arraycopyName, Cond.native arraycopyName, Cond.static arraycopyName, Cond.initialized "java/lang/System", Cond.methodLink RX1 50 yJ7_copyOf_c38d5, Cond.static yJ7_copyOf_c38d5, Cond.code yJ7_copyOf_c38d5 cJ7_copyOf_c38d5 3 (some (.array .long)), Cond.methodLink RJ7 319 ⟨"[J", "clone", "()Ljava/lang/Object;"⟩, Cond.sameMethod "[J" "java/lang/Object" "clone" "()Ljava/lang/Object;", Cond.selects "[J" ⟨"[J", "clone", "()Ljava/lang/Object;"⟩ ⟨"java/lang/Object", "clone", "()Ljava/lang/Object;"⟩]
def wsL_pass_r5 : List Cond := [Cond.classLink RJ7 320 "[J", Cond.arrayClass .long, Cond.methodLink RX3 98 yX0_leave, Cond.instanceMethod yX0_leave, Cond.selects RX0 yX0_leave yX0_leave, Cond.code yX0_leave cX0_leave 3 none, Cond.methodLink RX0 41 arraycopyName, Cond.methodLink RX3 208 yX2_finishTimer, Cond.instanceMethod yX2_finishTimer, Cond.selects RX2 yX2_finishTimer yX2_finishTimer, Cond.code yX2_finishTimer cX2_finishTimer 2 none, Cond.fieldLink RX2 67 "TimerRows$Line" "often" "[I", Cond.fieldLink RX2 71 "TimerRows$Line" "order" "[I", Cond.methodLink RX2 74 yX2_takeTimerNumber, Cond.instanceMethod yX2_takeTimerNumber, Cond.selects RX2 yX2_takeTimerNumber yX2_takeTimerNumber, Cond.code yX2_takeTimerNumber cX2_takeTimerNumber 2 (some .int), Cond.fieldLink RX2 40 "TimerRows$State" "timersSet" "I", Cond.methodLink RX2 78 yX0_setAgain, Cond.instanceMethod yX0_setAgain, Cond.selects RX0 yX0_setAgain yX0_setAgain, Cond.code yX0_setAgain cX0_setAgain 4 none, Cond.fieldLink RX0 15 "TimerRows$Line" "number" "[I", Cond.fieldLink RX0 28 "TimerRows$Line" "gap" "[J"]
def wsL_pass_r6 : List Cond := [Cond.fieldLink RX0 31 "TimerRows$Line" "often" "[I", Cond.methodLink RX0 47 yX0_leave, Cond.methodLink RX0 38 yX0_sortInFirstFree, Cond.instanceMethod yX0_sortInFirstFree, Cond.selects RX0 yX0_sortInFirstFree yX0_sortInFirstFree, Cond.code yX0_sortInFirstFree cX0_sortInFirstFree 3 none, Cond.methodLink RX0 51 yX0_countAheadOf, Cond.instanceMethod yX0_countAheadOf, Cond.selects RX0 yX0_countAheadOf yX0_countAheadOf, Cond.code yX0_countAheadOf cX0_countAheadOf 5 (some .int), Cond.methodLink RX0 55 yX0_goesAhead, Cond.instanceMethod yX0_goesAhead, Cond.selects RX0 yX0_goesAhead yX0_goesAhead, Cond.code yX0_goesAhead cX0_goesAhead 3 (some .boolean), Cond.fieldLink RX0 21 "TimerRows$Line" "key" "[J", Cond.methodLink RX2 82 yX0_leave]
def wsL_pass : List Cond := .codeWith yL_pass cL_pass 6 (some .int) [(0, 11, 14, 13)] :: ((wsL_pass_r1 ++ (wsL_pass_r2 ++ (wsL_pass_r3 ++ (wsL_pass_r4 ++ (wsL_pass_r5 ++ wsL_pass_r6))))) ++ wsX30 ++ wsX20 ++ wsX10 ++ wsX00 ++ (vx_atS RX3 61 "java/lang/IllegalArgumentException" ["java/lang/RuntimeException", "java/lang/Exception"]).filter goodWord)
def wsL_done : List Cond := .codeWith yL_done cL_done 5 (some .int) [(0, 9, 12, 13), (0, 9, 16, 21)] :: ([.classLink RL 13 "java/lang/IllegalArgumentException", .classLink RL 21 "java/util/NoSuchElementException", .methodLink RL 31 yX3_done, .instanceMethod yX3_done, .selects RX3 yX3_done yX3_done, .initialized RX3, .code yX3_done cX3_done 3 (some .long), .classLink RX3 127 "java/util/NoSuchElementException", .initialized "java/util/NoSuchElementException", .fieldLink RX3 23 "TimerRows" "log" "LTimerRows$Log;", .fieldLink RX3 46 "TimerRows$Log" "size" "I", .fieldLink RX3 132 "TimerRows$Log" "kind" "[I", .fieldLink RX3 136 "TimerRows$Log" "number" "[I", .fieldLink RX3 139 "TimerRows$Log" "key" "[J", .fieldLink RX3 142 "TimerRows$Log" "time" "[J", .fieldLink RX3 145 "TimerRows$Log" "often" "[I", .methodLink RX3 123 yX3_needWhat, .static yX3_needWhat, .code yX3_needWhat cX3_needWhat 2 none, .classLink RX3 57 "java/lang/IllegalArgumentException", .initialized "java/lang/IllegalArgumentException"] ++ wsX30 ++ wsX10 ++ (wy_at RX3 131 "java/util/NoSuchElementException" 13 prog_18_method_4_code ["java/lang/RuntimeException", "java/lang/Exception"]).filter goodWord ++ (vx_atS RX3 61 "java/lang/IllegalArgumentException" ["java/lang/RuntimeException", "java/lang/Exception"]).filter goodWord)
def wsL_told_r1 : List Cond := [Cond.classLink RL 13 "java/lang/IllegalArgumentException", Cond.classLink RL 21 "java/util/NoSuchElementException", Cond.methodLink RL 35 yX3_told, Cond.instanceMethod yX3_told, Cond.selects RX3 yX3_told yX3_told, Cond.initialized RX3, Cond.code yX3_told cX3_told 4 (some .long), Cond.fieldLink RX3 12 "TimerRows" "live" "LTimerRows$State;", Cond.fieldLink RX3 31 "TimerRows$State" "timers" "LTimerRows$Line;", Cond.fieldLink RX3 148 "TimerRows$Line" "order" "[I", Cond.fieldLink RX3 151 "TimerRows$Line" "clock" "[I", Cond.fieldLink RX3 154 "TimerRows$Line" "key" "[J", Cond.fieldLink RX3 155 "TimerRows$Line" "time" "[J", Cond.fieldLink RX3 156 "TimerRows$Line" "gap" "[J", Cond.fieldLink RX3 159 "TimerRows$Line" "often" "[I", Cond.methodLink RX3 123 yX3_needWhat, Cond.static yX3_needWhat, Cond.code yX3_needWhat cX3_needWhat 2 none, Cond.classLink RX3 57 "java/lang/IllegalArgumentException", Cond.initialized "java/lang/IllegalArgumentException", Cond.methodLink RX3 83 yX3_needTimer, Cond.instanceMethod yX3_needTimer, Cond.selects RX3 yX3_needTimer yX3_needTimer, Cond.code yX3_needTimer cX3_needTimer 3 (some .int)]
def wsL_told_r2 : List Cond := [Cond.classLink RX3 127 "java/util/NoSuchElementException", Cond.initialized "java/util/NoSuchElementException", Cond.methodLink RX3 95 yX0_placeOf, Cond.instanceMethod yX0_placeOf, Cond.selects RX0 yX0_placeOf yX0_placeOf, Cond.initialized RX0, Cond.code yX0_placeOf cX0_placeOf 3 (some .int), Cond.fieldLink RX0 34 "TimerRows$Line" "size" "I", Cond.fieldLink RX0 15 "TimerRows$Line" "number" "[I", Cond.fieldLink RX0 9 "TimerRows$Line" "order" "[I"]
def wsL_told : List Cond := .codeWith yL_told cL_told 5 (some .int) [(0, 9, 12, 13), (0, 9, 16, 21)] :: ((wsL_told_r1 ++ wsL_told_r2) ++ wsX30 ++ wsX20 ++ wsX00 ++ (vx_atS RX3 61 "java/lang/IllegalArgumentException" ["java/lang/RuntimeException", "java/lang/Exception"]).filter goodWord ++ (wy_at RX3 131 "java/util/NoSuchElementException" 13 prog_18_method_4_code ["java/lang/RuntimeException", "java/lang/Exception"]).filter goodWord)
def wsL_next : List Cond := .codeWith yL_next cL_next 4 (some .int) [(0, 9, 12, 13)] :: ([.classLink RL 13 "java/lang/IllegalArgumentException", .methodLink RL 38 yX3_next, .instanceMethod yX3_next, .selects RX3 yX3_next yX3_next, .initialized RX3, .code yX3_next cX3_next 3 (some .int), .fieldLink RX3 12 "TimerRows" "live" "LTimerRows$State;", .fieldLink RX3 31 "TimerRows$State" "timers" "LTimerRows$Line;", .fieldLink RX3 163 "TimerRows$Line" "number" "[I", .fieldLink RX3 148 "TimerRows$Line" "order" "[I", .methodLink RX3 47 yX3_needClock, .static yX3_needClock, .code yX3_needClock cX3_needClock 1 none, .classLink RX3 57 "java/lang/IllegalArgumentException", .initialized "java/lang/IllegalArgumentException", .methodLink RX3 160 yX0_headOf, .instanceMethod yX0_headOf, .selects RX0 yX0_headOf yX0_headOf, .initialized RX0, .code yX0_headOf cX0_headOf 3 (some .int), .fieldLink RX0 34 "TimerRows$Line" "size" "I", .fieldLink RX0 18 "TimerRows$Line" "clock" "[I", .fieldLink RX0 9 "TimerRows$Line" "order" "[I"] ++ wsX30 ++ wsX20 ++ wsX00 ++ (vx_atS RX3 61 "java/lang/IllegalArgumentException" ["java/lang/RuntimeException", "java/lang/Exception"]).filter goodWord)
def wsL_waiting : List Cond := .codeWith yL_waiting cL_waiting 10 (some .int) [(0, 15, 18, 13)] :: ([.classLink RL 13 "java/lang/IllegalArgumentException", .methodLink RL 42 yX3_waiting, .instanceMethod yX3_waiting, .selects RX3 yX3_waiting yX3_waiting, .initialized RX3, .code yX3_waiting cX3_waiting 8 (some .int), .classLink RX3 57 "java/lang/IllegalArgumentException", .initialized "java/lang/IllegalArgumentException", .fieldLink RX3 12 "TimerRows" "live" "LTimerRows$State;", .fieldLink RX3 31 "TimerRows$State" "timers" "LTimerRows$Line;", .methodLink RX3 47 yX3_needClock, .static yX3_needClock, .code yX3_needClock cX3_needClock 1 none, .methodLink RX3 166 yX0_countBetween, .instanceMethod yX0_countBetween, .selects RX0 yX0_countBetween yX0_countBetween, .initialized RX0, .code yX0_countBetween cX0_countBetween 12 (some .int), .fieldLink RX0 34 "TimerRows$Line" "size" "I", .fieldLink RX0 9 "TimerRows$Line" "order" "[I", .fieldLink RX0 25 "TimerRows$Line" "time" "[J", .fieldLink RX0 18 "TimerRows$Line" "clock" "[I", .fieldLink RX0 21 "TimerRows$Line" "key" "[J"] ++ wsX30 ++ wsX20 ++ wsX00 ++ (vx_atS RX3 61 "java/lang/IllegalArgumentException" ["java/lang/RuntimeException", "java/lang/Exception"]).filter goodWord)
def wsL_keep_r1 : List Cond := [Cond.classLink RL 15 "java/lang/IllegalStateException", Cond.methodLink RL 46 yX3_keep, Cond.instanceMethod yX3_keep, Cond.selects RX3 yX3_keep yX3_keep, Cond.initialized RX3, Cond.code yX3_keep cX3_keep 3 (some .int), Cond.classLink RX3 70 "java/lang/IllegalStateException", Cond.initialized "java/lang/IllegalStateException", Cond.fieldLink RX3 27 "TimerRows" "keptCount" "I", Cond.fieldLink RX3 16 "TimerRows" "kept" "[LTimerRows$State;", Cond.classLink RX3 9 RX2, Cond.instantiable RX2 7, Cond.initialized RX2, Cond.fieldLink RX3 12 "TimerRows" "live" "LTimerRows$State;", Cond.methodLink RX3 11 yX2_init, Cond.instanceMethod yX2_init, Cond.code yX2_init cX2_init 1 none, Cond.methodLink RX2 3 objectInit, Cond.instanceMethod objectInit, Cond.code objectInit ⟨#[0xb1]⟩ 1 none, Cond.classLink RX2 9 RX0, Cond.instantiable RX0 8, Cond.initialized RX0, Cond.fieldLink RX2 12 "TimerRows$State" "timers" "LTimerRows$Line;"]
def wsL_keep_r2 : List Cond := [Cond.fieldLink RX2 18 "TimerRows$State" "rows" "LTimerRows$Line;", Cond.arrayClass .long, Cond.fieldLink RX2 21 "TimerRows$State" "nows" "[J", Cond.methodLink RX2 11 yX0_init, Cond.instanceMethod yX0_init, Cond.code yX0_init cX0_init 2 none, Cond.methodLink RX0 3 objectInit, Cond.arrayClass .int, Cond.fieldLink RX0 9 "TimerRows$Line" "order" "[I", Cond.fieldLink RX0 15 "TimerRows$Line" "number" "[I", Cond.fieldLink RX0 18 "TimerRows$Line" "clock" "[I", Cond.fieldLink RX0 21 "TimerRows$Line" "key" "[J", Cond.fieldLink RX0 25 "TimerRows$Line" "time" "[J", Cond.fieldLink RX0 28 "TimerRows$Line" "gap" "[J", Cond.fieldLink RX0 31 "TimerRows$Line" "often" "[I", Cond.fieldLink RX0 34 "TimerRows$Line" "size" "I", Cond.methodLink RX2 25 yX2_begin, Cond.instanceMethod yX2_begin, Cond.selects RX2 yX2_begin yX2_begin, Cond.code yX2_begin cX2_begin 1 none, Cond.fieldLink RX2 28 "TimerRows$Line" "size" "I", Cond.constantLong RX2 32 (-1), Cond.fieldLink RX2 40 "TimerRows$State" "timersSet" "I", Cond.fieldLink RX2 43 "TimerRows$State" "rowsCame" "I"]
def wsL_keep_r3 : List Cond := [Cond.fieldLink RX2 46 "TimerRows$State" "late" "I", Cond.fieldLink RX2 49 "TimerRows$State" "rowsFirst" "Z", Cond.methodLink RX2 34 yJ7_fill_d0a16, Cond.static yJ7_fill_d0a16, Cond.initialized RJ7, Cond.code yJ7_fill_d0a16 cJ7_fill_d0a16 5 none, Cond.methodLink RX3 172 yX2_copyFrom, Cond.instanceMethod yX2_copyFrom, Cond.selects RX2 yX2_copyFrom yX2_copyFrom, Cond.code yX2_copyFrom cX2_copyFrom 2 none, Cond.methodLink RX2 57 arraycopyName, Cond.native arraycopyName, Cond.static arraycopyName, Cond.initialized "java/lang/System", Cond.methodLink RX2 53 yX0_copyFrom, Cond.instanceMethod yX0_copyFrom, Cond.selects RX0 yX0_copyFrom yX0_copyFrom, Cond.code yX0_copyFrom cX0_copyFrom 2 none, Cond.methodLink RX0 41 arraycopyName]
def wsL_keep : List Cond := .codeWith yL_keep cL_keep 3 (some .int) [(0, 8, 11, 15)] :: ((wsL_keep_r1 ++ (wsL_keep_r2 ++ wsL_keep_r3)) ++ wsX30 ++ wsX20 ++ wsX00 ++ (vx_atS RX3 74 "java/lang/IllegalStateException" ["java/lang/RuntimeException", "java/lang/Exception"]).filter goodWord)
def wsL_back_r1 : List Cond := [Cond.classLink RL 13 "java/lang/IllegalArgumentException", Cond.methodLink RL 50 yX3_back, Cond.instanceMethod yX3_back, Cond.selects RX3 yX3_back yX3_back, Cond.initialized RX3, Cond.code yX3_back cX3_back 3 (some .int), Cond.classLink RX3 57 "java/lang/IllegalArgumentException", Cond.initialized "java/lang/IllegalArgumentException", Cond.fieldLink RX3 27 "TimerRows" "keptCount" "I", Cond.fieldLink RX3 16 "TimerRows" "kept" "[LTimerRows$State;", Cond.fieldLink RX3 12 "TimerRows" "live" "LTimerRows$State;", Cond.fieldLink RX3 31 "TimerRows$State" "timers" "LTimerRows$Line;", Cond.fieldLink RX3 35 "TimerRows$Line" "size" "I", Cond.methodLink RX3 172 yX2_copyFrom, Cond.instanceMethod yX2_copyFrom, Cond.selects RX2 yX2_copyFrom yX2_copyFrom, Cond.initialized RX2, Cond.code yX2_copyFrom cX2_copyFrom 2 none, Cond.fieldLink RX2 12 "TimerRows$State" "timers" "LTimerRows$Line;", Cond.fieldLink RX2 18 "TimerRows$State" "rows" "LTimerRows$Line;", Cond.fieldLink RX2 21 "TimerRows$State" "nows" "[J", Cond.methodLink RX2 57 arraycopyName, Cond.native arraycopyName, Cond.static arraycopyName]
def wsL_back_r2 : List Cond := [Cond.initialized "java/lang/System", Cond.fieldLink RX2 40 "TimerRows$State" "timersSet" "I", Cond.fieldLink RX2 43 "TimerRows$State" "rowsCame" "I", Cond.fieldLink RX2 46 "TimerRows$State" "late" "I", Cond.fieldLink RX2 49 "TimerRows$State" "rowsFirst" "Z", Cond.methodLink RX2 53 yX0_copyFrom, Cond.instanceMethod yX0_copyFrom, Cond.selects RX0 yX0_copyFrom yX0_copyFrom, Cond.initialized RX0, Cond.code yX0_copyFrom cX0_copyFrom 2 none, Cond.fieldLink RX0 9 "TimerRows$Line" "order" "[I", Cond.methodLink RX0 41 arraycopyName, Cond.fieldLink RX0 15 "TimerRows$Line" "number" "[I", Cond.fieldLink RX0 18 "TimerRows$Line" "clock" "[I", Cond.fieldLink RX0 21 "TimerRows$Line" "key" "[J", Cond.fieldLink RX0 25 "TimerRows$Line" "time" "[J", Cond.fieldLink RX0 28 "TimerRows$Line" "gap" "[J", Cond.fieldLink RX0 31 "TimerRows$Line" "often" "[I", Cond.fieldLink RX0 34 "TimerRows$Line" "size" "I"]
def wsL_back : List Cond := .codeWith yL_back cL_back 4 (some .int) [(0, 9, 12, 13)] :: ((wsL_back_r1 ++ wsL_back_r2) ++ wsX30 ++ wsX20 ++ wsX00 ++ (vx_atS RX3 61 "java/lang/IllegalArgumentException" ["java/lang/RuntimeException", "java/lang/Exception"]).filter goodWord)
def wsL_forget : List Cond := .codeWith yL_forget cL_forget 3 (some .int) [(0, 8, 11, 15)] :: ([.classLink RL 15 "java/lang/IllegalStateException", .methodLink RL 53 yX3_forget, .instanceMethod yX3_forget, .selects RX3 yX3_forget yX3_forget, .initialized RX3, .code yX3_forget cX3_forget 1 (some .int), .classLink RX3 70 "java/lang/IllegalStateException", .initialized "java/lang/IllegalStateException", .fieldLink RX3 27 "TimerRows" "keptCount" "I"] ++ wsX30 ++ (vx_atS RX3 74 "java/lang/IllegalStateException" ["java/lang/RuntimeException", "java/lang/Exception"]).filter goodWord)
def wsL_task : List Cond := .codeWith yL_task cL_task 6 (some .int) [(0, 11, 14, 13)] :: ([.classLink RL 13 "java/lang/IllegalArgumentException", .methodLink RL 56 yX3_task, .instanceMethod yX3_task, .selects RX3 yX3_task yX3_task, .initialized RX3, .code yX3_task cX3_task 4 (some .int), .methodLink RX3 180 yX3_needTasks, .static yX3_needTasks, .code yX3_needTasks cX3_needTasks 1 none, .classLink RX3 57 "java/lang/IllegalArgumentException", .initialized "java/lang/IllegalArgumentException", .methodLink RX3 183 yX3_taskOf, .static yX3_taskOf, .code yX3_taskOf cX3_taskOf 4 (some .int), .constantLong RX3 223 (128), .methodLink RX3 225 yJ9_floorMod_f86c9, .static yJ9_floorMod_f86c9, .initialized RJ9, .code yJ9_floorMod_f86c9 cJ9_floorMod_f86c9 6 (some .long)] ++ (vx_atS RX3 61 "java/lang/IllegalArgumentException" ["java/lang/RuntimeException", "java/lang/Exception"]).filter goodWord)
def wsL_load_r1 : List Cond := [Cond.classLink RL 13 "java/lang/IllegalArgumentException", Cond.methodLink RL 60 yX3_load, Cond.instanceMethod yX3_load, Cond.selects RX3 yX3_load yX3_load, Cond.initialized RX3, Cond.code yX3_load cX3_load 3 (some .int), Cond.classLink RX3 57 "java/lang/IllegalArgumentException", Cond.initialized "java/lang/IllegalArgumentException", Cond.fieldLink RX3 12 "TimerRows" "live" "LTimerRows$State;", Cond.fieldLink RX3 31 "TimerRows$State" "timers" "LTimerRows$Line;", Cond.fieldLink RX3 40 "TimerRows$State" "rows" "LTimerRows$Line;", Cond.methodLink RX3 180 yX3_needTasks, Cond.static yX3_needTasks, Cond.code yX3_needTasks cX3_needTasks 1 none, Cond.methodLink RX3 189 yX0_countOfTask, Cond.instanceMethod yX0_countOfTask, Cond.selects RX0 yX0_countOfTask yX0_countOfTask, Cond.initialized RX0, Cond.code yX0_countOfTask cX0_countOfTask 5 (some .int), Cond.fieldLink RX0 34 "TimerRows$Line" "size" "I", Cond.fieldLink RX0 21 "TimerRows$Line" "key" "[J", Cond.fieldLink RX0 9 "TimerRows$Line" "order" "[I", Cond.static yX3_taskOf, Cond.code yX3_taskOf cX3_taskOf 4 (some .int)]
def wsL_load_r2 : List Cond := [Cond.constantLong RX3 223 (128), Cond.methodLink RX3 225 yJ9_floorMod_f86c9, Cond.static yJ9_floorMod_f86c9, Cond.initialized RJ9, Cond.code yJ9_floorMod_f86c9 cJ9_floorMod_f86c9 6 (some .long)]
def wsL_load : List Cond := .codeWith yL_load cL_load 5 (some .int) [(0, 10, 13, 13)] :: ((wsL_load_r1 ++ wsL_load_r2) ++ wsX30 ++ wsX20 ++ wsX00 ++ (vx_atS RX3 61 "java/lang/IllegalArgumentException" ["java/lang/RuntimeException", "java/lang/Exception"]).filter goodWord)
def wsL_of : List Cond := .codeWith yL_of cL_of 4 (some .int) [(0, 9, 12, 13)] :: ([.classLink RL 13 "java/lang/IllegalArgumentException", .methodLink RL 64 yX3_of, .instanceMethod yX3_of, .selects RX3 yX3_of yX3_of, .initialized RX3, .code yX3_of cX3_of 2 (some .int), .fieldLink RX3 12 "TimerRows" "live" "LTimerRows$State;", .fieldLink RX3 31 "TimerRows$State" "timers" "LTimerRows$Line;", .fieldLink RX3 35 "TimerRows$Line" "size" "I", .fieldLink RX3 40 "TimerRows$State" "rows" "LTimerRows$Line;", .fieldLink RX3 193 "TimerRows$State" "timersSet" "I", .fieldLink RX3 110 "TimerRows$State" "rowsCame" "I", .fieldLink RX3 105 "TimerRows$State" "late" "I", .fieldLink RX3 27 "TimerRows" "keptCount" "I", .fieldLink RX3 23 "TimerRows" "log" "LTimerRows$Log;", .fieldLink RX3 46 "TimerRows$Log" "size" "I", .methodLink RX3 123 yX3_needWhat, .static yX3_needWhat, .code yX3_needWhat cX3_needWhat 2 none, .classLink RX3 57 "java/lang/IllegalArgumentException", .initialized "java/lang/IllegalArgumentException"] ++ wsX30 ++ wsX20 ++ wsX00 ++ wsX10 ++ (vx_atS RX3 61 "java/lang/IllegalArgumentException" ["java/lang/RuntimeException", "java/lang/Exception"]).filter goodWord)
def wsL_now : List Cond := .codeWith yL_now cL_now 4 (some .int) [(0, 8, 11, 13)] :: ([.classLink RL 13 "java/lang/IllegalArgumentException", .methodLink RL 67 yX3_now, .instanceMethod yX3_now, .selects RX3 yX3_now yX3_now, .initialized RX3, .code yX3_now cX3_now 2 (some .long), .fieldLink RX3 12 "TimerRows" "live" "LTimerRows$State;", .fieldLink RX3 101 "TimerRows$State" "nows" "[J", .methodLink RX3 47 yX3_needClock, .static yX3_needClock, .code yX3_needClock cX3_needClock 1 none, .classLink RX3 57 "java/lang/IllegalArgumentException", .initialized "java/lang/IllegalArgumentException"] ++ wsX30 ++ wsX20 ++ (vx_atS RX3 61 "java/lang/IllegalArgumentException" ["java/lang/RuntimeException", "java/lang/Exception"]).filter goodWord)
def wsL_law0_r1 : List Cond := [Cond.classLink RL 8 RX3, Cond.instantiable RX3 4, Cond.initialized RX3, Cond.classLink RL 72 RX4, Cond.instantiable RX4 18, Cond.initialized RX4, Cond.arrayClass .long, Cond.constantLong RL 79 (4294967295), Cond.methodLink RL 71 yX3_init, Cond.instanceMethod yX3_init, Cond.code yX3_init cX3_init 1 none, Cond.methodLink RX3 3 objectInit, Cond.instanceMethod objectInit, Cond.code objectInit ⟨#[0xb1]⟩ 1 none, Cond.classLink RX3 9 RX2, Cond.instantiable RX2 7, Cond.initialized RX2, Cond.fieldLink RX3 12 "TimerRows" "live" "LTimerRows$State;", Cond.fieldLink RX3 16 "TimerRows" "kept" "[LTimerRows$State;", Cond.classLink RX3 20 RX1, Cond.instantiable RX1 6, Cond.initialized RX1, Cond.fieldLink RX3 23 "TimerRows" "log" "LTimerRows$Log;", Cond.fieldLink RX3 27 "TimerRows" "keptCount" "I"]
def wsL_law0_r2 : List Cond := [Cond.methodLink RX3 11 yX2_init, Cond.instanceMethod yX2_init, Cond.code yX2_init cX2_init 1 none, Cond.methodLink RX2 3 objectInit, Cond.classLink RX2 9 RX0, Cond.instantiable RX0 8, Cond.initialized RX0, Cond.fieldLink RX2 12 "TimerRows$State" "timers" "LTimerRows$Line;", Cond.fieldLink RX2 18 "TimerRows$State" "rows" "LTimerRows$Line;", Cond.fieldLink RX2 21 "TimerRows$State" "nows" "[J", Cond.methodLink RX2 11 yX0_init, Cond.instanceMethod yX0_init, Cond.code yX0_init cX0_init 2 none, Cond.methodLink RX0 3 objectInit, Cond.arrayClass .int, Cond.fieldLink RX0 9 "TimerRows$Line" "order" "[I", Cond.fieldLink RX0 15 "TimerRows$Line" "number" "[I", Cond.fieldLink RX0 18 "TimerRows$Line" "clock" "[I", Cond.fieldLink RX0 21 "TimerRows$Line" "key" "[J", Cond.fieldLink RX0 25 "TimerRows$Line" "time" "[J", Cond.fieldLink RX0 28 "TimerRows$Line" "gap" "[J", Cond.fieldLink RX0 31 "TimerRows$Line" "often" "[I", Cond.fieldLink RX0 34 "TimerRows$Line" "size" "I", Cond.methodLink RX2 25 yX2_begin]
def wsL_law0_r3 : List Cond := [Cond.instanceMethod yX2_begin, Cond.selects RX2 yX2_begin yX2_begin, Cond.code yX2_begin cX2_begin 1 none, Cond.fieldLink RX2 28 "TimerRows$Line" "size" "I", Cond.constantLong RX2 32 (-1), Cond.fieldLink RX2 40 "TimerRows$State" "timersSet" "I", Cond.fieldLink RX2 43 "TimerRows$State" "rowsCame" "I", Cond.fieldLink RX2 46 "TimerRows$State" "late" "I", Cond.fieldLink RX2 49 "TimerRows$State" "rowsFirst" "Z", Cond.methodLink RX2 34 yJ7_fill_d0a16, Cond.static yJ7_fill_d0a16, Cond.initialized RJ7, Cond.code yJ7_fill_d0a16 cJ7_fill_d0a16 5 none, Cond.instanceMethod yX1_init, Cond.code yX1_init cX1_init 1 none, Cond.methodLink RX1 3 objectInit, Cond.fieldLink RX1 9 "TimerRows$Log" "kind" "[I", Cond.fieldLink RX1 15 "TimerRows$Log" "number" "[I", Cond.fieldLink RX1 18 "TimerRows$Log" "key" "[J", Cond.fieldLink RX1 22 "TimerRows$Log" "time" "[J", Cond.fieldLink RX1 25 "TimerRows$Log" "often" "[I", Cond.methodLink RL 74 yX4_init, Cond.instanceMethod yX4_init, Cond.code yX4_init cX4_init 1 none]
def wsL_law0_r4 : List Cond := [Cond.methodLink RX4 1 objectInit, Cond.fieldLink RX4 7 "TimerRowsModel" "waits" "[I", Cond.arrayClass .boolean, Cond.fieldLink RX4 13 "TimerRowsModel" "isTimer" "[Z", Cond.fieldLink RX4 17 "TimerRowsModel" "clock" "[I", Cond.fieldLink RX4 20 "TimerRowsModel" "number" "[I", Cond.fieldLink RX4 23 "TimerRowsModel" "key" "[J", Cond.fieldLink RX4 27 "TimerRowsModel" "time" "[J", Cond.fieldLink RX4 30 "TimerRowsModel" "gap" "[J", Cond.fieldLink RX4 33 "TimerRowsModel" "often" "[I", Cond.fieldLink RX4 36 "TimerRowsModel" "nows" "[J", Cond.fieldLink RX4 39 "TimerRowsModel" "counts" "[I", Cond.fieldLink RX4 42 "TimerRowsModel" "doneKind" "[I", Cond.fieldLink RX4 45 "TimerRowsModel" "doneNumber" "[I", Cond.fieldLink RX4 48 "TimerRowsModel" "doneKey" "[J", Cond.fieldLink RX4 51 "TimerRowsModel" "doneTime" "[J", Cond.fieldLink RX4 54 "TimerRowsModel" "doneOften" "[I", Cond.methodLink RX4 57 yX4_begin, Cond.instanceMethod yX4_begin, Cond.selects RX4 yX4_begin yX4_begin, Cond.code yX4_begin cX4_begin 1 none, Cond.constantLong RX4 64 (-1), Cond.fieldLink RX4 66 "TimerRowsModel" "kept" "I", Cond.fieldLink RX4 69 "TimerRowsModel" "done" "I"]
def wsL_law0_r5 : List Cond := [Cond.methodLink RL 75 yX3_clear, Cond.instanceMethod yX3_clear, Cond.selects RX3 yX3_clear yX3_clear, Cond.code yX3_clear cX3_clear 2 (some .int), Cond.fieldLink RX3 31 "TimerRows$State" "timers" "LTimerRows$Line;", Cond.fieldLink RX3 35 "TimerRows$Line" "size" "I", Cond.fieldLink RX3 40 "TimerRows$State" "rows" "LTimerRows$Line;", Cond.fieldLink RX3 46 "TimerRows$Log" "size" "I", Cond.methodLink RX3 43 yX2_begin, Cond.methodLink RL 78 yX4_clear, Cond.instanceMethod yX4_clear, Cond.selects RX4 yX4_clear yX4_clear, Cond.code yX4_clear cX4_clear 2 (some .int), Cond.fieldLink RX4 60 "TimerRowsModel" "code" "I", Cond.methodLink RL 81 yL_set, Cond.static yL_set, Cond.initialized RL, Cond.codeWith yL_set cL_set 11 (some .int) [(0, 17, 20, 13), (0, 17, 24, 15)], Cond.classLink RL 13 "java/lang/IllegalArgumentException", Cond.classLink RL 15 "java/lang/IllegalStateException", Cond.methodLink RL 7 yX3_set, Cond.instanceMethod yX3_set, Cond.selects RX3 yX3_set yX3_set, Cond.code yX3_set cX3_set 10 (some .int)]
def wsL_law0_r6 : List Cond := [Cond.classLink RX3 57 "java/lang/IllegalArgumentException", Cond.initialized "java/lang/IllegalArgumentException", Cond.classLink RX3 70 "java/lang/IllegalStateException", Cond.initialized "java/lang/IllegalStateException", Cond.constantLong RX3 55 (1000000000), Cond.methodLink RX3 47 yX3_needClock, Cond.static yX3_needClock, Cond.code yX3_needClock cX3_needClock 1 none, Cond.methodLink RX3 51 yX3_needTime, Cond.static yX3_needTime, Cond.code yX3_needTime cX3_needTime 2 none, Cond.constantLong RX3 215 (1000000000000), Cond.methodLink RX3 66 yX0_isFull, Cond.instanceMethod yX0_isFull, Cond.selects RX0 yX0_isFull yX0_isFull, Cond.code yX0_isFull cX0_isFull 1 (some .boolean), Cond.methodLink RX3 75 yX2_takeTimerNumber, Cond.instanceMethod yX2_takeTimerNumber, Cond.selects RX2 yX2_takeTimerNumber yX2_takeTimerNumber, Cond.code yX2_takeTimerNumber cX2_takeTimerNumber 2 (some .int), Cond.methodLink RX3 79 yX0_enter, Cond.instanceMethod yX0_enter, Cond.selects RX0 yX0_enter yX0_enter, Cond.code yX0_enter cX0_enter 11 none]
def wsL_law0_r7 : List Cond := [Cond.methodLink RX0 38 yX0_sortInFirstFree, Cond.instanceMethod yX0_sortInFirstFree, Cond.selects RX0 yX0_sortInFirstFree yX0_sortInFirstFree, Cond.code yX0_sortInFirstFree cX0_sortInFirstFree 3 none, Cond.methodLink RX0 41 arraycopyName, Cond.native arraycopyName, Cond.static arraycopyName, Cond.initialized "java/lang/System", Cond.methodLink RX0 51 yX0_countAheadOf, Cond.instanceMethod yX0_countAheadOf, Cond.selects RX0 yX0_countAheadOf yX0_countAheadOf, Cond.code yX0_countAheadOf cX0_countAheadOf 5 (some .int), Cond.methodLink RX0 55 yX0_goesAhead, Cond.instanceMethod yX0_goesAhead, Cond.selects RX0 yX0_goesAhead yX0_goesAhead, Cond.code yX0_goesAhead cX0_goesAhead 3 (some .boolean), Cond.methodLink RL 86 yX4_set, Cond.instanceMethod yX4_set, Cond.selects RX4 yX4_set yX4_set, Cond.code yX4_set cX4_set 10 (some .int), Cond.constantLong RX4 80 (1000000000000), Cond.constantLong RX4 82 (1000000000), Cond.constantLong RX4 84 (50), Cond.methodLink RX4 76 yX4_isIn]
def wsL_law0_r8 : List Cond := [Cond.static yX4_isIn, Cond.code yX4_isIn cX4_isIn 6 (some .boolean), Cond.methodLink RX4 86 yX4_many, Cond.instanceMethod yX4_many, Cond.selects RX4 yX4_many yX4_many, Cond.code yX4_many cX4_many 4 (some .int), Cond.methodLink RX4 90 yX4_isGood, Cond.instanceMethod yX4_isGood, Cond.selects RX4 yX4_isGood yX4_isGood, Cond.code yX4_isGood cX4_isGood 2 (some .boolean), Cond.methodLink RX4 94 yX4_add, Cond.instanceMethod yX4_add, Cond.selects RX4 yX4_add yX4_add, Cond.code yX4_add cX4_add 12 none, Cond.methodLink RL 87 yX4_thrown, Cond.instanceMethod yX4_thrown, Cond.selects RX4 yX4_thrown yX4_thrown, Cond.code yX4_thrown cX4_thrown 1 (some .int), Cond.methodLink RL 90 yL_move, Cond.static yL_move, Cond.codeWith yL_move cL_move 6 (some .int) [(0, 10, 13, 13), (0, 10, 17, 21)], Cond.classLink RL 21 "java/util/NoSuchElementException", Cond.methodLink RL 17 yX3_move, Cond.instanceMethod yX3_move]
def wsL_law0_r9 : List Cond := [Cond.selects RX3 yX3_move yX3_move, Cond.code yX3_move cX3_move 7 (some .long), Cond.methodLink RX3 83 yX3_needTimer, Cond.instanceMethod yX3_needTimer, Cond.selects RX3 yX3_needTimer yX3_needTimer, Cond.code yX3_needTimer cX3_needTimer 3 (some .int), Cond.classLink RX3 127 "java/util/NoSuchElementException", Cond.initialized "java/util/NoSuchElementException", Cond.methodLink RX3 95 yX0_placeOf, Cond.instanceMethod yX0_placeOf, Cond.selects RX0 yX0_placeOf yX0_placeOf, Cond.code yX0_placeOf cX0_placeOf 3 (some .int), Cond.methodLink RX3 87 yX0_timeAt, Cond.instanceMethod yX0_timeAt, Cond.selects RX0 yX0_timeAt yX0_timeAt, Cond.code yX0_timeAt cX0_timeAt 2 (some .long), Cond.methodLink RX3 91 yX0_retime, Cond.instanceMethod yX0_retime, Cond.selects RX0 yX0_retime yX0_retime, Cond.code yX0_retime cX0_retime 4 none, Cond.methodLink RX0 47 yX0_leave, Cond.instanceMethod yX0_leave, Cond.selects RX0 yX0_leave yX0_leave, Cond.code yX0_leave cX0_leave 3 none]
def wsL_law0_r10 : List Cond := [Cond.methodLink RL 93 yX4_move, Cond.instanceMethod yX4_move, Cond.selects RX4 yX4_move yX4_move, Cond.code yX4_move cX4_move 7 (some .long), Cond.methodLink RX4 98 yX4_find, Cond.instanceMethod yX4_find, Cond.selects RX4 yX4_find yX4_find, Cond.code yX4_find cX4_find 3 (some .int), Cond.methodLink RL 94 yX3_cancel, Cond.instanceMethod yX3_cancel, Cond.selects RX3 yX3_cancel yX3_cancel, Cond.code yX3_cancel cX3_cancel 3 (some .boolean), Cond.methodLink RX3 98 yX0_leave, Cond.methodLink RL 98 yX4_cancel, Cond.instanceMethod yX4_cancel, Cond.selects RX4 yX4_cancel yX4_cancel, Cond.code yX4_cancel cX4_cancel 3 (some .boolean), Cond.methodLink RX4 102 yX4_take, Cond.instanceMethod yX4_take, Cond.selects RX4 yX4_take yX4_take, Cond.code yX4_take cX4_take 2 none, Cond.methodLink RX4 72 yX4_copy, Cond.instanceMethod yX4_copy, Cond.selects RX4 yX4_copy yX4_copy]
def wsL_law0_r11 : List Cond := [Cond.code yX4_copy cX4_copy 3 none, Cond.methodLink RL 99 yL_row, Cond.static yL_row, Cond.codeWith yL_row cL_row 7 (some .int) [(0, 11, 14, 13), (0, 11, 18, 15)], Cond.methodLink RL 23 yX3_row, Cond.instanceMethod yX3_row, Cond.selects RX3 yX3_row yX3_row, Cond.code yX3_row cX3_row 6 (some .int), Cond.fieldLink RX3 101 "TimerRows$State" "nows" "[J", Cond.fieldLink RX3 105 "TimerRows$State" "late" "I", Cond.fieldLink RX3 110 "TimerRows$State" "rowsCame" "I", Cond.methodLink RL 102 yX4_row, Cond.instanceMethod yX4_row, Cond.selects RX4 yX4_row yX4_row, Cond.code yX4_row cX4_row 5 (some .int), Cond.methodLink RL 103 yX3_first, Cond.instanceMethod yX3_first, Cond.selects RX3 yX3_first yX3_first, Cond.code yX3_first cX3_first 3 (some .boolean), Cond.fieldLink RX3 113 "TimerRows$State" "rowsFirst" "Z", Cond.methodLink RL 107 yX4_first, Cond.instanceMethod yX4_first, Cond.selects RX4 yX4_first yX4_first, Cond.code yX4_first cX4_first 3 (some .boolean)]
def wsL_law0_r12 : List Cond := [Cond.methodLink RL 108 yL_pass, Cond.static yL_pass, Cond.codeWith yL_pass cL_pass 6 (some .int) [(0, 11, 14, 13)], Cond.methodLink RL 27 yX3_pass, Cond.instanceMethod yX3_pass, Cond.selects RX3 yX3_pass yX3_pass, Cond.code yX3_pass cX3_pass 5 (some .int), Cond.methodLink RX3 119 yX3_doFirstDue, Cond.instanceMethod yX3_doFirstDue, Cond.selects RX3 yX3_doFirstDue yX3_doFirstDue, Cond.code yX3_doFirstDue cX3_doFirstDue 6 (some .boolean), Cond.methodLink RX3 196 yX0_dueOf, Cond.instanceMethod yX0_dueOf, Cond.selects RX0 yX0_dueOf yX0_dueOf, Cond.code yX0_dueOf cX0_dueOf 5 (some .int), Cond.methodLink RX0 59 yX0_headOf, Cond.instanceMethod yX0_headOf, Cond.selects RX0 yX0_headOf yX0_headOf, Cond.code yX0_headOf cX0_headOf 3 (some .int), Cond.methodLink RX0 62 yX0_timeAt, Cond.methodLink RX3 200 yX2_rowGoesAhead, Cond.instanceMethod yX2_rowGoesAhead, Cond.selects RX2 yX2_rowGoesAhead yX2_rowGoesAhead, Cond.code yX2_rowGoesAhead cX2_rowGoesAhead 7 (some .boolean)]
def wsL_law0_r13 : List Cond := [Cond.methodLink RX2 63 yX0_timeAt, Cond.methodLink RX3 204 yX1_add, Cond.instanceMethod yX1_add, Cond.selects RX1 yX1_add yX1_add, Cond.code yX1_add cX1_add 5 none, Cond.fieldLink RX1 28 "TimerRows$Log" "size" "I", Cond.fieldLink RX1 35 "TimerRows$Line" "order" "[I", Cond.fieldLink RX1 40 "TimerRows$Line" "number" "[I", Cond.fieldLink RX1 41 "TimerRows$Line" "key" "[J", Cond.fieldLink RX1 42 "TimerRows$Line" "time" "[J", Cond.fieldLink RX1 43 "TimerRows$Line" "often" "[I", Cond.methodLink RX1 32 yX1_grow, Cond.instanceMethod yX1_grow, Cond.selects RX1 yX1_grow yX1_grow, Cond.code yX1_grow cX1_grow 2 none, Cond.methodLink RX1 44 yJ7_copyOf_59c91, Cond.static yJ7_copyOf_59c91, Cond.code yJ7_copyOf_59c91 cJ7_copyOf_59c91 3 (some (.array .int)), Cond.methodLink RJ7 316 ⟨"[I", "clone", "()Ljava/lang/Object;"⟩, Cond.sameMethod "[I" "java/lang/Object" "clone" "()Ljava/lang/Object;", Cond.native ⟨"java/lang/Object", "clone", "()Ljava/lang/Object;"⟩, Cond.instanceMethod ⟨"java/lang/Object", "clone", "()Ljava/lang/Object;"⟩, Cond.selects "[I" ⟨"[I", "clone", "()Ljava/lang/Object;"⟩ ⟨"java/lang/Object", "clone", "()Ljava/lang/Object;"⟩, Cond.classLink RJ7 317 "[I"]
def wsL_law0_r14 : List Cond := [Cond.methodLink RJ7 304 Lib.Math.min.name, Cond.static Lib.Math.min.name, Cond.initialized "java/lang/Math", Cond.code Lib.Math.min.name Lib.Math.min.code 2 (some .int), Cond.methodLink RJ7 150 arraycopyName, Cond.methodLink RX1 50 yJ7_copyOf_c38d5, Cond.static yJ7_copyOf_c38d5, Cond.code yJ7_copyOf_c38d5 cJ7_copyOf_c38d5 3 (some (.array .long)), Cond.methodLink RJ7 319 ⟨"[J", "clone", "()Ljava/lang/Object;"⟩, Cond.sameMethod "[J" "java/lang/Object" "clone" "()Ljava/lang/Object;", Cond.selects "[J" ⟨"[J", "clone", "()Ljava/lang/Object;"⟩ ⟨"java/lang/Object", "clone", "()Ljava/lang/Object;"⟩, Cond.classLink RJ7 320 "[J", Cond.methodLink RX3 208 yX2_finishTimer, Cond.instanceMethod yX2_finishTimer, Cond.selects RX2 yX2_finishTimer yX2_finishTimer, Cond.code yX2_finishTimer cX2_finishTimer 2 none, Cond.fieldLink RX2 67 "TimerRows$Line" "often" "[I", Cond.fieldLink RX2 71 "TimerRows$Line" "order" "[I", Cond.methodLink RX2 74 yX2_takeTimerNumber, Cond.methodLink RX2 78 yX0_setAgain, Cond.instanceMethod yX0_setAgain, Cond.selects RX0 yX0_setAgain yX0_setAgain, Cond.code yX0_setAgain cX0_setAgain 4 none, Cond.methodLink RX2 82 yX0_leave]
def wsL_law0_r15 : List Cond := [Cond.methodLink RL 110 yX4_pass, Cond.instanceMethod yX4_pass, Cond.selects RX4 yX4_pass yX4_pass, Cond.code yX4_pass cX4_pass 5 (some .int), Cond.methodLink RX4 110 yX4_leastOf, Cond.instanceMethod yX4_leastOf, Cond.selects RX4 yX4_leastOf yX4_leastOf, Cond.code yX4_leastOf cX4_leastOf 8 (some .int), Cond.methodLink RX4 106 yX4_isAhead, Cond.instanceMethod yX4_isAhead, Cond.selects RX4 yX4_isAhead yX4_isAhead, Cond.code yX4_isAhead cX4_isAhead 3 (some .boolean), Cond.methodLink RL 111 yL_done, Cond.static yL_done, Cond.codeWith yL_done cL_done 5 (some .int) [(0, 9, 12, 13), (0, 9, 16, 21)], Cond.methodLink RL 31 yX3_done, Cond.instanceMethod yX3_done, Cond.selects RX3 yX3_done yX3_done, Cond.code yX3_done cX3_done 3 (some .long), Cond.fieldLink RX3 132 "TimerRows$Log" "kind" "[I", Cond.fieldLink RX3 136 "TimerRows$Log" "number" "[I", Cond.fieldLink RX3 139 "TimerRows$Log" "key" "[J", Cond.fieldLink RX3 142 "TimerRows$Log" "time" "[J", Cond.fieldLink RX3 145 "TimerRows$Log" "often" "[I"]
def wsL_law0_r16 : List Cond := [Cond.methodLink RX3 123 yX3_needWhat, Cond.static yX3_needWhat, Cond.code yX3_needWhat cX3_needWhat 2 none, Cond.methodLink RL 114 yX4_done, Cond.instanceMethod yX4_done, Cond.selects RX4 yX4_done yX4_done, Cond.code yX4_done cX4_done 3 (some .long), Cond.constantLong RX4 114 (4), Cond.methodLink RL 115 yL_told, Cond.static yL_told, Cond.codeWith yL_told cL_told 5 (some .int) [(0, 9, 12, 13), (0, 9, 16, 21)], Cond.methodLink RL 35 yX3_told, Cond.instanceMethod yX3_told, Cond.selects RX3 yX3_told yX3_told, Cond.code yX3_told cX3_told 4 (some .long), Cond.fieldLink RX3 148 "TimerRows$Line" "order" "[I", Cond.fieldLink RX3 151 "TimerRows$Line" "clock" "[I", Cond.fieldLink RX3 154 "TimerRows$Line" "key" "[J", Cond.fieldLink RX3 155 "TimerRows$Line" "time" "[J", Cond.fieldLink RX3 156 "TimerRows$Line" "gap" "[J", Cond.fieldLink RX3 159 "TimerRows$Line" "often" "[I", Cond.methodLink RL 117 yX4_told, Cond.instanceMethod yX4_told, Cond.selects RX4 yX4_told yX4_told]
def wsL_law0_r17 : List Cond := [Cond.code yX4_told cX4_told 4 (some .long), Cond.methodLink RL 118 yL_next, Cond.static yL_next, Cond.codeWith yL_next cL_next 4 (some .int) [(0, 9, 12, 13)], Cond.methodLink RL 38 yX3_next, Cond.instanceMethod yX3_next, Cond.selects RX3 yX3_next yX3_next, Cond.code yX3_next cX3_next 3 (some .int), Cond.fieldLink RX3 163 "TimerRows$Line" "number" "[I", Cond.methodLink RX3 160 yX0_headOf, Cond.methodLink RL 121 yX4_next, Cond.instanceMethod yX4_next, Cond.selects RX4 yX4_next yX4_next, Cond.code yX4_next cX4_next 3 (some .int), Cond.constantLong RX4 116 (4000000000000), Cond.methodLink RL 122 yL_waiting, Cond.static yL_waiting, Cond.codeWith yL_waiting cL_waiting 10 (some .int) [(0, 15, 18, 13)], Cond.methodLink RL 42 yX3_waiting, Cond.instanceMethod yX3_waiting, Cond.selects RX3 yX3_waiting yX3_waiting, Cond.code yX3_waiting cX3_waiting 8 (some .int), Cond.methodLink RX3 166 yX0_countBetween, Cond.instanceMethod yX0_countBetween]
def wsL_law0_r18 : List Cond := [Cond.selects RX0 yX0_countBetween yX0_countBetween, Cond.code yX0_countBetween cX0_countBetween 12 (some .int), Cond.methodLink RL 125 yX4_waiting, Cond.instanceMethod yX4_waiting, Cond.selects RX4 yX4_waiting yX4_waiting, Cond.code yX4_waiting cX4_waiting 10 (some .int), Cond.methodLink RL 126 yL_keep, Cond.static yL_keep, Cond.codeWith yL_keep cL_keep 3 (some .int) [(0, 8, 11, 15)], Cond.methodLink RL 46 yX3_keep, Cond.instanceMethod yX3_keep, Cond.selects RX3 yX3_keep yX3_keep, Cond.code yX3_keep cX3_keep 3 (some .int), Cond.methodLink RX3 172 yX2_copyFrom, Cond.instanceMethod yX2_copyFrom, Cond.selects RX2 yX2_copyFrom yX2_copyFrom, Cond.code yX2_copyFrom cX2_copyFrom 2 none, Cond.methodLink RX2 57 arraycopyName, Cond.methodLink RX2 53 yX0_copyFrom, Cond.instanceMethod yX0_copyFrom, Cond.selects RX0 yX0_copyFrom yX0_copyFrom, Cond.code yX0_copyFrom cX0_copyFrom 2 none, Cond.methodLink RL 129 yX4_keep, Cond.instanceMethod yX4_keep]
def wsL_law0_r19 : List Cond := [Cond.selects RX4 yX4_keep yX4_keep, Cond.code yX4_keep cX4_keep 1 (some .int), Cond.methodLink RX4 118 yX4_lay, Cond.instanceMethod yX4_lay, Cond.selects RX4 yX4_lay yX4_lay, Cond.code yX4_lay cX4_lay 4 none, Cond.methodLink RL 130 yL_back, Cond.static yL_back, Cond.codeWith yL_back cL_back 4 (some .int) [(0, 9, 12, 13)], Cond.methodLink RL 50 yX3_back, Cond.instanceMethod yX3_back, Cond.selects RX3 yX3_back yX3_back, Cond.code yX3_back cX3_back 3 (some .int), Cond.methodLink RL 132 yX4_back, Cond.instanceMethod yX4_back, Cond.selects RX4 yX4_back yX4_back, Cond.code yX4_back cX4_back 2 (some .int), Cond.methodLink RL 133 yL_forget, Cond.static yL_forget, Cond.codeWith yL_forget cL_forget 3 (some .int) [(0, 8, 11, 15)], Cond.methodLink RL 53 yX3_forget, Cond.instanceMethod yX3_forget, Cond.selects RX3 yX3_forget yX3_forget, Cond.code yX3_forget cX3_forget 1 (some .int)]
def wsL_law0_r20 : List Cond := [Cond.methodLink RL 135 yX4_forget, Cond.instanceMethod yX4_forget, Cond.selects RX4 yX4_forget yX4_forget, Cond.code yX4_forget cX4_forget 1 (some .int), Cond.methodLink RL 136 yL_task, Cond.static yL_task, Cond.codeWith yL_task cL_task 6 (some .int) [(0, 11, 14, 13)], Cond.methodLink RL 56 yX3_task, Cond.instanceMethod yX3_task, Cond.selects RX3 yX3_task yX3_task, Cond.code yX3_task cX3_task 4 (some .int), Cond.methodLink RX3 180 yX3_needTasks, Cond.static yX3_needTasks, Cond.code yX3_needTasks cX3_needTasks 1 none, Cond.methodLink RX3 183 yX3_taskOf, Cond.static yX3_taskOf, Cond.code yX3_taskOf cX3_taskOf 4 (some .int), Cond.constantLong RX3 223 (128), Cond.methodLink RX3 225 yJ9_floorMod_f86c9, Cond.static yJ9_floorMod_f86c9, Cond.initialized RJ9, Cond.code yJ9_floorMod_f86c9 cJ9_floorMod_f86c9 6 (some .long), Cond.methodLink RL 139 yX4_task, Cond.instanceMethod yX4_task]
def wsL_law0_r21 : List Cond := [Cond.selects RX4 yX4_task yX4_task, Cond.code yX4_task cX4_task 4 (some .int), Cond.constantLong RX4 121 (128), Cond.methodLink RX4 123 yX4_taskOf, Cond.static yX4_taskOf, Cond.code yX4_taskOf cX4_taskOf 4 (some .int), Cond.methodLink RL 140 yL_load, Cond.static yL_load, Cond.codeWith yL_load cL_load 5 (some .int) [(0, 10, 13, 13)], Cond.methodLink RL 60 yX3_load, Cond.instanceMethod yX3_load, Cond.selects RX3 yX3_load yX3_load, Cond.code yX3_load cX3_load 3 (some .int), Cond.methodLink RX3 189 yX0_countOfTask, Cond.instanceMethod yX0_countOfTask, Cond.selects RX0 yX0_countOfTask yX0_countOfTask, Cond.code yX0_countOfTask cX0_countOfTask 5 (some .int), Cond.methodLink RL 142 yX4_load, Cond.instanceMethod yX4_load, Cond.selects RX4 yX4_load yX4_load, Cond.code yX4_load cX4_load 5 (some .int), Cond.methodLink RL 143 yL_of, Cond.static yL_of, Cond.codeWith yL_of cL_of 4 (some .int) [(0, 9, 12, 13)]]
def wsL_law0_r22 : List Cond := [Cond.methodLink RL 64 yX3_of, Cond.instanceMethod yX3_of, Cond.selects RX3 yX3_of yX3_of, Cond.code yX3_of cX3_of 2 (some .int), Cond.fieldLink RX3 193 "TimerRows$State" "timersSet" "I", Cond.methodLink RL 145 yX4_of, Cond.instanceMethod yX4_of, Cond.selects RX4 yX4_of yX4_of, Cond.code yX4_of cX4_of 2 (some .int), Cond.constantLong RX4 127 (6), Cond.methodLink RL 146 yL_now, Cond.static yL_now, Cond.codeWith yL_now cL_now 4 (some .int) [(0, 8, 11, 13)], Cond.methodLink RL 67 yX3_now, Cond.instanceMethod yX3_now, Cond.selects RX3 yX3_now yX3_now, Cond.code yX3_now cX3_now 2 (some .long), Cond.methodLink RL 148 yX4_now, Cond.instanceMethod yX4_now, Cond.selects RX4 yX4_now yX4_now, Cond.code yX4_now cX4_now 2 (some .long)]
def wsL_law0 : List Cond := (wsL_law0_r1 ++ (wsL_law0_r2 ++ (wsL_law0_r3 ++ (wsL_law0_r4 ++ (wsL_law0_r5 ++ (wsL_law0_r6 ++ (wsL_law0_r7 ++ (wsL_law0_r8 ++ (wsL_law0_r9 ++ (wsL_law0_r10 ++ (wsL_law0_r11 ++ (wsL_law0_r12 ++ (wsL_law0_r13 ++ (wsL_law0_r14 ++ (wsL_law0_r15 ++ (wsL_law0_r16 ++ (wsL_law0_r17 ++ (wsL_law0_r18 ++ (wsL_law0_r19 ++ (wsL_law0_r20 ++ (wsL_law0_r21 ++ wsL_law0_r22))))))))))))))))))))) ++ wsX30 ++ wsX40 ++ wsX20 ++ wsX10 ++ wsX00 ++ ([] : List Cond)
def wsL_law : List Cond := wsL_law0 ++ (vx_atS RX3 61 "java/lang/IllegalArgumentException" ["java/lang/RuntimeException", "java/lang/Exception"]).filter goodWord ++ (vx_atS RX3 74 "java/lang/IllegalStateException" ["java/lang/RuntimeException", "java/lang/Exception"]).filter goodWord ++ (wy_at RX3 131 "java/util/NoSuchElementException" 13 prog_18_method_4_code ["java/lang/RuntimeException", "java/lang/Exception"]).filter goodWord
abbrev vwCl : List vw_C := [(RX0, TX0, 8), (RX1, TX1, 6), (RX2, TX2, 7), (RX3, TX3, 4), (RX4, TX4, 18)]
end
section
theorem wsX30_in0 : ∀ w ∈ wsX30, w ∈ lw_tbl := by decide +kernel
theorem wsX40_in0 : ∀ w ∈ wsX40, w ∈ lw_tbl := by decide +kernel
theorem wsX20_in0 : ∀ w ∈ wsX20, w ∈ lw_tbl := by decide +kernel
theorem wsX10_in0 : ∀ w ∈ wsX10, w ∈ lw_tbl := by decide +kernel
theorem wsX00_in0 : ∀ w ∈ wsX00, w ∈ lw_tbl := by decide +kernel
end
section
set_option maxRecDepth 20000 in
theorem wsL_law0_r1_in : ∀ w ∈ wsL_law0_r1, w ∈ lw_tbl := fun w h => (goodIn_p wsL_law0_r1 [36, 39] (by decide +kernel) (by decide +kernel) w h).1
set_option maxRecDepth 20000 in
theorem wsL_law0_r2_in : ∀ w ∈ wsL_law0_r2, w ∈ lw_tbl := fun w h => (goodIn_p wsL_law0_r2 [44, 50] (by decide +kernel) (by decide +kernel) w h).1
set_option maxRecDepth 20000 in
theorem wsL_law0_r3_in : ∀ w ∈ wsL_law0_r3, w ∈ lw_tbl := fun w h => (goodIn_p wsL_law0_r3 [98, 102, 137, 561] (by decide +kernel) (by decide +kernel) w h).1
set_option maxRecDepth 20000 in
theorem wsL_law0_r4_in : ∀ w ∈ wsL_law0_r4, w ∈ lw_tbl := fun w h => (goodIn_p wsL_law0_r4 [566] (by decide +kernel) (by decide +kernel) w h).1
set_option maxRecDepth 20000 in
theorem wsL_law0_r5_in : ∀ w ∈ wsL_law0_r5, w ∈ lw_tbl := fun w h => (goodIn_p wsL_law0_r5 [180, 631, 209] (by decide +kernel) (by decide +kernel) w h).1
set_option maxRecDepth 20000 in
theorem wsL_law0_r6_in : ∀ w ∈ wsL_law0_r6, w ∈ lw_tbl := fun w h => (goodIn_p wsL_law0_r6 [212, 283, 292, 312, 316] (by decide +kernel) (by decide +kernel) w h).1
end
section
set_option maxRecDepth 20000 in
theorem wsL_law0_r7_in : ∀ w ∈ wsL_law0_r7, w ∈ lw_tbl := fun w h => (goodIn_p wsL_law0_r7 [320, 324, 328, 635] (by decide +kernel) (by decide +kernel) w h).1
set_option maxRecDepth 20000 in
theorem wsL_law0_r8_in : ∀ w ∈ wsL_law0_r8, w ∈ lw_tbl := fun w h => (goodIn_p wsL_law0_r8 [638, 645, 649, 653, 627] (by decide +kernel) (by decide +kernel) w h).1
set_option maxRecDepth 20000 in
theorem wsL_law0_r9_in : ∀ w ∈ wsL_law0_r9, w ∈ lw_tbl := fun w h => (goodIn_p wsL_law0_r9 [336, 340, 189, 360, 364, 193] (by decide +kernel) (by decide +kernel) w h).1
set_option maxRecDepth 20000 in
theorem wsL_law0_r10_in : ∀ w ∈ wsL_law0_r10, w ∈ lw_tbl := fun w h => (goodIn_p wsL_law0_r10 [657, 661, 185, 665, 669] (by decide +kernel) (by decide +kernel) w h).1
set_option maxRecDepth 20000 in
theorem wsL_law0_r11_in : ∀ w ∈ wsL_law0_r11, w ∈ lw_tbl := fun w h => (goodIn_p wsL_law0_r11 [673, 372, 677, 200, 681] (by decide +kernel) (by decide +kernel) w h).1
set_option maxRecDepth 20000 in
theorem wsL_law0_r12_in : ∀ w ∈ wsL_law0_r12, w ∈ lw_tbl := fun w h => (goodIn_p wsL_law0_r12 [380, 385, 389, 393, 398] (by decide +kernel) (by decide +kernel) w h).1
end
section
set_option maxRecDepth 20000 in
theorem wsL_law0_r13_in : ∀ w ∈ wsL_law0_r13, w ∈ lw_tbl := fun w h => (goodIn_p wsL_law0_r13 [403, 407, 410] (by decide +kernel) (by decide +kernel) w h).1
set_option maxRecDepth 20000 in
theorem wsL_law0_r14_in : ∀ w ∈ wsL_law0_r14, w ∈ lw_tbl := fun w h => (goodIn_p wsL_law0_r14 [420, 424, 433, 438] (by decide +kernel) (by decide +kernel) w h).1
set_option maxRecDepth 20000 in
theorem wsL_law0_r15_in : ∀ w ∈ wsL_law0_r15, w ∈ lw_tbl := fun w h => (goodIn_p wsL_law0_r15 [685, 689, 693, 446] (by decide +kernel) (by decide +kernel) w h).1
set_option maxRecDepth 20000 in
theorem wsL_law0_r16_in : ∀ w ∈ wsL_law0_r16, w ∈ lw_tbl := fun w h => (goodIn_p wsL_law0_r16 [449, 697, 458] (by decide +kernel) (by decide +kernel) w h).1
set_option maxRecDepth 20000 in
theorem wsL_law0_r17_in : ∀ w ∈ wsL_law0_r17, w ∈ lw_tbl := fun w h => (goodIn_p wsL_law0_r17 [702, 465, 706, 473] (by decide +kernel) (by decide +kernel) w h).1
set_option maxRecDepth 20000 in
theorem wsL_law0_r18_in : ∀ w ∈ wsL_law0_r18, w ∈ lw_tbl := fun w h => (goodIn_p wsL_law0_r18 [478, 711, 485, 490, 494] (by decide +kernel) (by decide +kernel) w h).1
end
section
set_option maxRecDepth 20000 in
theorem wsL_law0_r19_in : ∀ w ∈ wsL_law0_r19, w ∈ lw_tbl := fun w h => (goodIn_p wsL_law0_r19 [715, 719, 502, 723, 510] (by decide +kernel) (by decide +kernel) w h).1
set_option maxRecDepth 20000 in
theorem wsL_law0_r20_in : ∀ w ∈ wsL_law0_r20, w ∈ lw_tbl := fun w h => (goodIn_p wsL_law0_r20 [727, 518, 521, 525, 529] (by decide +kernel) (by decide +kernel) w h).1
set_option maxRecDepth 20000 in
theorem wsL_law0_r21_in : ∀ w ∈ wsL_law0_r21, w ∈ lw_tbl := fun w h => (goodIn_p wsL_law0_r21 [731, 735, 536, 541, 739] (by decide +kernel) (by decide +kernel) w h).1
set_option maxRecDepth 20000 in
theorem wsL_law0_r22_in : ∀ w ∈ wsL_law0_r22, w ∈ lw_tbl := fun w h => (goodIn_p wsL_law0_r22 [549, 743, 556, 748] (by decide +kernel) (by decide +kernel) w h).1
end
section
theorem wsL_law_x0 : ∀ w ∈ (vx_atS RX3 61 "java/lang/IllegalArgumentException" ["java/lang/RuntimeException", "java/lang/Exception"]).filter goodWord, w ∈ lw_tbl := by decide +kernel
end
section
theorem wsL_law_x1 : ∀ w ∈ (vx_atS RX3 74 "java/lang/IllegalStateException" ["java/lang/RuntimeException", "java/lang/Exception"]).filter goodWord, w ∈ lw_tbl := by decide +kernel
end
section
theorem wsL_law_x2 : ∀ w ∈ (wy_at RX3 131 "java/util/NoSuchElementException" 13 prog_18_method_4_code ["java/lang/RuntimeException", "java/lang/Exception"]).filter goodWord, w ∈ lw_tbl := by decide +kernel
end
section
theorem wsL_law_in0 : ∀ w ∈ wsL_law0, w ∈ lw_tbl := fun w h => (List.mem_append.mp h).elim (fun h => (List.mem_append.mp h).elim (fun h => (List.mem_append.mp h).elim (fun h => (List.mem_append.mp h).elim (fun h => (List.mem_append.mp h).elim (fun h => (List.mem_append.mp h).elim (fun h => (List.mem_append.mp h).elim (fun h => wsL_law0_r1_in w h) (fun h => (List.mem_append.mp h).elim (fun h => wsL_law0_r2_in w h) (fun h => (List.mem_append.mp h).elim (fun h => wsL_law0_r3_in w h) (fun h => (List.mem_append.mp h).elim (fun h => wsL_law0_r4_in w h) (fun h => (List.mem_append.mp h).elim (fun h => wsL_law0_r5_in w h) (fun h => (List.mem_append.mp h).elim (fun h => wsL_law0_r6_in w h) (fun h => (List.mem_append.mp h).elim (fun h => wsL_law0_r7_in w h) (fun h => (List.mem_append.mp h).elim (fun h => wsL_law0_r8_in w h) (fun h => (List.mem_append.mp h).elim (fun h => wsL_law0_r9_in w h) (fun h => (List.mem_append.mp h).elim (fun h => wsL_law0_r10_in w h) (fun h => (List.mem_append.mp h).elim (fun h => wsL_law0_r11_in w h) (fun h => (List.mem_append.mp h).elim (fun h => wsL_law0_r12_in w h) (fun h => (List.mem_append.mp h).elim (fun h => wsL_law0_r13_in w h) (fun h => (List.mem_append.mp h).elim (fun h => wsL_law0_r14_in w h) (fun h => (List.mem_append.mp h).elim (fun h => wsL_law0_r15_in w h) (fun h => (List.mem_append.mp h).elim (fun h => wsL_law0_r16_in w h) (fun h => (List.mem_append.mp h).elim (fun h => wsL_law0_r17_in w h) (fun h => (List.mem_append.mp h).elim (fun h => wsL_law0_r18_in w h) (fun h => (List.mem_append.mp h).elim (fun h => wsL_law0_r19_in w h) (fun h => (List.mem_append.mp h).elim (fun h => wsL_law0_r20_in w h) (fun h => (List.mem_append.mp h).elim (fun h => wsL_law0_r21_in w h) (fun h => wsL_law0_r22_in w h)))))))))))))))))))))) (fun h => wsX30_in0 w h)) (fun h => wsX40_in0 w h)) (fun h => wsX20_in0 w h)) (fun h => wsX10_in0 w h)) (fun h => wsX00_in0 w h)) (fun h => nomatch h)
theorem wsL_law_in : ∀ w ∈ wsL_law, w ∈ lw_tbl := fun w h => (List.mem_append.mp h).elim (fun h => (List.mem_append.mp h).elim (fun h => (List.mem_append.mp h).elim (fun h => wsL_law_in0 w h) (fun h => wsL_law_x0 w h)) (fun h => wsL_law_x1 w h)) (fun h => wsL_law_x2 w h)
theorem inlX0 : ∀ w ∈ wsX00, w ∈ wsL_law := fun _ h => List.mem_append_left _ (List.mem_append_left _ (List.mem_append_left _ (List.mem_append_left _ (List.mem_append_right _ h))))
theorem inX0 : ∀ w ∈ wsX00, w ∈ lw_tbl := fun w h => wsL_law_in w (inlX0 w h)
theorem inlX1 : ∀ w ∈ wsX10, w ∈ wsL_law := fun _ h => List.mem_append_left _ (List.mem_append_left _ (List.mem_append_left _ (List.mem_append_left _ (List.mem_append_left _ (List.mem_append_right _ h)))))
theorem inX1 : ∀ w ∈ wsX10, w ∈ lw_tbl := fun w h => wsL_law_in w (inlX1 w h)
theorem inlX2 : ∀ w ∈ wsX20, w ∈ wsL_law := fun _ h => List.mem_append_left _ (List.mem_append_left _ (List.mem_append_left _ (List.mem_append_left _ (List.mem_append_left _ (List.mem_append_left _ (List.mem_append_right _ h))))))
theorem inX2 : ∀ w ∈ wsX20, w ∈ lw_tbl := fun w h => wsL_law_in w (inlX2 w h)
theorem inlX3 : ∀ w ∈ wsX30, w ∈ wsL_law := fun _ h => List.mem_append_left _ (List.mem_append_left _ (List.mem_append_left _ (List.mem_append_left _ (List.mem_append_left _ (List.mem_append_left _ (List.mem_append_left _ (List.mem_append_left _ (List.mem_append_right _ h))))))))
theorem inX3 : ∀ w ∈ wsX30, w ∈ lw_tbl := fun w h => wsL_law_in w (inlX3 w h)
theorem inlX4 : ∀ w ∈ wsX40, w ∈ wsL_law := fun _ h => List.mem_append_left _ (List.mem_append_left _ (List.mem_append_left _ (List.mem_append_left _ (List.mem_append_left _ (List.mem_append_left _ (List.mem_append_left _ (List.mem_append_right _ h)))))))
theorem inX4 : ∀ w ∈ wsX40, w ∈ lw_tbl := fun w h => wsL_law_in w (inlX4 w h)
theorem inJx145de : ∀ w ∈ wsJx145de0, w ∈ lw_tbl := by decide +kernel
theorem inJx8e188 : ∀ w ∈ wsJx8e1880, w ∈ lw_tbl := by decide +kernel
theorem inJ9 : ∀ w ∈ wsJ90, w ∈ lw_tbl := by decide +kernel
theorem inJ0 : ∀ w ∈ wsJ00, w ∈ lw_tbl := by decide +kernel
theorem inJ10 : ∀ w ∈ wsJ100, w ∈ lw_tbl := by decide +kernel
theorem inJ7 : ∀ w ∈ wsJ70, w ∈ lw_tbl := by decide +kernel
end
section
theorem dX0_init_0 : decode cX0_init 0 = .ok (.aload_n 0, 1) := by decide +kernel
theorem dX0_init_1 : decode cX0_init 1 = .ok (.invokespecial 3, 3) := by decide +kernel
theorem dX0_init_4 : decode cX0_init 4 = .ok (.aload_n 0, 1) := by decide +kernel
theorem dX0_init_5 : decode cX0_init 5 = .ok (.bipush 40, 2) := by decide +kernel
theorem dX0_init_7 : decode cX0_init 7 = .ok (.newarray .int, 2) := by decide +kernel
theorem dX0_init_9 : decode cX0_init 9 = .ok (.putfield 9, 3) := by decide +kernel
theorem dX0_init_12 : decode cX0_init 12 = .ok (.aload_n 0, 1) := by decide +kernel
theorem dX0_init_13 : decode cX0_init 13 = .ok (.bipush 40, 2) := by decide +kernel
theorem dX0_init_15 : decode cX0_init 15 = .ok (.newarray .int, 2) := by decide +kernel
theorem dX0_init_17 : decode cX0_init 17 = .ok (.putfield 15, 3) := by decide +kernel
theorem dX0_init_20 : decode cX0_init 20 = .ok (.aload_n 0, 1) := by decide +kernel
theorem dX0_init_21 : decode cX0_init 21 = .ok (.bipush 40, 2) := by decide +kernel
theorem dX0_init_23 : decode cX0_init 23 = .ok (.newarray .int, 2) := by decide +kernel
theorem dX0_init_25 : decode cX0_init 25 = .ok (.putfield 18, 3) := by decide +kernel
theorem dX0_init_28 : decode cX0_init 28 = .ok (.aload_n 0, 1) := by decide +kernel
theorem dX0_init_29 : decode cX0_init 29 = .ok (.bipush 40, 2) := by decide +kernel
theorem dX0_init_31 : decode cX0_init 31 = .ok (.newarray .long, 2) := by decide +kernel
theorem dX0_init_33 : decode cX0_init 33 = .ok (.putfield 21, 3) := by decide +kernel
theorem dX0_init_36 : decode cX0_init 36 = .ok (.aload_n 0, 1) := by decide +kernel
theorem dX0_init_37 : decode cX0_init 37 = .ok (.bipush 40, 2) := by decide +kernel
theorem dX0_init_39 : decode cX0_init 39 = .ok (.newarray .long, 2) := by decide +kernel
theorem dX0_init_41 : decode cX0_init 41 = .ok (.putfield 25, 3) := by decide +kernel
theorem dX0_init_44 : decode cX0_init 44 = .ok (.aload_n 0, 1) := by decide +kernel
theorem dX0_init_45 : decode cX0_init 45 = .ok (.bipush 40, 2) := by decide +kernel
theorem dX0_init_47 : decode cX0_init 47 = .ok (.newarray .long, 2) := by decide +kernel
theorem dX0_init_49 : decode cX0_init 49 = .ok (.putfield 28, 3) := by decide +kernel
theorem dX0_init_52 : decode cX0_init 52 = .ok (.aload_n 0, 1) := by decide +kernel
theorem dX0_init_53 : decode cX0_init 53 = .ok (.bipush 40, 2) := by decide +kernel
theorem dX0_init_55 : decode cX0_init 55 = .ok (.newarray .int, 2) := by decide +kernel
theorem dX0_init_57 : decode cX0_init 57 = .ok (.putfield 31, 3) := by decide +kernel
theorem dX0_init_60 : decode cX0_init 60 = .ok (.iconst 0, 1) := by decide +kernel
theorem dX0_init_61 : decode cX0_init 61 = .ok (.istore_n 1, 1) := by decide +kernel
theorem dX0_init_62 : decode cX0_init 62 = .ok (.iload_n 1, 1) := by decide +kernel
theorem dX0_init_63 : decode cX0_init 63 = .ok (.bipush 40, 2) := by decide +kernel
theorem dX0_init_65 : decode cX0_init 65 = .ok (.if_icmp .ge 16, 3) := by decide +kernel
theorem dX0_init_68 : decode cX0_init 68 = .ok (.aload_n 0, 1) := by decide +kernel
theorem dX0_init_69 : decode cX0_init 69 = .ok (.getfield 9, 3) := by decide +kernel
theorem dX0_init_72 : decode cX0_init 72 = .ok (.iload_n 1, 1) := by decide +kernel
theorem dX0_init_73 : decode cX0_init 73 = .ok (.iload_n 1, 1) := by decide +kernel
theorem dX0_init_74 : decode cX0_init 74 = .ok (.iastore, 1) := by decide +kernel
theorem dX0_init_75 : decode cX0_init 75 = .ok (.iinc 1 1, 3) := by decide +kernel
theorem dX0_init_78 : decode cX0_init 78 = .ok (.goto (-16), 3) := by decide +kernel
theorem dX0_init_81 : decode cX0_init 81 = .ok (.aload_n 0, 1) := by decide +kernel
theorem dX0_init_82 : decode cX0_init 82 = .ok (.iconst 0, 1) := by decide +kernel
theorem dX0_init_83 : decode cX0_init 83 = .ok (.putfield 34, 3) := by decide +kernel
theorem dX0_init_86 : decode cX0_init 86 = .ok (.return_, 1) := by decide +kernel
theorem dX0_isFull_0 : decode cX0_isFull 0 = .ok (.aload_n 0, 1) := by decide +kernel
theorem dX0_isFull_1 : decode cX0_isFull 1 = .ok (.getfield 34, 3) := by decide +kernel
theorem dX0_isFull_4 : decode cX0_isFull 4 = .ok (.bipush 40, 2) := by decide +kernel
theorem dX0_isFull_6 : decode cX0_isFull 6 = .ok (.if_icmp .lt 7, 3) := by decide +kernel
theorem dX0_isFull_9 : decode cX0_isFull 9 = .ok (.iconst 1, 1) := by decide +kernel
theorem dX0_isFull_10 : decode cX0_isFull 10 = .ok (.goto 4, 3) := by decide +kernel
theorem dX0_isFull_13 : decode cX0_isFull 13 = .ok (.iconst 0, 1) := by decide +kernel
theorem dX0_isFull_14 : decode cX0_isFull 14 = .ok (.ireturn, 1) := by decide +kernel
theorem dX0_timeAt_0 : decode cX0_timeAt 0 = .ok (.aload_n 0, 1) := by decide +kernel
theorem dX0_timeAt_1 : decode cX0_timeAt 1 = .ok (.getfield 25, 3) := by decide +kernel
theorem dX0_timeAt_4 : decode cX0_timeAt 4 = .ok (.aload_n 0, 1) := by decide +kernel
theorem dX0_timeAt_5 : decode cX0_timeAt 5 = .ok (.getfield 9, 3) := by decide +kernel
theorem dX0_timeAt_8 : decode cX0_timeAt 8 = .ok (.iload_n 1, 1) := by decide +kernel
theorem dX0_timeAt_9 : decode cX0_timeAt 9 = .ok (.iaload, 1) := by decide +kernel
theorem dX0_timeAt_10 : decode cX0_timeAt 10 = .ok (.laload, 1) := by decide +kernel
theorem dX0_timeAt_11 : decode cX0_timeAt 11 = .ok (.lreturn, 1) := by decide +kernel
set_option maxRecDepth 20000 in
theorem ggX0_enter_X0_sortInFirstFree : GoodIn wsX0_enter wsX0_sortInFirstFree := goodIn_r _ [13, 1, 2, 14, 15, 16, 17, 18, 19, 20, 12, 21, 22, 23, 24, 25, 6, 5, 3, 26, 27, 28, 29, 30, 31, 32, 33] (by decide +kernel) (by decide +kernel)
set_option maxRecDepth 20000 in
theorem gX0_enter_X0_sortInFirstFree : GoodIn wsX0_enter (wsV RX0 38 RX0 yX0_sortInFirstFree wsX0_sortInFirstFree) := goodIn_app (goodIn_of _ (by decide +kernel)) ggX0_enter_X0_sortInFirstFree
theorem dX0_enter_0 : decode cX0_enter 0 = .ok (.aload_n 0, 1) := by decide +kernel
theorem dX0_enter_1 : decode cX0_enter 1 = .ok (.getfield 9, 3) := by decide +kernel
theorem dX0_enter_4 : decode cX0_enter 4 = .ok (.aload_n 0, 1) := by decide +kernel
theorem dX0_enter_5 : decode cX0_enter 5 = .ok (.getfield 34, 3) := by decide +kernel
theorem dX0_enter_8 : decode cX0_enter 8 = .ok (.iaload, 1) := by decide +kernel
theorem dX0_enter_9 : decode cX0_enter 9 = .ok (.istore 10, 2) := by decide +kernel
theorem dX0_enter_11 : decode cX0_enter 11 = .ok (.aload_n 0, 1) := by decide +kernel
theorem dX0_enter_12 : decode cX0_enter 12 = .ok (.getfield 15, 3) := by decide +kernel
theorem dX0_enter_15 : decode cX0_enter 15 = .ok (.iload 10, 2) := by decide +kernel
theorem dX0_enter_17 : decode cX0_enter 17 = .ok (.iload_n 1, 1) := by decide +kernel
theorem dX0_enter_18 : decode cX0_enter 18 = .ok (.iastore, 1) := by decide +kernel
theorem dX0_enter_19 : decode cX0_enter 19 = .ok (.aload_n 0, 1) := by decide +kernel
theorem dX0_enter_20 : decode cX0_enter 20 = .ok (.getfield 18, 3) := by decide +kernel
theorem dX0_enter_23 : decode cX0_enter 23 = .ok (.iload 10, 2) := by decide +kernel
theorem dX0_enter_25 : decode cX0_enter 25 = .ok (.iload_n 2, 1) := by decide +kernel
theorem dX0_enter_26 : decode cX0_enter 26 = .ok (.iastore, 1) := by decide +kernel
theorem dX0_enter_27 : decode cX0_enter 27 = .ok (.aload_n 0, 1) := by decide +kernel
theorem dX0_enter_28 : decode cX0_enter 28 = .ok (.getfield 21, 3) := by decide +kernel
theorem dX0_enter_31 : decode cX0_enter 31 = .ok (.iload 10, 2) := by decide +kernel
theorem dX0_enter_33 : decode cX0_enter 33 = .ok (.lload_n 3, 1) := by decide +kernel
theorem dX0_enter_34 : decode cX0_enter 34 = .ok (.lastore, 1) := by decide +kernel
theorem dX0_enter_35 : decode cX0_enter 35 = .ok (.aload_n 0, 1) := by decide +kernel
theorem dX0_enter_36 : decode cX0_enter 36 = .ok (.getfield 25, 3) := by decide +kernel
theorem dX0_enter_39 : decode cX0_enter 39 = .ok (.iload 10, 2) := by decide +kernel
theorem dX0_enter_41 : decode cX0_enter 41 = .ok (.lload 5, 2) := by decide +kernel
theorem dX0_enter_43 : decode cX0_enter 43 = .ok (.lastore, 1) := by decide +kernel
theorem dX0_enter_44 : decode cX0_enter 44 = .ok (.aload_n 0, 1) := by decide +kernel
theorem dX0_enter_45 : decode cX0_enter 45 = .ok (.getfield 28, 3) := by decide +kernel
theorem dX0_enter_48 : decode cX0_enter 48 = .ok (.iload 10, 2) := by decide +kernel
theorem dX0_enter_50 : decode cX0_enter 50 = .ok (.lload 7, 2) := by decide +kernel
theorem dX0_enter_52 : decode cX0_enter 52 = .ok (.lastore, 1) := by decide +kernel
theorem dX0_enter_53 : decode cX0_enter 53 = .ok (.aload_n 0, 1) := by decide +kernel
theorem dX0_enter_54 : decode cX0_enter 54 = .ok (.getfield 31, 3) := by decide +kernel
theorem dX0_enter_57 : decode cX0_enter 57 = .ok (.iload 10, 2) := by decide +kernel
theorem dX0_enter_59 : decode cX0_enter 59 = .ok (.iload 9, 2) := by decide +kernel
theorem dX0_enter_61 : decode cX0_enter 61 = .ok (.iastore, 1) := by decide +kernel
theorem dX0_enter_62 : decode cX0_enter 62 = .ok (.aload_n 0, 1) := by decide +kernel
theorem dX0_enter_63 : decode cX0_enter 63 = .ok (.invokevirtual 38, 3) := by decide +kernel
theorem dX0_enter_66 : decode cX0_enter 66 = .ok (.return_, 1) := by decide +kernel
theorem dX0_leave_0 : decode cX0_leave 0 = .ok (.aload_n 0, 1) := by decide +kernel
theorem dX0_leave_1 : decode cX0_leave 1 = .ok (.getfield 9, 3) := by decide +kernel
theorem dX0_leave_4 : decode cX0_leave 4 = .ok (.iload_n 1, 1) := by decide +kernel
theorem dX0_leave_5 : decode cX0_leave 5 = .ok (.iaload, 1) := by decide +kernel
theorem dX0_leave_6 : decode cX0_leave 6 = .ok (.istore_n 2, 1) := by decide +kernel
theorem dX0_leave_7 : decode cX0_leave 7 = .ok (.aload_n 0, 1) := by decide +kernel
theorem dX0_leave_8 : decode cX0_leave 8 = .ok (.getfield 9, 3) := by decide +kernel
theorem dX0_leave_11 : decode cX0_leave 11 = .ok (.iload_n 1, 1) := by decide +kernel
theorem dX0_leave_12 : decode cX0_leave 12 = .ok (.iconst 1, 1) := by decide +kernel
theorem dX0_leave_13 : decode cX0_leave 13 = .ok (.iadd, 1) := by decide +kernel
theorem dX0_leave_14 : decode cX0_leave 14 = .ok (.aload_n 0, 1) := by decide +kernel
theorem dX0_leave_15 : decode cX0_leave 15 = .ok (.getfield 9, 3) := by decide +kernel
theorem dX0_leave_18 : decode cX0_leave 18 = .ok (.iload_n 1, 1) := by decide +kernel
theorem dX0_leave_19 : decode cX0_leave 19 = .ok (.aload_n 0, 1) := by decide +kernel
theorem dX0_leave_20 : decode cX0_leave 20 = .ok (.getfield 34, 3) := by decide +kernel
theorem dX0_leave_23 : decode cX0_leave 23 = .ok (.iload_n 1, 1) := by decide +kernel
theorem dX0_leave_24 : decode cX0_leave 24 = .ok (.isub, 1) := by decide +kernel
theorem dX0_leave_25 : decode cX0_leave 25 = .ok (.iconst 1, 1) := by decide +kernel
theorem dX0_leave_26 : decode cX0_leave 26 = .ok (.isub, 1) := by decide +kernel
theorem dX0_leave_27 : decode cX0_leave 27 = .ok (.invokestatic 41, 3) := by decide +kernel
theorem dX0_leave_30 : decode cX0_leave 30 = .ok (.aload_n 0, 1) := by decide +kernel
theorem dX0_leave_31 : decode cX0_leave 31 = .ok (.dup, 1) := by decide +kernel
theorem dX0_leave_32 : decode cX0_leave 32 = .ok (.getfield 34, 3) := by decide +kernel
theorem dX0_leave_35 : decode cX0_leave 35 = .ok (.iconst 1, 1) := by decide +kernel
theorem dX0_leave_36 : decode cX0_leave 36 = .ok (.isub, 1) := by decide +kernel
theorem dX0_leave_37 : decode cX0_leave 37 = .ok (.putfield 34, 3) := by decide +kernel
theorem dX0_leave_40 : decode cX0_leave 40 = .ok (.aload_n 0, 1) := by decide +kernel
theorem dX0_leave_41 : decode cX0_leave 41 = .ok (.getfield 9, 3) := by decide +kernel
theorem dX0_leave_44 : decode cX0_leave 44 = .ok (.aload_n 0, 1) := by decide +kernel
theorem dX0_leave_45 : decode cX0_leave 45 = .ok (.getfield 34, 3) := by decide +kernel
theorem dX0_leave_48 : decode cX0_leave 48 = .ok (.iload_n 2, 1) := by decide +kernel
theorem dX0_leave_49 : decode cX0_leave 49 = .ok (.iastore, 1) := by decide +kernel
theorem dX0_leave_50 : decode cX0_leave 50 = .ok (.return_, 1) := by decide +kernel
set_option maxRecDepth 20000 in
theorem ggX0_retime_X0_leave : GoodIn wsX0_retime wsX0_leave := goodIn_r _ [8, 2, 3, 9, 10, 11, 12, 27, 28, 29, 30, 31, 32, 33, 34] (by decide +kernel) (by decide +kernel)
set_option maxRecDepth 20000 in
theorem gX0_retime_X0_leave : GoodIn wsX0_retime (wsV RX0 47 RX0 yX0_leave wsX0_leave) := goodIn_app (goodIn_of _ (by decide +kernel)) ggX0_retime_X0_leave
set_option maxRecDepth 20000 in
theorem ggX0_retime_X0_sortInFirstFree : GoodIn wsX0_retime wsX0_sortInFirstFree := goodIn_r _ [16, 2, 3, 9, 10, 11, 12, 17, 18, 19, 7, 20, 21, 22, 23, 24, 1, 25, 26, 27, 28, 29, 30, 31, 32, 33, 34] (by decide +kernel) (by decide +kernel)
set_option maxRecDepth 20000 in
theorem gX0_retime_X0_sortInFirstFree : GoodIn wsX0_retime (wsV RX0 38 RX0 yX0_sortInFirstFree wsX0_sortInFirstFree) := goodIn_app (goodIn_of _ (by decide +kernel)) ggX0_retime_X0_sortInFirstFree
theorem dX0_retime_0 : decode cX0_retime 0 = .ok (.aload_n 0, 1) := by decide +kernel
theorem dX0_retime_1 : decode cX0_retime 1 = .ok (.iload_n 1, 1) := by decide +kernel
theorem dX0_retime_2 : decode cX0_retime 2 = .ok (.invokevirtual 47, 3) := by decide +kernel
theorem dX0_retime_5 : decode cX0_retime 5 = .ok (.aload_n 0, 1) := by decide +kernel
theorem dX0_retime_6 : decode cX0_retime 6 = .ok (.getfield 25, 3) := by decide +kernel
theorem dX0_retime_9 : decode cX0_retime 9 = .ok (.aload_n 0, 1) := by decide +kernel
theorem dX0_retime_10 : decode cX0_retime 10 = .ok (.getfield 9, 3) := by decide +kernel
theorem dX0_retime_13 : decode cX0_retime 13 = .ok (.aload_n 0, 1) := by decide +kernel
theorem dX0_retime_14 : decode cX0_retime 14 = .ok (.getfield 34, 3) := by decide +kernel
theorem dX0_retime_17 : decode cX0_retime 17 = .ok (.iaload, 1) := by decide +kernel
theorem dX0_retime_18 : decode cX0_retime 18 = .ok (.lload_n 2, 1) := by decide +kernel
theorem dX0_retime_19 : decode cX0_retime 19 = .ok (.lastore, 1) := by decide +kernel
theorem dX0_retime_20 : decode cX0_retime 20 = .ok (.aload_n 0, 1) := by decide +kernel
theorem dX0_retime_21 : decode cX0_retime 21 = .ok (.invokevirtual 38, 3) := by decide +kernel
theorem dX0_retime_24 : decode cX0_retime 24 = .ok (.return_, 1) := by decide +kernel
set_option maxRecDepth 20000 in
theorem ggX0_setAgain_X0_leave : GoodIn wsX0_setAgain wsX0_leave := goodIn_r _ [11, 1, 2, 12, 13, 14, 15, 29, 30, 31, 32, 33, 34, 35, 36] (by decide +kernel) (by decide +kernel)
set_option maxRecDepth 20000 in
theorem gX0_setAgain_X0_leave : GoodIn wsX0_setAgain (wsV RX0 47 RX0 yX0_leave wsX0_leave) := goodIn_app (goodIn_of _ (by decide +kernel)) ggX0_setAgain_X0_leave
set_option maxRecDepth 20000 in
theorem ggX0_setAgain_X0_sortInFirstFree : GoodIn wsX0_setAgain wsX0_sortInFirstFree := goodIn_r _ [19, 1, 2, 12, 13, 14, 15, 20, 21, 22, 10, 23, 24, 25, 26, 27, 4, 28, 3, 29, 30, 31, 32, 33, 34, 35, 36] (by decide +kernel) (by decide +kernel)
set_option maxRecDepth 20000 in
theorem gX0_setAgain_X0_sortInFirstFree : GoodIn wsX0_setAgain (wsV RX0 38 RX0 yX0_sortInFirstFree wsX0_sortInFirstFree) := goodIn_app (goodIn_of _ (by decide +kernel)) ggX0_setAgain_X0_sortInFirstFree
theorem dX0_setAgain_0 : decode cX0_setAgain 0 = .ok (.aload_n 0, 1) := by decide +kernel
theorem dX0_setAgain_1 : decode cX0_setAgain 1 = .ok (.iload_n 1, 1) := by decide +kernel
theorem dX0_setAgain_2 : decode cX0_setAgain 2 = .ok (.invokevirtual 47, 3) := by decide +kernel
theorem dX0_setAgain_5 : decode cX0_setAgain 5 = .ok (.aload_n 0, 1) := by decide +kernel
theorem dX0_setAgain_6 : decode cX0_setAgain 6 = .ok (.getfield 9, 3) := by decide +kernel
theorem dX0_setAgain_9 : decode cX0_setAgain 9 = .ok (.aload_n 0, 1) := by decide +kernel
theorem dX0_setAgain_10 : decode cX0_setAgain 10 = .ok (.getfield 34, 3) := by decide +kernel
theorem dX0_setAgain_13 : decode cX0_setAgain 13 = .ok (.iaload, 1) := by decide +kernel
theorem dX0_setAgain_14 : decode cX0_setAgain 14 = .ok (.istore_n 3, 1) := by decide +kernel
theorem dX0_setAgain_15 : decode cX0_setAgain 15 = .ok (.aload_n 0, 1) := by decide +kernel
theorem dX0_setAgain_16 : decode cX0_setAgain 16 = .ok (.getfield 15, 3) := by decide +kernel
theorem dX0_setAgain_19 : decode cX0_setAgain 19 = .ok (.iload_n 3, 1) := by decide +kernel
theorem dX0_setAgain_20 : decode cX0_setAgain 20 = .ok (.iload_n 2, 1) := by decide +kernel
theorem dX0_setAgain_21 : decode cX0_setAgain 21 = .ok (.iastore, 1) := by decide +kernel
theorem dX0_setAgain_22 : decode cX0_setAgain 22 = .ok (.aload_n 0, 1) := by decide +kernel
theorem dX0_setAgain_23 : decode cX0_setAgain 23 = .ok (.getfield 25, 3) := by decide +kernel
theorem dX0_setAgain_26 : decode cX0_setAgain 26 = .ok (.iload_n 3, 1) := by decide +kernel
theorem dX0_setAgain_27 : decode cX0_setAgain 27 = .ok (.dup2, 1) := by decide +kernel
theorem dX0_setAgain_28 : decode cX0_setAgain 28 = .ok (.laload, 1) := by decide +kernel
theorem dX0_setAgain_29 : decode cX0_setAgain 29 = .ok (.aload_n 0, 1) := by decide +kernel
theorem dX0_setAgain_30 : decode cX0_setAgain 30 = .ok (.getfield 28, 3) := by decide +kernel
theorem dX0_setAgain_33 : decode cX0_setAgain 33 = .ok (.iload_n 3, 1) := by decide +kernel
theorem dX0_setAgain_34 : decode cX0_setAgain 34 = .ok (.laload, 1) := by decide +kernel
theorem dX0_setAgain_35 : decode cX0_setAgain 35 = .ok (.ladd, 1) := by decide +kernel
theorem dX0_setAgain_36 : decode cX0_setAgain 36 = .ok (.lastore, 1) := by decide +kernel
theorem dX0_setAgain_37 : decode cX0_setAgain 37 = .ok (.aload_n 0, 1) := by decide +kernel
theorem dX0_setAgain_38 : decode cX0_setAgain 38 = .ok (.getfield 31, 3) := by decide +kernel
theorem dX0_setAgain_41 : decode cX0_setAgain 41 = .ok (.iload_n 3, 1) := by decide +kernel
theorem dX0_setAgain_42 : decode cX0_setAgain 42 = .ok (.dup2, 1) := by decide +kernel
theorem dX0_setAgain_43 : decode cX0_setAgain 43 = .ok (.iaload, 1) := by decide +kernel
theorem dX0_setAgain_44 : decode cX0_setAgain 44 = .ok (.iconst 1, 1) := by decide +kernel
theorem dX0_setAgain_45 : decode cX0_setAgain 45 = .ok (.isub, 1) := by decide +kernel
theorem dX0_setAgain_46 : decode cX0_setAgain 46 = .ok (.iastore, 1) := by decide +kernel
theorem dX0_setAgain_47 : decode cX0_setAgain 47 = .ok (.aload_n 0, 1) := by decide +kernel
theorem dX0_setAgain_48 : decode cX0_setAgain 48 = .ok (.invokevirtual 38, 3) := by decide +kernel
theorem dX0_setAgain_51 : decode cX0_setAgain 51 = .ok (.return_, 1) := by decide +kernel
set_option maxRecDepth 20000 in
theorem ggX0_sortInFirstFree_X0_countAheadOf : GoodIn wsX0_sortInFirstFree wsX0_countAheadOf := goodIn_r _ [11, 2, 1, 12, 13, 14, 10, 15, 16, 17, 18, 19, 20, 21, 22, 23, 24, 25, 26] (by decide +kernel) (by decide +kernel)
set_option maxRecDepth 20000 in
theorem gX0_sortInFirstFree_X0_countAheadOf : GoodIn wsX0_sortInFirstFree (wsV RX0 51 RX0 yX0_countAheadOf wsX0_countAheadOf) := goodIn_app (goodIn_of _ (by decide +kernel)) ggX0_sortInFirstFree_X0_countAheadOf
theorem dX0_sortInFirstFree_0 : decode cX0_sortInFirstFree 0 = .ok (.aload_n 0, 1) := by decide +kernel
theorem dX0_sortInFirstFree_1 : decode cX0_sortInFirstFree 1 = .ok (.getfield 9, 3) := by decide +kernel
theorem dX0_sortInFirstFree_4 : decode cX0_sortInFirstFree 4 = .ok (.aload_n 0, 1) := by decide +kernel
theorem dX0_sortInFirstFree_5 : decode cX0_sortInFirstFree 5 = .ok (.getfield 34, 3) := by decide +kernel
theorem dX0_sortInFirstFree_8 : decode cX0_sortInFirstFree 8 = .ok (.iaload, 1) := by decide +kernel
theorem dX0_sortInFirstFree_9 : decode cX0_sortInFirstFree 9 = .ok (.istore_n 1, 1) := by decide +kernel
theorem dX0_sortInFirstFree_10 : decode cX0_sortInFirstFree 10 = .ok (.aload_n 0, 1) := by decide +kernel
theorem dX0_sortInFirstFree_11 : decode cX0_sortInFirstFree 11 = .ok (.iload_n 1, 1) := by decide +kernel
theorem dX0_sortInFirstFree_12 : decode cX0_sortInFirstFree 12 = .ok (.invokevirtual 51, 3) := by decide +kernel
theorem dX0_sortInFirstFree_15 : decode cX0_sortInFirstFree 15 = .ok (.istore_n 2, 1) := by decide +kernel
theorem dX0_sortInFirstFree_16 : decode cX0_sortInFirstFree 16 = .ok (.aload_n 0, 1) := by decide +kernel
theorem dX0_sortInFirstFree_17 : decode cX0_sortInFirstFree 17 = .ok (.getfield 9, 3) := by decide +kernel
theorem dX0_sortInFirstFree_20 : decode cX0_sortInFirstFree 20 = .ok (.iload_n 2, 1) := by decide +kernel
theorem dX0_sortInFirstFree_21 : decode cX0_sortInFirstFree 21 = .ok (.aload_n 0, 1) := by decide +kernel
theorem dX0_sortInFirstFree_22 : decode cX0_sortInFirstFree 22 = .ok (.getfield 9, 3) := by decide +kernel
theorem dX0_sortInFirstFree_25 : decode cX0_sortInFirstFree 25 = .ok (.iload_n 2, 1) := by decide +kernel
theorem dX0_sortInFirstFree_26 : decode cX0_sortInFirstFree 26 = .ok (.iconst 1, 1) := by decide +kernel
theorem dX0_sortInFirstFree_27 : decode cX0_sortInFirstFree 27 = .ok (.iadd, 1) := by decide +kernel
theorem dX0_sortInFirstFree_28 : decode cX0_sortInFirstFree 28 = .ok (.aload_n 0, 1) := by decide +kernel
theorem dX0_sortInFirstFree_29 : decode cX0_sortInFirstFree 29 = .ok (.getfield 34, 3) := by decide +kernel
theorem dX0_sortInFirstFree_32 : decode cX0_sortInFirstFree 32 = .ok (.iload_n 2, 1) := by decide +kernel
theorem dX0_sortInFirstFree_33 : decode cX0_sortInFirstFree 33 = .ok (.isub, 1) := by decide +kernel
theorem dX0_sortInFirstFree_34 : decode cX0_sortInFirstFree 34 = .ok (.invokestatic 41, 3) := by decide +kernel
theorem dX0_sortInFirstFree_37 : decode cX0_sortInFirstFree 37 = .ok (.aload_n 0, 1) := by decide +kernel
theorem dX0_sortInFirstFree_38 : decode cX0_sortInFirstFree 38 = .ok (.getfield 9, 3) := by decide +kernel
theorem dX0_sortInFirstFree_41 : decode cX0_sortInFirstFree 41 = .ok (.iload_n 2, 1) := by decide +kernel
theorem dX0_sortInFirstFree_42 : decode cX0_sortInFirstFree 42 = .ok (.iload_n 1, 1) := by decide +kernel
theorem dX0_sortInFirstFree_43 : decode cX0_sortInFirstFree 43 = .ok (.iastore, 1) := by decide +kernel
theorem dX0_sortInFirstFree_44 : decode cX0_sortInFirstFree 44 = .ok (.aload_n 0, 1) := by decide +kernel
theorem dX0_sortInFirstFree_45 : decode cX0_sortInFirstFree 45 = .ok (.dup, 1) := by decide +kernel
theorem dX0_sortInFirstFree_46 : decode cX0_sortInFirstFree 46 = .ok (.getfield 34, 3) := by decide +kernel
theorem dX0_sortInFirstFree_49 : decode cX0_sortInFirstFree 49 = .ok (.iconst 1, 1) := by decide +kernel
theorem dX0_sortInFirstFree_50 : decode cX0_sortInFirstFree 50 = .ok (.iadd, 1) := by decide +kernel
theorem dX0_sortInFirstFree_51 : decode cX0_sortInFirstFree 51 = .ok (.putfield 34, 3) := by decide +kernel
theorem dX0_sortInFirstFree_54 : decode cX0_sortInFirstFree 54 = .ok (.return_, 1) := by decide +kernel
set_option maxRecDepth 20000 in
theorem ggX0_countAheadOf_X0_goesAhead : GoodIn wsX0_countAheadOf wsX0_goesAhead := goodIn_r _ [7, 8, 9, 10, 11, 12, 13, 14, 15, 16, 17, 18] (by decide +kernel) (by decide +kernel)
set_option maxRecDepth 20000 in
theorem gX0_countAheadOf_X0_goesAhead : GoodIn wsX0_countAheadOf (wsV RX0 55 RX0 yX0_goesAhead wsX0_goesAhead) := goodIn_app (goodIn_of _ (by decide +kernel)) ggX0_countAheadOf_X0_goesAhead
theorem dX0_countAheadOf_0 : decode cX0_countAheadOf 0 = .ok (.iconst 0, 1) := by decide +kernel
theorem dX0_countAheadOf_1 : decode cX0_countAheadOf 1 = .ok (.istore_n 2, 1) := by decide +kernel
theorem dX0_countAheadOf_2 : decode cX0_countAheadOf 2 = .ok (.bipush 32, 2) := by decide +kernel
theorem dX0_countAheadOf_4 : decode cX0_countAheadOf 4 = .ok (.istore_n 3, 1) := by decide +kernel
theorem dX0_countAheadOf_5 : decode cX0_countAheadOf 5 = .ok (.iload_n 3, 1) := by decide +kernel
theorem dX0_countAheadOf_6 : decode cX0_countAheadOf 6 = .ok (.ifCond .le 44, 3) := by decide +kernel
theorem dX0_countAheadOf_9 : decode cX0_countAheadOf 9 = .ok (.iload_n 2, 1) := by decide +kernel
theorem dX0_countAheadOf_10 : decode cX0_countAheadOf 10 = .ok (.iload_n 3, 1) := by decide +kernel
theorem dX0_countAheadOf_11 : decode cX0_countAheadOf 11 = .ok (.iadd, 1) := by decide +kernel
theorem dX0_countAheadOf_12 : decode cX0_countAheadOf 12 = .ok (.istore 4, 2) := by decide +kernel
theorem dX0_countAheadOf_14 : decode cX0_countAheadOf 14 = .ok (.iload 4, 2) := by decide +kernel
theorem dX0_countAheadOf_16 : decode cX0_countAheadOf 16 = .ok (.aload_n 0, 1) := by decide +kernel
theorem dX0_countAheadOf_17 : decode cX0_countAheadOf 17 = .ok (.getfield 34, 3) := by decide +kernel
theorem dX0_countAheadOf_20 : decode cX0_countAheadOf 20 = .ok (.if_icmp .gt 23, 3) := by decide +kernel
theorem dX0_countAheadOf_23 : decode cX0_countAheadOf 23 = .ok (.aload_n 0, 1) := by decide +kernel
theorem dX0_countAheadOf_24 : decode cX0_countAheadOf 24 = .ok (.aload_n 0, 1) := by decide +kernel
theorem dX0_countAheadOf_25 : decode cX0_countAheadOf 25 = .ok (.getfield 9, 3) := by decide +kernel
theorem dX0_countAheadOf_28 : decode cX0_countAheadOf 28 = .ok (.iload 4, 2) := by decide +kernel
theorem dX0_countAheadOf_30 : decode cX0_countAheadOf 30 = .ok (.iconst 1, 1) := by decide +kernel
theorem dX0_countAheadOf_31 : decode cX0_countAheadOf 31 = .ok (.isub, 1) := by decide +kernel
theorem dX0_countAheadOf_32 : decode cX0_countAheadOf 32 = .ok (.iaload, 1) := by decide +kernel
theorem dX0_countAheadOf_33 : decode cX0_countAheadOf 33 = .ok (.iload_n 1, 1) := by decide +kernel
theorem dX0_countAheadOf_34 : decode cX0_countAheadOf 34 = .ok (.invokevirtual 55, 3) := by decide +kernel
theorem dX0_countAheadOf_37 : decode cX0_countAheadOf 37 = .ok (.ifCond .eq 6, 3) := by decide +kernel
theorem dX0_countAheadOf_40 : decode cX0_countAheadOf 40 = .ok (.iload 4, 2) := by decide +kernel
theorem dX0_countAheadOf_42 : decode cX0_countAheadOf 42 = .ok (.istore_n 2, 1) := by decide +kernel
theorem dX0_countAheadOf_43 : decode cX0_countAheadOf 43 = .ok (.iload_n 3, 1) := by decide +kernel
theorem dX0_countAheadOf_44 : decode cX0_countAheadOf 44 = .ok (.iconst 2, 1) := by decide +kernel
theorem dX0_countAheadOf_45 : decode cX0_countAheadOf 45 = .ok (.idiv, 1) := by decide +kernel
theorem dX0_countAheadOf_46 : decode cX0_countAheadOf 46 = .ok (.istore_n 3, 1) := by decide +kernel
theorem dX0_countAheadOf_47 : decode cX0_countAheadOf 47 = .ok (.goto (-42), 3) := by decide +kernel
theorem dX0_countAheadOf_50 : decode cX0_countAheadOf 50 = .ok (.iload_n 2, 1) := by decide +kernel
theorem dX0_countAheadOf_51 : decode cX0_countAheadOf 51 = .ok (.ireturn, 1) := by decide +kernel
theorem dX0_goesAhead_0 : decode cX0_goesAhead 0 = .ok (.aload_n 0, 1) := by decide +kernel
theorem dX0_goesAhead_1 : decode cX0_goesAhead 1 = .ok (.getfield 25, 3) := by decide +kernel
theorem dX0_goesAhead_4 : decode cX0_goesAhead 4 = .ok (.iload_n 1, 1) := by decide +kernel
theorem dX0_goesAhead_5 : decode cX0_goesAhead 5 = .ok (.laload, 1) := by decide +kernel
theorem dX0_goesAhead_6 : decode cX0_goesAhead 6 = .ok (.aload_n 0, 1) := by decide +kernel
theorem dX0_goesAhead_7 : decode cX0_goesAhead 7 = .ok (.getfield 25, 3) := by decide +kernel
theorem dX0_goesAhead_10 : decode cX0_goesAhead 10 = .ok (.iload_n 2, 1) := by decide +kernel
theorem dX0_goesAhead_11 : decode cX0_goesAhead 11 = .ok (.laload, 1) := by decide +kernel
theorem dX0_goesAhead_12 : decode cX0_goesAhead 12 = .ok (.lcmp, 1) := by decide +kernel
theorem dX0_goesAhead_13 : decode cX0_goesAhead 13 = .ok (.ifCond .eq 25, 3) := by decide +kernel
theorem dX0_goesAhead_16 : decode cX0_goesAhead 16 = .ok (.aload_n 0, 1) := by decide +kernel
theorem dX0_goesAhead_17 : decode cX0_goesAhead 17 = .ok (.getfield 25, 3) := by decide +kernel
theorem dX0_goesAhead_20 : decode cX0_goesAhead 20 = .ok (.iload_n 1, 1) := by decide +kernel
theorem dX0_goesAhead_21 : decode cX0_goesAhead 21 = .ok (.laload, 1) := by decide +kernel
theorem dX0_goesAhead_22 : decode cX0_goesAhead 22 = .ok (.aload_n 0, 1) := by decide +kernel
theorem dX0_goesAhead_23 : decode cX0_goesAhead 23 = .ok (.getfield 25, 3) := by decide +kernel
theorem dX0_goesAhead_26 : decode cX0_goesAhead 26 = .ok (.iload_n 2, 1) := by decide +kernel
theorem dX0_goesAhead_27 : decode cX0_goesAhead 27 = .ok (.laload, 1) := by decide +kernel
theorem dX0_goesAhead_28 : decode cX0_goesAhead 28 = .ok (.lcmp, 1) := by decide +kernel
theorem dX0_goesAhead_29 : decode cX0_goesAhead 29 = .ok (.ifCond .ge 7, 3) := by decide +kernel
theorem dX0_goesAhead_32 : decode cX0_goesAhead 32 = .ok (.iconst 1, 1) := by decide +kernel
theorem dX0_goesAhead_33 : decode cX0_goesAhead 33 = .ok (.goto 4, 3) := by decide +kernel
theorem dX0_goesAhead_36 : decode cX0_goesAhead 36 = .ok (.iconst 0, 1) := by decide +kernel
theorem dX0_goesAhead_37 : decode cX0_goesAhead 37 = .ok (.ireturn, 1) := by decide +kernel
theorem dX0_goesAhead_38 : decode cX0_goesAhead 38 = .ok (.aload_n 0, 1) := by decide +kernel
theorem dX0_goesAhead_39 : decode cX0_goesAhead 39 = .ok (.getfield 21, 3) := by decide +kernel
theorem dX0_goesAhead_42 : decode cX0_goesAhead 42 = .ok (.iload_n 1, 1) := by decide +kernel
theorem dX0_goesAhead_43 : decode cX0_goesAhead 43 = .ok (.laload, 1) := by decide +kernel
theorem dX0_goesAhead_44 : decode cX0_goesAhead 44 = .ok (.aload_n 0, 1) := by decide +kernel
theorem dX0_goesAhead_45 : decode cX0_goesAhead 45 = .ok (.getfield 21, 3) := by decide +kernel
theorem dX0_goesAhead_48 : decode cX0_goesAhead 48 = .ok (.iload_n 2, 1) := by decide +kernel
theorem dX0_goesAhead_49 : decode cX0_goesAhead 49 = .ok (.laload, 1) := by decide +kernel
theorem dX0_goesAhead_50 : decode cX0_goesAhead 50 = .ok (.lcmp, 1) := by decide +kernel
theorem dX0_goesAhead_51 : decode cX0_goesAhead 51 = .ok (.ifCond .eq 25, 3) := by decide +kernel
theorem dX0_goesAhead_54 : decode cX0_goesAhead 54 = .ok (.aload_n 0, 1) := by decide +kernel
theorem dX0_goesAhead_55 : decode cX0_goesAhead 55 = .ok (.getfield 21, 3) := by decide +kernel
theorem dX0_goesAhead_58 : decode cX0_goesAhead 58 = .ok (.iload_n 1, 1) := by decide +kernel
theorem dX0_goesAhead_59 : decode cX0_goesAhead 59 = .ok (.laload, 1) := by decide +kernel
theorem dX0_goesAhead_60 : decode cX0_goesAhead 60 = .ok (.aload_n 0, 1) := by decide +kernel
theorem dX0_goesAhead_61 : decode cX0_goesAhead 61 = .ok (.getfield 21, 3) := by decide +kernel
theorem dX0_goesAhead_64 : decode cX0_goesAhead 64 = .ok (.iload_n 2, 1) := by decide +kernel
theorem dX0_goesAhead_65 : decode cX0_goesAhead 65 = .ok (.laload, 1) := by decide +kernel
theorem dX0_goesAhead_66 : decode cX0_goesAhead 66 = .ok (.lcmp, 1) := by decide +kernel
theorem dX0_goesAhead_67 : decode cX0_goesAhead 67 = .ok (.ifCond .ge 7, 3) := by decide +kernel
theorem dX0_goesAhead_70 : decode cX0_goesAhead 70 = .ok (.iconst 1, 1) := by decide +kernel
theorem dX0_goesAhead_71 : decode cX0_goesAhead 71 = .ok (.goto 4, 3) := by decide +kernel
theorem dX0_goesAhead_74 : decode cX0_goesAhead 74 = .ok (.iconst 0, 1) := by decide +kernel
theorem dX0_goesAhead_75 : decode cX0_goesAhead 75 = .ok (.ireturn, 1) := by decide +kernel
theorem dX0_goesAhead_76 : decode cX0_goesAhead 76 = .ok (.aload_n 0, 1) := by decide +kernel
theorem dX0_goesAhead_77 : decode cX0_goesAhead 77 = .ok (.getfield 15, 3) := by decide +kernel
theorem dX0_goesAhead_80 : decode cX0_goesAhead 80 = .ok (.iload_n 1, 1) := by decide +kernel
theorem dX0_goesAhead_81 : decode cX0_goesAhead 81 = .ok (.iaload, 1) := by decide +kernel
theorem dX0_goesAhead_82 : decode cX0_goesAhead 82 = .ok (.aload_n 0, 1) := by decide +kernel
theorem dX0_goesAhead_83 : decode cX0_goesAhead 83 = .ok (.getfield 15, 3) := by decide +kernel
theorem dX0_goesAhead_86 : decode cX0_goesAhead 86 = .ok (.iload_n 2, 1) := by decide +kernel
theorem dX0_goesAhead_87 : decode cX0_goesAhead 87 = .ok (.iaload, 1) := by decide +kernel
theorem dX0_goesAhead_88 : decode cX0_goesAhead 88 = .ok (.if_icmp .ge 7, 3) := by decide +kernel
theorem dX0_goesAhead_91 : decode cX0_goesAhead 91 = .ok (.iconst 1, 1) := by decide +kernel
theorem dX0_goesAhead_92 : decode cX0_goesAhead 92 = .ok (.goto 4, 3) := by decide +kernel
theorem dX0_goesAhead_95 : decode cX0_goesAhead 95 = .ok (.iconst 0, 1) := by decide +kernel
theorem dX0_goesAhead_96 : decode cX0_goesAhead 96 = .ok (.ireturn, 1) := by decide +kernel
theorem dX0_placeOf_0 : decode cX0_placeOf 0 = .ok (.iconst 0, 1) := by decide +kernel
theorem dX0_placeOf_1 : decode cX0_placeOf 1 = .ok (.istore_n 2, 1) := by decide +kernel
theorem dX0_placeOf_2 : decode cX0_placeOf 2 = .ok (.iload_n 2, 1) := by decide +kernel
theorem dX0_placeOf_3 : decode cX0_placeOf 3 = .ok (.aload_n 0, 1) := by decide +kernel
theorem dX0_placeOf_4 : decode cX0_placeOf 4 = .ok (.getfield 34, 3) := by decide +kernel
theorem dX0_placeOf_7 : decode cX0_placeOf 7 = .ok (.if_icmp .ge 26, 3) := by decide +kernel
theorem dX0_placeOf_10 : decode cX0_placeOf 10 = .ok (.aload_n 0, 1) := by decide +kernel
theorem dX0_placeOf_11 : decode cX0_placeOf 11 = .ok (.getfield 15, 3) := by decide +kernel
theorem dX0_placeOf_14 : decode cX0_placeOf 14 = .ok (.aload_n 0, 1) := by decide +kernel
theorem dX0_placeOf_15 : decode cX0_placeOf 15 = .ok (.getfield 9, 3) := by decide +kernel
theorem dX0_placeOf_18 : decode cX0_placeOf 18 = .ok (.iload_n 2, 1) := by decide +kernel
theorem dX0_placeOf_19 : decode cX0_placeOf 19 = .ok (.iaload, 1) := by decide +kernel
theorem dX0_placeOf_20 : decode cX0_placeOf 20 = .ok (.iaload, 1) := by decide +kernel
theorem dX0_placeOf_21 : decode cX0_placeOf 21 = .ok (.iload_n 1, 1) := by decide +kernel
theorem dX0_placeOf_22 : decode cX0_placeOf 22 = .ok (.if_icmp .ne 5, 3) := by decide +kernel
theorem dX0_placeOf_25 : decode cX0_placeOf 25 = .ok (.iload_n 2, 1) := by decide +kernel
theorem dX0_placeOf_26 : decode cX0_placeOf 26 = .ok (.ireturn, 1) := by decide +kernel
theorem dX0_placeOf_27 : decode cX0_placeOf 27 = .ok (.iinc 2 1, 3) := by decide +kernel
theorem dX0_placeOf_30 : decode cX0_placeOf 30 = .ok (.goto (-28), 3) := by decide +kernel
theorem dX0_placeOf_33 : decode cX0_placeOf 33 = .ok (.iconst (-1), 1) := by decide +kernel
theorem dX0_placeOf_34 : decode cX0_placeOf 34 = .ok (.ireturn, 1) := by decide +kernel
theorem dX0_headOf_0 : decode cX0_headOf 0 = .ok (.iconst 0, 1) := by decide +kernel
theorem dX0_headOf_1 : decode cX0_headOf 1 = .ok (.istore_n 2, 1) := by decide +kernel
theorem dX0_headOf_2 : decode cX0_headOf 2 = .ok (.iload_n 2, 1) := by decide +kernel
theorem dX0_headOf_3 : decode cX0_headOf 3 = .ok (.aload_n 0, 1) := by decide +kernel
theorem dX0_headOf_4 : decode cX0_headOf 4 = .ok (.getfield 34, 3) := by decide +kernel
theorem dX0_headOf_7 : decode cX0_headOf 7 = .ok (.if_icmp .ge 26, 3) := by decide +kernel
theorem dX0_headOf_10 : decode cX0_headOf 10 = .ok (.aload_n 0, 1) := by decide +kernel
theorem dX0_headOf_11 : decode cX0_headOf 11 = .ok (.getfield 18, 3) := by decide +kernel
theorem dX0_headOf_14 : decode cX0_headOf 14 = .ok (.aload_n 0, 1) := by decide +kernel
theorem dX0_headOf_15 : decode cX0_headOf 15 = .ok (.getfield 9, 3) := by decide +kernel
theorem dX0_headOf_18 : decode cX0_headOf 18 = .ok (.iload_n 2, 1) := by decide +kernel
theorem dX0_headOf_19 : decode cX0_headOf 19 = .ok (.iaload, 1) := by decide +kernel
theorem dX0_headOf_20 : decode cX0_headOf 20 = .ok (.iaload, 1) := by decide +kernel
theorem dX0_headOf_21 : decode cX0_headOf 21 = .ok (.iload_n 1, 1) := by decide +kernel
theorem dX0_headOf_22 : decode cX0_headOf 22 = .ok (.if_icmp .ne 5, 3) := by decide +kernel
theorem dX0_headOf_25 : decode cX0_headOf 25 = .ok (.iload_n 2, 1) := by decide +kernel
theorem dX0_headOf_26 : decode cX0_headOf 26 = .ok (.ireturn, 1) := by decide +kernel
theorem dX0_headOf_27 : decode cX0_headOf 27 = .ok (.iinc 2 1, 3) := by decide +kernel
theorem dX0_headOf_30 : decode cX0_headOf 30 = .ok (.goto (-28), 3) := by decide +kernel
theorem dX0_headOf_33 : decode cX0_headOf 33 = .ok (.iconst (-1), 1) := by decide +kernel
theorem dX0_headOf_34 : decode cX0_headOf 34 = .ok (.ireturn, 1) := by decide +kernel
set_option maxRecDepth 20000 in
theorem ggX0_dueOf_X0_headOf : GoodIn wsX0_dueOf wsX0_headOf := goodIn_r _ [5, 6, 7, 8, 14, 15, 16, 17, 18, 19, 20, 21] (by decide +kernel) (by decide +kernel)
set_option maxRecDepth 20000 in
theorem gX0_dueOf_X0_headOf : GoodIn wsX0_dueOf (wsV RX0 59 RX0 yX0_headOf wsX0_headOf) := goodIn_app (goodIn_of _ (by decide +kernel)) ggX0_dueOf_X0_headOf
set_option maxRecDepth 20000 in
theorem ggX0_dueOf_X0_timeAt : GoodIn wsX0_dueOf wsX0_timeAt := goodIn_r _ [12, 13, 8, 14, 15, 16, 17, 18, 19, 20, 21] (by decide +kernel) (by decide +kernel)
set_option maxRecDepth 20000 in
theorem gX0_dueOf_X0_timeAt : GoodIn wsX0_dueOf (wsV RX0 62 RX0 yX0_timeAt wsX0_timeAt) := goodIn_app (goodIn_of _ (by decide +kernel)) ggX0_dueOf_X0_timeAt
theorem dX0_dueOf_0 : decode cX0_dueOf 0 = .ok (.aload_n 0, 1) := by decide +kernel
theorem dX0_dueOf_1 : decode cX0_dueOf 1 = .ok (.iload_n 1, 1) := by decide +kernel
theorem dX0_dueOf_2 : decode cX0_dueOf 2 = .ok (.invokevirtual 59, 3) := by decide +kernel
theorem dX0_dueOf_5 : decode cX0_dueOf 5 = .ok (.istore 4, 2) := by decide +kernel
theorem dX0_dueOf_7 : decode cX0_dueOf 7 = .ok (.iload 4, 2) := by decide +kernel
theorem dX0_dueOf_9 : decode cX0_dueOf 9 = .ok (.iconst (-1), 1) := by decide +kernel
theorem dX0_dueOf_10 : decode cX0_dueOf 10 = .ok (.if_icmp .eq 19, 3) := by decide +kernel
theorem dX0_dueOf_13 : decode cX0_dueOf 13 = .ok (.aload_n 0, 1) := by decide +kernel
theorem dX0_dueOf_14 : decode cX0_dueOf 14 = .ok (.iload 4, 2) := by decide +kernel
theorem dX0_dueOf_16 : decode cX0_dueOf 16 = .ok (.invokevirtual 62, 3) := by decide +kernel
theorem dX0_dueOf_19 : decode cX0_dueOf 19 = .ok (.lload_n 2, 1) := by decide +kernel
theorem dX0_dueOf_20 : decode cX0_dueOf 20 = .ok (.lcmp, 1) := by decide +kernel
theorem dX0_dueOf_21 : decode cX0_dueOf 21 = .ok (.ifCond .gt 8, 3) := by decide +kernel
theorem dX0_dueOf_24 : decode cX0_dueOf 24 = .ok (.iload 4, 2) := by decide +kernel
theorem dX0_dueOf_26 : decode cX0_dueOf 26 = .ok (.goto 4, 3) := by decide +kernel
theorem dX0_dueOf_29 : decode cX0_dueOf 29 = .ok (.iconst (-1), 1) := by decide +kernel
theorem dX0_dueOf_30 : decode cX0_dueOf 30 = .ok (.ireturn, 1) := by decide +kernel
theorem dX0_countBetween_0 : decode cX0_countBetween 0 = .ok (.iconst 0, 1) := by decide +kernel
theorem dX0_countBetween_1 : decode cX0_countBetween 1 = .ok (.istore 8, 2) := by decide +kernel
theorem dX0_countBetween_3 : decode cX0_countBetween 3 = .ok (.iconst 0, 1) := by decide +kernel
theorem dX0_countBetween_4 : decode cX0_countBetween 4 = .ok (.istore 9, 2) := by decide +kernel
theorem dX0_countBetween_6 : decode cX0_countBetween 6 = .ok (.iload 9, 2) := by decide +kernel
theorem dX0_countBetween_8 : decode cX0_countBetween 8 = .ok (.aload_n 0, 1) := by decide +kernel
theorem dX0_countBetween_9 : decode cX0_countBetween 9 = .ok (.getfield 34, 3) := by decide +kernel
theorem dX0_countBetween_12 : decode cX0_countBetween 12 = .ok (.if_icmp .ge 82, 3) := by decide +kernel
theorem dX0_countBetween_15 : decode cX0_countBetween 15 = .ok (.aload_n 0, 1) := by decide +kernel
theorem dX0_countBetween_16 : decode cX0_countBetween 16 = .ok (.getfield 9, 3) := by decide +kernel
theorem dX0_countBetween_19 : decode cX0_countBetween 19 = .ok (.iload 9, 2) := by decide +kernel
theorem dX0_countBetween_21 : decode cX0_countBetween 21 = .ok (.iaload, 1) := by decide +kernel
theorem dX0_countBetween_22 : decode cX0_countBetween 22 = .ok (.istore 10, 2) := by decide +kernel
theorem dX0_countBetween_24 : decode cX0_countBetween 24 = .ok (.aload_n 0, 1) := by decide +kernel
theorem dX0_countBetween_25 : decode cX0_countBetween 25 = .ok (.getfield 25, 3) := by decide +kernel
theorem dX0_countBetween_28 : decode cX0_countBetween 28 = .ok (.iload 10, 2) := by decide +kernel
theorem dX0_countBetween_30 : decode cX0_countBetween 30 = .ok (.laload, 1) := by decide +kernel
theorem dX0_countBetween_31 : decode cX0_countBetween 31 = .ok (.lload 4, 2) := by decide +kernel
theorem dX0_countBetween_33 : decode cX0_countBetween 33 = .ok (.lcmp, 1) := by decide +kernel
theorem dX0_countBetween_34 : decode cX0_countBetween 34 = .ok (.ifCond .lt 20, 3) := by decide +kernel
theorem dX0_countBetween_37 : decode cX0_countBetween 37 = .ok (.aload_n 0, 1) := by decide +kernel
theorem dX0_countBetween_38 : decode cX0_countBetween 38 = .ok (.getfield 25, 3) := by decide +kernel
theorem dX0_countBetween_41 : decode cX0_countBetween 41 = .ok (.iload 10, 2) := by decide +kernel
theorem dX0_countBetween_43 : decode cX0_countBetween 43 = .ok (.laload, 1) := by decide +kernel
theorem dX0_countBetween_44 : decode cX0_countBetween 44 = .ok (.lload 6, 2) := by decide +kernel
theorem dX0_countBetween_46 : decode cX0_countBetween 46 = .ok (.lcmp, 1) := by decide +kernel
theorem dX0_countBetween_47 : decode cX0_countBetween 47 = .ok (.ifCond .gt 7, 3) := by decide +kernel
theorem dX0_countBetween_50 : decode cX0_countBetween 50 = .ok (.iconst 1, 1) := by decide +kernel
theorem dX0_countBetween_51 : decode cX0_countBetween 51 = .ok (.goto 4, 3) := by decide +kernel
theorem dX0_countBetween_54 : decode cX0_countBetween 54 = .ok (.iconst 0, 1) := by decide +kernel
theorem dX0_countBetween_55 : decode cX0_countBetween 55 = .ok (.istore 11, 2) := by decide +kernel
theorem dX0_countBetween_57 : decode cX0_countBetween 57 = .ok (.iload 11, 2) := by decide +kernel
theorem dX0_countBetween_59 : decode cX0_countBetween 59 = .ok (.ifCond .eq 29, 3) := by decide +kernel
theorem dX0_countBetween_62 : decode cX0_countBetween 62 = .ok (.aload_n 0, 1) := by decide +kernel
theorem dX0_countBetween_63 : decode cX0_countBetween 63 = .ok (.getfield 18, 3) := by decide +kernel
theorem dX0_countBetween_66 : decode cX0_countBetween 66 = .ok (.iload 10, 2) := by decide +kernel
theorem dX0_countBetween_68 : decode cX0_countBetween 68 = .ok (.iaload, 1) := by decide +kernel
theorem dX0_countBetween_69 : decode cX0_countBetween 69 = .ok (.iload_n 1, 1) := by decide +kernel
theorem dX0_countBetween_70 : decode cX0_countBetween 70 = .ok (.if_icmp .ne 18, 3) := by decide +kernel
theorem dX0_countBetween_73 : decode cX0_countBetween 73 = .ok (.aload_n 0, 1) := by decide +kernel
theorem dX0_countBetween_74 : decode cX0_countBetween 74 = .ok (.getfield 21, 3) := by decide +kernel
theorem dX0_countBetween_77 : decode cX0_countBetween 77 = .ok (.iload 10, 2) := by decide +kernel
theorem dX0_countBetween_79 : decode cX0_countBetween 79 = .ok (.laload, 1) := by decide +kernel
theorem dX0_countBetween_80 : decode cX0_countBetween 80 = .ok (.lload_n 2, 1) := by decide +kernel
theorem dX0_countBetween_81 : decode cX0_countBetween 81 = .ok (.lcmp, 1) := by decide +kernel
theorem dX0_countBetween_82 : decode cX0_countBetween 82 = .ok (.ifCond .ne 6, 3) := by decide +kernel
theorem dX0_countBetween_85 : decode cX0_countBetween 85 = .ok (.iinc 8 1, 3) := by decide +kernel
theorem dX0_countBetween_88 : decode cX0_countBetween 88 = .ok (.iinc 9 1, 3) := by decide +kernel
theorem dX0_countBetween_91 : decode cX0_countBetween 91 = .ok (.goto (-85), 3) := by decide +kernel
theorem dX0_countBetween_94 : decode cX0_countBetween 94 = .ok (.iload 8, 2) := by decide +kernel
theorem dX0_countBetween_96 : decode cX0_countBetween 96 = .ok (.ireturn, 1) := by decide +kernel
set_option maxRecDepth 20000 in
theorem ggX0_countOfTask_X3_taskOf : GoodIn wsX0_countOfTask wsX3_taskOf := goodIn_r _ [6, 7, 8, 9, 10, 11] (by decide +kernel) (by decide +kernel)
set_option maxRecDepth 20000 in
theorem gX0_countOfTask_X3_taskOf_n66 : GoodIn wsX0_countOfTask (wsX3_taskOf) := ggX0_countOfTask_X3_taskOf
theorem dX0_countOfTask_0 : decode cX0_countOfTask 0 = .ok (.iconst 0, 1) := by decide +kernel
theorem dX0_countOfTask_1 : decode cX0_countOfTask 1 = .ok (.istore_n 3, 1) := by decide +kernel
theorem dX0_countOfTask_2 : decode cX0_countOfTask 2 = .ok (.iconst 0, 1) := by decide +kernel
theorem dX0_countOfTask_3 : decode cX0_countOfTask 3 = .ok (.istore 4, 2) := by decide +kernel
theorem dX0_countOfTask_5 : decode cX0_countOfTask 5 = .ok (.iload 4, 2) := by decide +kernel
theorem dX0_countOfTask_7 : decode cX0_countOfTask 7 = .ok (.aload_n 0, 1) := by decide +kernel
theorem dX0_countOfTask_8 : decode cX0_countOfTask 8 = .ok (.getfield 34, 3) := by decide +kernel
theorem dX0_countOfTask_11 : decode cX0_countOfTask 11 = .ok (.if_icmp .ge 32, 3) := by decide +kernel
theorem dX0_countOfTask_14 : decode cX0_countOfTask 14 = .ok (.aload_n 0, 1) := by decide +kernel
theorem dX0_countOfTask_15 : decode cX0_countOfTask 15 = .ok (.getfield 21, 3) := by decide +kernel
theorem dX0_countOfTask_18 : decode cX0_countOfTask 18 = .ok (.aload_n 0, 1) := by decide +kernel
theorem dX0_countOfTask_19 : decode cX0_countOfTask 19 = .ok (.getfield 9, 3) := by decide +kernel
theorem dX0_countOfTask_22 : decode cX0_countOfTask 22 = .ok (.iload 4, 2) := by decide +kernel
theorem dX0_countOfTask_24 : decode cX0_countOfTask 24 = .ok (.iaload, 1) := by decide +kernel
theorem dX0_countOfTask_25 : decode cX0_countOfTask 25 = .ok (.laload, 1) := by decide +kernel
theorem dX0_countOfTask_26 : decode cX0_countOfTask 26 = .ok (.iload_n 2, 1) := by decide +kernel
theorem dX0_countOfTask_27 : decode cX0_countOfTask 27 = .ok (.invokestatic 66, 3) := by decide +kernel
theorem dX0_countOfTask_30 : decode cX0_countOfTask 30 = .ok (.iload_n 1, 1) := by decide +kernel
theorem dX0_countOfTask_31 : decode cX0_countOfTask 31 = .ok (.if_icmp .ne 6, 3) := by decide +kernel
theorem dX0_countOfTask_34 : decode cX0_countOfTask 34 = .ok (.iinc 3 1, 3) := by decide +kernel
theorem dX0_countOfTask_37 : decode cX0_countOfTask 37 = .ok (.iinc 4 1, 3) := by decide +kernel
theorem dX0_countOfTask_40 : decode cX0_countOfTask 40 = .ok (.goto (-35), 3) := by decide +kernel
theorem dX0_countOfTask_43 : decode cX0_countOfTask 43 = .ok (.iload_n 3, 1) := by decide +kernel
theorem dX0_countOfTask_44 : decode cX0_countOfTask 44 = .ok (.ireturn, 1) := by decide +kernel
theorem dX0_copyFrom_0 : decode cX0_copyFrom 0 = .ok (.aload_n 1, 1) := by decide +kernel
theorem dX0_copyFrom_1 : decode cX0_copyFrom 1 = .ok (.getfield 9, 3) := by decide +kernel
theorem dX0_copyFrom_4 : decode cX0_copyFrom 4 = .ok (.iconst 0, 1) := by decide +kernel
theorem dX0_copyFrom_5 : decode cX0_copyFrom 5 = .ok (.aload_n 0, 1) := by decide +kernel
theorem dX0_copyFrom_6 : decode cX0_copyFrom 6 = .ok (.getfield 9, 3) := by decide +kernel
theorem dX0_copyFrom_9 : decode cX0_copyFrom 9 = .ok (.iconst 0, 1) := by decide +kernel
theorem dX0_copyFrom_10 : decode cX0_copyFrom 10 = .ok (.bipush 40, 2) := by decide +kernel
theorem dX0_copyFrom_12 : decode cX0_copyFrom 12 = .ok (.invokestatic 41, 3) := by decide +kernel
theorem dX0_copyFrom_15 : decode cX0_copyFrom 15 = .ok (.aload_n 1, 1) := by decide +kernel
theorem dX0_copyFrom_16 : decode cX0_copyFrom 16 = .ok (.getfield 15, 3) := by decide +kernel
theorem dX0_copyFrom_19 : decode cX0_copyFrom 19 = .ok (.iconst 0, 1) := by decide +kernel
theorem dX0_copyFrom_20 : decode cX0_copyFrom 20 = .ok (.aload_n 0, 1) := by decide +kernel
theorem dX0_copyFrom_21 : decode cX0_copyFrom 21 = .ok (.getfield 15, 3) := by decide +kernel
theorem dX0_copyFrom_24 : decode cX0_copyFrom 24 = .ok (.iconst 0, 1) := by decide +kernel
theorem dX0_copyFrom_25 : decode cX0_copyFrom 25 = .ok (.bipush 40, 2) := by decide +kernel
theorem dX0_copyFrom_27 : decode cX0_copyFrom 27 = .ok (.invokestatic 41, 3) := by decide +kernel
theorem dX0_copyFrom_30 : decode cX0_copyFrom 30 = .ok (.aload_n 1, 1) := by decide +kernel
theorem dX0_copyFrom_31 : decode cX0_copyFrom 31 = .ok (.getfield 18, 3) := by decide +kernel
theorem dX0_copyFrom_34 : decode cX0_copyFrom 34 = .ok (.iconst 0, 1) := by decide +kernel
theorem dX0_copyFrom_35 : decode cX0_copyFrom 35 = .ok (.aload_n 0, 1) := by decide +kernel
theorem dX0_copyFrom_36 : decode cX0_copyFrom 36 = .ok (.getfield 18, 3) := by decide +kernel
theorem dX0_copyFrom_39 : decode cX0_copyFrom 39 = .ok (.iconst 0, 1) := by decide +kernel
theorem dX0_copyFrom_40 : decode cX0_copyFrom 40 = .ok (.bipush 40, 2) := by decide +kernel
theorem dX0_copyFrom_42 : decode cX0_copyFrom 42 = .ok (.invokestatic 41, 3) := by decide +kernel
theorem dX0_copyFrom_45 : decode cX0_copyFrom 45 = .ok (.aload_n 1, 1) := by decide +kernel
theorem dX0_copyFrom_46 : decode cX0_copyFrom 46 = .ok (.getfield 21, 3) := by decide +kernel
theorem dX0_copyFrom_49 : decode cX0_copyFrom 49 = .ok (.iconst 0, 1) := by decide +kernel
theorem dX0_copyFrom_50 : decode cX0_copyFrom 50 = .ok (.aload_n 0, 1) := by decide +kernel
theorem dX0_copyFrom_51 : decode cX0_copyFrom 51 = .ok (.getfield 21, 3) := by decide +kernel
theorem dX0_copyFrom_54 : decode cX0_copyFrom 54 = .ok (.iconst 0, 1) := by decide +kernel
theorem dX0_copyFrom_55 : decode cX0_copyFrom 55 = .ok (.bipush 40, 2) := by decide +kernel
theorem dX0_copyFrom_57 : decode cX0_copyFrom 57 = .ok (.invokestatic 41, 3) := by decide +kernel
theorem dX0_copyFrom_60 : decode cX0_copyFrom 60 = .ok (.aload_n 1, 1) := by decide +kernel
theorem dX0_copyFrom_61 : decode cX0_copyFrom 61 = .ok (.getfield 25, 3) := by decide +kernel
theorem dX0_copyFrom_64 : decode cX0_copyFrom 64 = .ok (.iconst 0, 1) := by decide +kernel
theorem dX0_copyFrom_65 : decode cX0_copyFrom 65 = .ok (.aload_n 0, 1) := by decide +kernel
theorem dX0_copyFrom_66 : decode cX0_copyFrom 66 = .ok (.getfield 25, 3) := by decide +kernel
theorem dX0_copyFrom_69 : decode cX0_copyFrom 69 = .ok (.iconst 0, 1) := by decide +kernel
theorem dX0_copyFrom_70 : decode cX0_copyFrom 70 = .ok (.bipush 40, 2) := by decide +kernel
theorem dX0_copyFrom_72 : decode cX0_copyFrom 72 = .ok (.invokestatic 41, 3) := by decide +kernel
theorem dX0_copyFrom_75 : decode cX0_copyFrom 75 = .ok (.aload_n 1, 1) := by decide +kernel
theorem dX0_copyFrom_76 : decode cX0_copyFrom 76 = .ok (.getfield 28, 3) := by decide +kernel
theorem dX0_copyFrom_79 : decode cX0_copyFrom 79 = .ok (.iconst 0, 1) := by decide +kernel
theorem dX0_copyFrom_80 : decode cX0_copyFrom 80 = .ok (.aload_n 0, 1) := by decide +kernel
theorem dX0_copyFrom_81 : decode cX0_copyFrom 81 = .ok (.getfield 28, 3) := by decide +kernel
theorem dX0_copyFrom_84 : decode cX0_copyFrom 84 = .ok (.iconst 0, 1) := by decide +kernel
theorem dX0_copyFrom_85 : decode cX0_copyFrom 85 = .ok (.bipush 40, 2) := by decide +kernel
theorem dX0_copyFrom_87 : decode cX0_copyFrom 87 = .ok (.invokestatic 41, 3) := by decide +kernel
theorem dX0_copyFrom_90 : decode cX0_copyFrom 90 = .ok (.aload_n 1, 1) := by decide +kernel
theorem dX0_copyFrom_91 : decode cX0_copyFrom 91 = .ok (.getfield 31, 3) := by decide +kernel
theorem dX0_copyFrom_94 : decode cX0_copyFrom 94 = .ok (.iconst 0, 1) := by decide +kernel
theorem dX0_copyFrom_95 : decode cX0_copyFrom 95 = .ok (.aload_n 0, 1) := by decide +kernel
theorem dX0_copyFrom_96 : decode cX0_copyFrom 96 = .ok (.getfield 31, 3) := by decide +kernel
theorem dX0_copyFrom_99 : decode cX0_copyFrom 99 = .ok (.iconst 0, 1) := by decide +kernel
theorem dX0_copyFrom_100 : decode cX0_copyFrom 100 = .ok (.bipush 40, 2) := by decide +kernel
theorem dX0_copyFrom_102 : decode cX0_copyFrom 102 = .ok (.invokestatic 41, 3) := by decide +kernel
theorem dX0_copyFrom_105 : decode cX0_copyFrom 105 = .ok (.aload_n 0, 1) := by decide +kernel
theorem dX0_copyFrom_106 : decode cX0_copyFrom 106 = .ok (.aload_n 1, 1) := by decide +kernel
theorem dX0_copyFrom_107 : decode cX0_copyFrom 107 = .ok (.getfield 34, 3) := by decide +kernel
theorem dX0_copyFrom_110 : decode cX0_copyFrom 110 = .ok (.putfield 34, 3) := by decide +kernel
theorem dX0_copyFrom_113 : decode cX0_copyFrom 113 = .ok (.return_, 1) := by decide +kernel
theorem dX1_init_0 : decode cX1_init 0 = .ok (.aload_n 0, 1) := by decide +kernel
theorem dX1_init_1 : decode cX1_init 1 = .ok (.invokespecial 3, 3) := by decide +kernel
theorem dX1_init_4 : decode cX1_init 4 = .ok (.aload_n 0, 1) := by decide +kernel
theorem dX1_init_5 : decode cX1_init 5 = .ok (.bipush 65, 2) := by decide +kernel
theorem dX1_init_7 : decode cX1_init 7 = .ok (.newarray .int, 2) := by decide +kernel
theorem dX1_init_9 : decode cX1_init 9 = .ok (.putfield 9, 3) := by decide +kernel
theorem dX1_init_12 : decode cX1_init 12 = .ok (.aload_n 0, 1) := by decide +kernel
theorem dX1_init_13 : decode cX1_init 13 = .ok (.bipush 65, 2) := by decide +kernel
theorem dX1_init_15 : decode cX1_init 15 = .ok (.newarray .int, 2) := by decide +kernel
theorem dX1_init_17 : decode cX1_init 17 = .ok (.putfield 15, 3) := by decide +kernel
theorem dX1_init_20 : decode cX1_init 20 = .ok (.aload_n 0, 1) := by decide +kernel
theorem dX1_init_21 : decode cX1_init 21 = .ok (.bipush 65, 2) := by decide +kernel
theorem dX1_init_23 : decode cX1_init 23 = .ok (.newarray .long, 2) := by decide +kernel
theorem dX1_init_25 : decode cX1_init 25 = .ok (.putfield 18, 3) := by decide +kernel
theorem dX1_init_28 : decode cX1_init 28 = .ok (.aload_n 0, 1) := by decide +kernel
theorem dX1_init_29 : decode cX1_init 29 = .ok (.bipush 65, 2) := by decide +kernel
theorem dX1_init_31 : decode cX1_init 31 = .ok (.newarray .long, 2) := by decide +kernel
theorem dX1_init_33 : decode cX1_init 33 = .ok (.putfield 22, 3) := by decide +kernel
theorem dX1_init_36 : decode cX1_init 36 = .ok (.aload_n 0, 1) := by decide +kernel
theorem dX1_init_37 : decode cX1_init 37 = .ok (.bipush 65, 2) := by decide +kernel
theorem dX1_init_39 : decode cX1_init 39 = .ok (.newarray .int, 2) := by decide +kernel
theorem dX1_init_41 : decode cX1_init 41 = .ok (.putfield 25, 3) := by decide +kernel
theorem dX1_init_44 : decode cX1_init 44 = .ok (.return_, 1) := by decide +kernel
set_option maxRecDepth 20000 in
theorem ggX1_add_X1_grow : GoodIn wsX1_add wsX1_grow := goodIn_r _ [16, 2, 4, 6, 8, 10, 17, 18, 19, 20, 21, 22, 23, 24, 25, 26, 27, 28, 29, 30, 31, 32, 33, 34, 35, 36, 37, 38, 39, 40, 41, 42, 43, 44, 45, 46, 47, 48, 49] (by decide +kernel) (by decide +kernel)
set_option maxRecDepth 20000 in
theorem gX1_add_X1_grow : GoodIn wsX1_add (wsV RX1 32 RX1 yX1_grow wsX1_grow) := goodIn_app (goodIn_of _ (by decide +kernel)) ggX1_add_X1_grow
theorem dX1_add_0 : decode cX1_add 0 = .ok (.aload_n 0, 1) := by decide +kernel
theorem dX1_add_1 : decode cX1_add 1 = .ok (.getfield 28, 3) := by decide +kernel
theorem dX1_add_4 : decode cX1_add 4 = .ok (.aload_n 0, 1) := by decide +kernel
theorem dX1_add_5 : decode cX1_add 5 = .ok (.getfield 9, 3) := by decide +kernel
theorem dX1_add_8 : decode cX1_add 8 = .ok (.arraylength, 1) := by decide +kernel
theorem dX1_add_9 : decode cX1_add 9 = .ok (.if_icmp .lt 7, 3) := by decide +kernel
theorem dX1_add_12 : decode cX1_add 12 = .ok (.aload_n 0, 1) := by decide +kernel
theorem dX1_add_13 : decode cX1_add 13 = .ok (.invokevirtual 32, 3) := by decide +kernel
theorem dX1_add_16 : decode cX1_add 16 = .ok (.aload_n 2, 1) := by decide +kernel
theorem dX1_add_17 : decode cX1_add 17 = .ok (.getfield 35, 3) := by decide +kernel
theorem dX1_add_20 : decode cX1_add 20 = .ok (.iload_n 3, 1) := by decide +kernel
theorem dX1_add_21 : decode cX1_add 21 = .ok (.iaload, 1) := by decide +kernel
theorem dX1_add_22 : decode cX1_add 22 = .ok (.istore 4, 2) := by decide +kernel
theorem dX1_add_24 : decode cX1_add 24 = .ok (.aload_n 0, 1) := by decide +kernel
theorem dX1_add_25 : decode cX1_add 25 = .ok (.getfield 9, 3) := by decide +kernel
theorem dX1_add_28 : decode cX1_add 28 = .ok (.aload_n 0, 1) := by decide +kernel
theorem dX1_add_29 : decode cX1_add 29 = .ok (.getfield 28, 3) := by decide +kernel
theorem dX1_add_32 : decode cX1_add 32 = .ok (.iload_n 1, 1) := by decide +kernel
theorem dX1_add_33 : decode cX1_add 33 = .ok (.iastore, 1) := by decide +kernel
theorem dX1_add_34 : decode cX1_add 34 = .ok (.aload_n 0, 1) := by decide +kernel
theorem dX1_add_35 : decode cX1_add 35 = .ok (.getfield 15, 3) := by decide +kernel
theorem dX1_add_38 : decode cX1_add 38 = .ok (.aload_n 0, 1) := by decide +kernel
theorem dX1_add_39 : decode cX1_add 39 = .ok (.getfield 28, 3) := by decide +kernel
theorem dX1_add_42 : decode cX1_add 42 = .ok (.aload_n 2, 1) := by decide +kernel
theorem dX1_add_43 : decode cX1_add 43 = .ok (.getfield 40, 3) := by decide +kernel
theorem dX1_add_46 : decode cX1_add 46 = .ok (.iload 4, 2) := by decide +kernel
theorem dX1_add_48 : decode cX1_add 48 = .ok (.iaload, 1) := by decide +kernel
theorem dX1_add_49 : decode cX1_add 49 = .ok (.iastore, 1) := by decide +kernel
theorem dX1_add_50 : decode cX1_add 50 = .ok (.aload_n 0, 1) := by decide +kernel
theorem dX1_add_51 : decode cX1_add 51 = .ok (.getfield 18, 3) := by decide +kernel
theorem dX1_add_54 : decode cX1_add 54 = .ok (.aload_n 0, 1) := by decide +kernel
theorem dX1_add_55 : decode cX1_add 55 = .ok (.getfield 28, 3) := by decide +kernel
theorem dX1_add_58 : decode cX1_add 58 = .ok (.aload_n 2, 1) := by decide +kernel
theorem dX1_add_59 : decode cX1_add 59 = .ok (.getfield 41, 3) := by decide +kernel
theorem dX1_add_62 : decode cX1_add 62 = .ok (.iload 4, 2) := by decide +kernel
theorem dX1_add_64 : decode cX1_add 64 = .ok (.laload, 1) := by decide +kernel
theorem dX1_add_65 : decode cX1_add 65 = .ok (.lastore, 1) := by decide +kernel
theorem dX1_add_66 : decode cX1_add 66 = .ok (.aload_n 0, 1) := by decide +kernel
theorem dX1_add_67 : decode cX1_add 67 = .ok (.getfield 22, 3) := by decide +kernel
theorem dX1_add_70 : decode cX1_add 70 = .ok (.aload_n 0, 1) := by decide +kernel
theorem dX1_add_71 : decode cX1_add 71 = .ok (.getfield 28, 3) := by decide +kernel
theorem dX1_add_74 : decode cX1_add 74 = .ok (.aload_n 2, 1) := by decide +kernel
theorem dX1_add_75 : decode cX1_add 75 = .ok (.getfield 42, 3) := by decide +kernel
theorem dX1_add_78 : decode cX1_add 78 = .ok (.iload 4, 2) := by decide +kernel
theorem dX1_add_80 : decode cX1_add 80 = .ok (.laload, 1) := by decide +kernel
theorem dX1_add_81 : decode cX1_add 81 = .ok (.lastore, 1) := by decide +kernel
theorem dX1_add_82 : decode cX1_add 82 = .ok (.aload_n 0, 1) := by decide +kernel
theorem dX1_add_83 : decode cX1_add 83 = .ok (.getfield 25, 3) := by decide +kernel
theorem dX1_add_86 : decode cX1_add 86 = .ok (.aload_n 0, 1) := by decide +kernel
theorem dX1_add_87 : decode cX1_add 87 = .ok (.getfield 28, 3) := by decide +kernel
theorem dX1_add_90 : decode cX1_add 90 = .ok (.aload_n 2, 1) := by decide +kernel
theorem dX1_add_91 : decode cX1_add 91 = .ok (.getfield 43, 3) := by decide +kernel
theorem dX1_add_94 : decode cX1_add 94 = .ok (.iload 4, 2) := by decide +kernel
theorem dX1_add_96 : decode cX1_add 96 = .ok (.iaload, 1) := by decide +kernel
theorem dX1_add_97 : decode cX1_add 97 = .ok (.iastore, 1) := by decide +kernel
theorem dX1_add_98 : decode cX1_add 98 = .ok (.aload_n 0, 1) := by decide +kernel
theorem dX1_add_99 : decode cX1_add 99 = .ok (.dup, 1) := by decide +kernel
theorem dX1_add_100 : decode cX1_add 100 = .ok (.getfield 28, 3) := by decide +kernel
theorem dX1_add_103 : decode cX1_add 103 = .ok (.iconst 1, 1) := by decide +kernel
theorem dX1_add_104 : decode cX1_add 104 = .ok (.iadd, 1) := by decide +kernel
theorem dX1_add_105 : decode cX1_add 105 = .ok (.putfield 28, 3) := by decide +kernel
theorem dX1_add_108 : decode cX1_add 108 = .ok (.return_, 1) := by decide +kernel
set_option maxRecDepth 20000 in
theorem ggX1_grow_J7_copyOf_59c91 : GoodIn wsX1_grow wsJ7_copyOf_59c91 := goodIn_r _ [9, 10, 11, 12, 13, 14, 15, 16, 17, 18, 19, 20, 21, 22, 23, 24] (by decide +kernel) (by decide +kernel)
set_option maxRecDepth 20000 in
theorem gX1_grow_J7_copyOf_59c91 : GoodIn wsX1_grow (va_wsS RX1 44 yJ7_copyOf_59c91 wsJ7_copyOf_59c91) := goodIn_app (goodIn_of _ (by decide +kernel)) ggX1_grow_J7_copyOf_59c91
set_option maxRecDepth 20000 in
theorem ggX1_grow_J7_copyOf_c38d5 : GoodIn wsX1_grow wsJ7_copyOf_c38d5 := goodIn_r _ [27, 28, 29, 12, 13, 30, 31, 32, 17, 18, 19, 20, 21, 22, 23, 24] (by decide +kernel) (by decide +kernel)
set_option maxRecDepth 20000 in
theorem gX1_grow_J7_copyOf_c38d5 : GoodIn wsX1_grow (va_wsS RX1 50 yJ7_copyOf_c38d5 wsJ7_copyOf_c38d5) := goodIn_app (goodIn_of _ (by decide +kernel)) ggX1_grow_J7_copyOf_c38d5
theorem dX1_grow_0 : decode cX1_grow 0 = .ok (.iconst 2, 1) := by decide +kernel
theorem dX1_grow_1 : decode cX1_grow 1 = .ok (.aload_n 0, 1) := by decide +kernel
theorem dX1_grow_2 : decode cX1_grow 2 = .ok (.getfield 9, 3) := by decide +kernel
theorem dX1_grow_5 : decode cX1_grow 5 = .ok (.arraylength, 1) := by decide +kernel
theorem dX1_grow_6 : decode cX1_grow 6 = .ok (.imul, 1) := by decide +kernel
theorem dX1_grow_7 : decode cX1_grow 7 = .ok (.istore_n 1, 1) := by decide +kernel
theorem dX1_grow_8 : decode cX1_grow 8 = .ok (.aload_n 0, 1) := by decide +kernel
theorem dX1_grow_9 : decode cX1_grow 9 = .ok (.aload_n 0, 1) := by decide +kernel
theorem dX1_grow_10 : decode cX1_grow 10 = .ok (.getfield 9, 3) := by decide +kernel
theorem dX1_grow_13 : decode cX1_grow 13 = .ok (.iload_n 1, 1) := by decide +kernel
theorem dX1_grow_14 : decode cX1_grow 14 = .ok (.invokestatic 44, 3) := by decide +kernel
theorem dX1_grow_17 : decode cX1_grow 17 = .ok (.putfield 9, 3) := by decide +kernel
theorem dX1_grow_20 : decode cX1_grow 20 = .ok (.aload_n 0, 1) := by decide +kernel
theorem dX1_grow_21 : decode cX1_grow 21 = .ok (.aload_n 0, 1) := by decide +kernel
theorem dX1_grow_22 : decode cX1_grow 22 = .ok (.getfield 15, 3) := by decide +kernel
theorem dX1_grow_25 : decode cX1_grow 25 = .ok (.iload_n 1, 1) := by decide +kernel
theorem dX1_grow_26 : decode cX1_grow 26 = .ok (.invokestatic 44, 3) := by decide +kernel
theorem dX1_grow_29 : decode cX1_grow 29 = .ok (.putfield 15, 3) := by decide +kernel
theorem dX1_grow_32 : decode cX1_grow 32 = .ok (.aload_n 0, 1) := by decide +kernel
theorem dX1_grow_33 : decode cX1_grow 33 = .ok (.aload_n 0, 1) := by decide +kernel
theorem dX1_grow_34 : decode cX1_grow 34 = .ok (.getfield 18, 3) := by decide +kernel
theorem dX1_grow_37 : decode cX1_grow 37 = .ok (.iload_n 1, 1) := by decide +kernel
theorem dX1_grow_38 : decode cX1_grow 38 = .ok (.invokestatic 50, 3) := by decide +kernel
theorem dX1_grow_41 : decode cX1_grow 41 = .ok (.putfield 18, 3) := by decide +kernel
theorem dX1_grow_44 : decode cX1_grow 44 = .ok (.aload_n 0, 1) := by decide +kernel
theorem dX1_grow_45 : decode cX1_grow 45 = .ok (.aload_n 0, 1) := by decide +kernel
theorem dX1_grow_46 : decode cX1_grow 46 = .ok (.getfield 22, 3) := by decide +kernel
theorem dX1_grow_49 : decode cX1_grow 49 = .ok (.iload_n 1, 1) := by decide +kernel
theorem dX1_grow_50 : decode cX1_grow 50 = .ok (.invokestatic 50, 3) := by decide +kernel
theorem dX1_grow_53 : decode cX1_grow 53 = .ok (.putfield 22, 3) := by decide +kernel
theorem dX1_grow_56 : decode cX1_grow 56 = .ok (.aload_n 0, 1) := by decide +kernel
theorem dX1_grow_57 : decode cX1_grow 57 = .ok (.aload_n 0, 1) := by decide +kernel
theorem dX1_grow_58 : decode cX1_grow 58 = .ok (.getfield 25, 3) := by decide +kernel
theorem dX1_grow_61 : decode cX1_grow 61 = .ok (.iload_n 1, 1) := by decide +kernel
theorem dX1_grow_62 : decode cX1_grow 62 = .ok (.invokestatic 44, 3) := by decide +kernel
theorem dX1_grow_65 : decode cX1_grow 65 = .ok (.putfield 25, 3) := by decide +kernel
theorem dX1_grow_68 : decode cX1_grow 68 = .ok (.return_, 1) := by decide +kernel
set_option maxRecDepth 20000 in
theorem ggX2_init_X0_init : GoodIn wsX2_init wsX0_init := goodIn_r _ [13, 14, 2, 3, 15, 16, 17, 18, 9, 19, 20, 21, 22, 23, 39, 40, 41, 42, 43, 44, 45, 46] (by decide +kernel) (by decide +kernel)
set_option maxRecDepth 20000 in
theorem gX2_init_X0_init : GoodIn wsX2_init (wsX0_init) := ggX2_init_X0_init
set_option maxRecDepth 20000 in
theorem ggX2_init_X2_begin : GoodIn wsX2_init wsX2_begin := goodIn_r _ [28, 7, 29, 8, 10, 30, 31, 32, 33, 34, 35, 36, 37, 38, 47, 48, 49, 50, 51, 52, 53, 39, 40, 41, 42, 43, 44, 45, 46] (by decide +kernel) (by decide +kernel)
set_option maxRecDepth 20000 in
theorem gX2_init_X2_begin : GoodIn wsX2_init (wsV RX2 25 RX2 yX2_begin wsX2_begin) := goodIn_app (goodIn_of _ (by decide +kernel)) ggX2_init_X2_begin
theorem dX2_init_0 : decode cX2_init 0 = .ok (.aload_n 0, 1) := by decide +kernel
theorem dX2_init_1 : decode cX2_init 1 = .ok (.invokespecial 3, 3) := by decide +kernel
theorem dX2_init_4 : decode cX2_init 4 = .ok (.aload_n 0, 1) := by decide +kernel
theorem dX2_init_5 : decode cX2_init 5 = .ok (.new 9, 3) := by decide +kernel
theorem dX2_init_8 : decode cX2_init 8 = .ok (.dup, 1) := by decide +kernel
theorem dX2_init_9 : decode cX2_init 9 = .ok (.invokespecial 11, 3) := by decide +kernel
theorem dX2_init_12 : decode cX2_init 12 = .ok (.putfield 12, 3) := by decide +kernel
theorem dX2_init_15 : decode cX2_init 15 = .ok (.aload_n 0, 1) := by decide +kernel
theorem dX2_init_16 : decode cX2_init 16 = .ok (.new 9, 3) := by decide +kernel
theorem dX2_init_19 : decode cX2_init 19 = .ok (.dup, 1) := by decide +kernel
theorem dX2_init_20 : decode cX2_init 20 = .ok (.invokespecial 11, 3) := by decide +kernel
theorem dX2_init_23 : decode cX2_init 23 = .ok (.putfield 18, 3) := by decide +kernel
theorem dX2_init_26 : decode cX2_init 26 = .ok (.aload_n 0, 1) := by decide +kernel
theorem dX2_init_27 : decode cX2_init 27 = .ok (.iconst 2, 1) := by decide +kernel
theorem dX2_init_28 : decode cX2_init 28 = .ok (.newarray .long, 2) := by decide +kernel
theorem dX2_init_30 : decode cX2_init 30 = .ok (.putfield 21, 3) := by decide +kernel
theorem dX2_init_33 : decode cX2_init 33 = .ok (.aload_n 0, 1) := by decide +kernel
theorem dX2_init_34 : decode cX2_init 34 = .ok (.invokevirtual 25, 3) := by decide +kernel
theorem dX2_init_37 : decode cX2_init 37 = .ok (.return_, 1) := by decide +kernel
set_option maxRecDepth 20000 in
theorem ggX2_begin_J7_fill_d0a16 : GoodIn wsX2_begin wsJ7_fill_d0a16 := goodIn_r _ [13] (by decide +kernel) (by decide +kernel)
set_option maxRecDepth 20000 in
theorem gX2_begin_J7_fill_d0a16 : GoodIn wsX2_begin (va_wsS RX2 34 yJ7_fill_d0a16 wsJ7_fill_d0a16) := goodIn_app (goodIn_of _ (by decide +kernel)) ggX2_begin_J7_fill_d0a16
theorem dX2_begin_0 : decode cX2_begin 0 = .ok (.aload_n 0, 1) := by decide +kernel
theorem dX2_begin_1 : decode cX2_begin 1 = .ok (.getfield 12, 3) := by decide +kernel
theorem dX2_begin_4 : decode cX2_begin 4 = .ok (.iconst 0, 1) := by decide +kernel
theorem dX2_begin_5 : decode cX2_begin 5 = .ok (.putfield 28, 3) := by decide +kernel
theorem dX2_begin_8 : decode cX2_begin 8 = .ok (.aload_n 0, 1) := by decide +kernel
theorem dX2_begin_9 : decode cX2_begin 9 = .ok (.getfield 18, 3) := by decide +kernel
theorem dX2_begin_12 : decode cX2_begin 12 = .ok (.iconst 0, 1) := by decide +kernel
theorem dX2_begin_13 : decode cX2_begin 13 = .ok (.putfield 28, 3) := by decide +kernel
theorem dX2_begin_16 : decode cX2_begin 16 = .ok (.aload_n 0, 1) := by decide +kernel
theorem dX2_begin_17 : decode cX2_begin 17 = .ok (.getfield 21, 3) := by decide +kernel
theorem dX2_begin_20 : decode cX2_begin 20 = .ok (.ldc2_w 32, 3) := by decide +kernel
theorem dX2_begin_23 : decode cX2_begin 23 = .ok (.invokestatic 34, 3) := by decide +kernel
theorem dX2_begin_26 : decode cX2_begin 26 = .ok (.aload_n 0, 1) := by decide +kernel
theorem dX2_begin_27 : decode cX2_begin 27 = .ok (.iconst 0, 1) := by decide +kernel
theorem dX2_begin_28 : decode cX2_begin 28 = .ok (.putfield 40, 3) := by decide +kernel
theorem dX2_begin_31 : decode cX2_begin 31 = .ok (.aload_n 0, 1) := by decide +kernel
theorem dX2_begin_32 : decode cX2_begin 32 = .ok (.iconst 0, 1) := by decide +kernel
theorem dX2_begin_33 : decode cX2_begin 33 = .ok (.putfield 43, 3) := by decide +kernel
theorem dX2_begin_36 : decode cX2_begin 36 = .ok (.aload_n 0, 1) := by decide +kernel
theorem dX2_begin_37 : decode cX2_begin 37 = .ok (.iconst 0, 1) := by decide +kernel
theorem dX2_begin_38 : decode cX2_begin 38 = .ok (.putfield 46, 3) := by decide +kernel
theorem dX2_begin_41 : decode cX2_begin 41 = .ok (.aload_n 0, 1) := by decide +kernel
theorem dX2_begin_42 : decode cX2_begin 42 = .ok (.iconst 1, 1) := by decide +kernel
theorem dX2_begin_43 : decode cX2_begin 43 = .ok (.putfield 49, 3) := by decide +kernel
theorem dX2_begin_46 : decode cX2_begin 46 = .ok (.return_, 1) := by decide +kernel
set_option maxRecDepth 20000 in
theorem ggX2_copyFrom_X0_copyFrom : GoodIn wsX2_copyFrom wsX0_copyFrom := goodIn_r _ [16, 17, 18, 5, 6, 7, 19, 20, 21, 22, 23, 24, 25, 33, 34, 35, 36, 37, 38, 39, 40] (by decide +kernel) (by decide +kernel)
set_option maxRecDepth 20000 in
theorem gX2_copyFrom_X0_copyFrom : GoodIn wsX2_copyFrom (wsV RX2 53 RX0 yX0_copyFrom wsX0_copyFrom) := goodIn_app (goodIn_of _ (by decide +kernel)) ggX2_copyFrom_X0_copyFrom
theorem dX2_copyFrom_0 : decode cX2_copyFrom 0 = .ok (.aload_n 0, 1) := by decide +kernel
theorem dX2_copyFrom_1 : decode cX2_copyFrom 1 = .ok (.getfield 12, 3) := by decide +kernel
theorem dX2_copyFrom_4 : decode cX2_copyFrom 4 = .ok (.aload_n 1, 1) := by decide +kernel
theorem dX2_copyFrom_5 : decode cX2_copyFrom 5 = .ok (.getfield 12, 3) := by decide +kernel
theorem dX2_copyFrom_8 : decode cX2_copyFrom 8 = .ok (.invokevirtual 53, 3) := by decide +kernel
theorem dX2_copyFrom_11 : decode cX2_copyFrom 11 = .ok (.aload_n 0, 1) := by decide +kernel
theorem dX2_copyFrom_12 : decode cX2_copyFrom 12 = .ok (.getfield 18, 3) := by decide +kernel
theorem dX2_copyFrom_15 : decode cX2_copyFrom 15 = .ok (.aload_n 1, 1) := by decide +kernel
theorem dX2_copyFrom_16 : decode cX2_copyFrom 16 = .ok (.getfield 18, 3) := by decide +kernel
theorem dX2_copyFrom_19 : decode cX2_copyFrom 19 = .ok (.invokevirtual 53, 3) := by decide +kernel
theorem dX2_copyFrom_22 : decode cX2_copyFrom 22 = .ok (.aload_n 1, 1) := by decide +kernel
theorem dX2_copyFrom_23 : decode cX2_copyFrom 23 = .ok (.getfield 21, 3) := by decide +kernel
theorem dX2_copyFrom_26 : decode cX2_copyFrom 26 = .ok (.iconst 0, 1) := by decide +kernel
theorem dX2_copyFrom_27 : decode cX2_copyFrom 27 = .ok (.aload_n 0, 1) := by decide +kernel
theorem dX2_copyFrom_28 : decode cX2_copyFrom 28 = .ok (.getfield 21, 3) := by decide +kernel
theorem dX2_copyFrom_31 : decode cX2_copyFrom 31 = .ok (.iconst 0, 1) := by decide +kernel
theorem dX2_copyFrom_32 : decode cX2_copyFrom 32 = .ok (.iconst 2, 1) := by decide +kernel
theorem dX2_copyFrom_33 : decode cX2_copyFrom 33 = .ok (.invokestatic 57, 3) := by decide +kernel
theorem dX2_copyFrom_36 : decode cX2_copyFrom 36 = .ok (.aload_n 0, 1) := by decide +kernel
theorem dX2_copyFrom_37 : decode cX2_copyFrom 37 = .ok (.aload_n 1, 1) := by decide +kernel
theorem dX2_copyFrom_38 : decode cX2_copyFrom 38 = .ok (.getfield 40, 3) := by decide +kernel
theorem dX2_copyFrom_41 : decode cX2_copyFrom 41 = .ok (.putfield 40, 3) := by decide +kernel
theorem dX2_copyFrom_44 : decode cX2_copyFrom 44 = .ok (.aload_n 0, 1) := by decide +kernel
theorem dX2_copyFrom_45 : decode cX2_copyFrom 45 = .ok (.aload_n 1, 1) := by decide +kernel
theorem dX2_copyFrom_46 : decode cX2_copyFrom 46 = .ok (.getfield 43, 3) := by decide +kernel
theorem dX2_copyFrom_49 : decode cX2_copyFrom 49 = .ok (.putfield 43, 3) := by decide +kernel
theorem dX2_copyFrom_52 : decode cX2_copyFrom 52 = .ok (.aload_n 0, 1) := by decide +kernel
theorem dX2_copyFrom_53 : decode cX2_copyFrom 53 = .ok (.aload_n 1, 1) := by decide +kernel
theorem dX2_copyFrom_54 : decode cX2_copyFrom 54 = .ok (.getfield 46, 3) := by decide +kernel
theorem dX2_copyFrom_57 : decode cX2_copyFrom 57 = .ok (.putfield 46, 3) := by decide +kernel
theorem dX2_copyFrom_60 : decode cX2_copyFrom 60 = .ok (.aload_n 0, 1) := by decide +kernel
theorem dX2_copyFrom_61 : decode cX2_copyFrom 61 = .ok (.aload_n 1, 1) := by decide +kernel
theorem dX2_copyFrom_62 : decode cX2_copyFrom 62 = .ok (.getfield 49, 3) := by decide +kernel
theorem dX2_copyFrom_65 : decode cX2_copyFrom 65 = .ok (.putfield 49, 3) := by decide +kernel
theorem dX2_copyFrom_68 : decode cX2_copyFrom 68 = .ok (.return_, 1) := by decide +kernel
theorem dX2_takeTimerNumber_0 : decode cX2_takeTimerNumber 0 = .ok (.aload_n 0, 1) := by decide +kernel
theorem dX2_takeTimerNumber_1 : decode cX2_takeTimerNumber 1 = .ok (.getfield 40, 3) := by decide +kernel
theorem dX2_takeTimerNumber_4 : decode cX2_takeTimerNumber 4 = .ok (.istore_n 1, 1) := by decide +kernel
theorem dX2_takeTimerNumber_5 : decode cX2_takeTimerNumber 5 = .ok (.aload_n 0, 1) := by decide +kernel
theorem dX2_takeTimerNumber_6 : decode cX2_takeTimerNumber 6 = .ok (.dup, 1) := by decide +kernel
theorem dX2_takeTimerNumber_7 : decode cX2_takeTimerNumber 7 = .ok (.getfield 40, 3) := by decide +kernel
theorem dX2_takeTimerNumber_10 : decode cX2_takeTimerNumber 10 = .ok (.iconst 1, 1) := by decide +kernel
theorem dX2_takeTimerNumber_11 : decode cX2_takeTimerNumber 11 = .ok (.iadd, 1) := by decide +kernel
theorem dX2_takeTimerNumber_12 : decode cX2_takeTimerNumber 12 = .ok (.putfield 40, 3) := by decide +kernel
theorem dX2_takeTimerNumber_15 : decode cX2_takeTimerNumber 15 = .ok (.iload_n 1, 1) := by decide +kernel
theorem dX2_takeTimerNumber_16 : decode cX2_takeTimerNumber 16 = .ok (.ireturn, 1) := by decide +kernel
set_option maxRecDepth 20000 in
theorem ggX2_rowGoesAhead_X0_timeAt : GoodIn wsX2_rowGoesAhead wsX0_timeAt := goodIn_r _ [8, 9, 10, 18, 19, 20, 21, 22, 23, 24, 25] (by decide +kernel) (by decide +kernel)
set_option maxRecDepth 20000 in
theorem gX2_rowGoesAhead_X0_timeAt : GoodIn wsX2_rowGoesAhead (wsV RX2 63 RX0 yX0_timeAt wsX0_timeAt) := goodIn_app (goodIn_of _ (by decide +kernel)) ggX2_rowGoesAhead_X0_timeAt
theorem dX2_rowGoesAhead_0 : decode cX2_rowGoesAhead 0 = .ok (.aload_n 0, 1) := by decide +kernel
theorem dX2_rowGoesAhead_1 : decode cX2_rowGoesAhead 1 = .ok (.getfield 18, 3) := by decide +kernel
theorem dX2_rowGoesAhead_4 : decode cX2_rowGoesAhead 4 = .ok (.iload_n 1, 1) := by decide +kernel
theorem dX2_rowGoesAhead_5 : decode cX2_rowGoesAhead 5 = .ok (.invokevirtual 63, 3) := by decide +kernel
theorem dX2_rowGoesAhead_8 : decode cX2_rowGoesAhead 8 = .ok (.lstore_n 3, 1) := by decide +kernel
theorem dX2_rowGoesAhead_9 : decode cX2_rowGoesAhead 9 = .ok (.aload_n 0, 1) := by decide +kernel
theorem dX2_rowGoesAhead_10 : decode cX2_rowGoesAhead 10 = .ok (.getfield 12, 3) := by decide +kernel
end
section
theorem dX2_rowGoesAhead_13 : decode cX2_rowGoesAhead 13 = .ok (.iload_n 2, 1) := by decide +kernel
theorem dX2_rowGoesAhead_14 : decode cX2_rowGoesAhead 14 = .ok (.invokevirtual 63, 3) := by decide +kernel
theorem dX2_rowGoesAhead_17 : decode cX2_rowGoesAhead 17 = .ok (.lstore 5, 2) := by decide +kernel
theorem dX2_rowGoesAhead_19 : decode cX2_rowGoesAhead 19 = .ok (.lload_n 3, 1) := by decide +kernel
theorem dX2_rowGoesAhead_20 : decode cX2_rowGoesAhead 20 = .ok (.lload 5, 2) := by decide +kernel
theorem dX2_rowGoesAhead_22 : decode cX2_rowGoesAhead 22 = .ok (.lcmp, 1) := by decide +kernel
theorem dX2_rowGoesAhead_23 : decode cX2_rowGoesAhead 23 = .ok (.ifCond .ne 10, 3) := by decide +kernel
theorem dX2_rowGoesAhead_26 : decode cX2_rowGoesAhead 26 = .ok (.aload_n 0, 1) := by decide +kernel
theorem dX2_rowGoesAhead_27 : decode cX2_rowGoesAhead 27 = .ok (.getfield 49, 3) := by decide +kernel
theorem dX2_rowGoesAhead_30 : decode cX2_rowGoesAhead 30 = .ok (.goto 15, 3) := by decide +kernel
theorem dX2_rowGoesAhead_33 : decode cX2_rowGoesAhead 33 = .ok (.lload_n 3, 1) := by decide +kernel
theorem dX2_rowGoesAhead_34 : decode cX2_rowGoesAhead 34 = .ok (.lload 5, 2) := by decide +kernel
theorem dX2_rowGoesAhead_36 : decode cX2_rowGoesAhead 36 = .ok (.lcmp, 1) := by decide +kernel
theorem dX2_rowGoesAhead_37 : decode cX2_rowGoesAhead 37 = .ok (.ifCond .ge 7, 3) := by decide +kernel
theorem dX2_rowGoesAhead_40 : decode cX2_rowGoesAhead 40 = .ok (.iconst 1, 1) := by decide +kernel
theorem dX2_rowGoesAhead_41 : decode cX2_rowGoesAhead 41 = .ok (.goto 4, 3) := by decide +kernel
theorem dX2_rowGoesAhead_44 : decode cX2_rowGoesAhead 44 = .ok (.iconst 0, 1) := by decide +kernel
theorem dX2_rowGoesAhead_45 : decode cX2_rowGoesAhead 45 = .ok (.ireturn, 1) := by decide +kernel
set_option maxRecDepth 20000 in
theorem ggX2_finishTimer_X2_takeTimerNumber : GoodIn wsX2_finishTimer wsX2_takeTimerNumber := goodIn_r _ [8, 9, 43, 44, 45, 46, 47, 48, 49] (by decide +kernel) (by decide +kernel)
set_option maxRecDepth 20000 in
theorem gX2_finishTimer_X2_takeTimerNumber : GoodIn wsX2_finishTimer (wsV RX2 74 RX2 yX2_takeTimerNumber wsX2_takeTimerNumber) := goodIn_app (goodIn_of _ (by decide +kernel)) ggX2_finishTimer_X2_takeTimerNumber
set_option maxRecDepth 20000 in
theorem ggX2_finishTimer_X0_setAgain : GoodIn wsX2_finishTimer wsX0_setAgain := goodIn_r _ [14, 15, 16, 17, 18, 19, 20, 21, 22, 23, 13, 24, 25, 26, 27, 28, 29, 30, 31, 32, 33, 34, 35, 36, 37, 38, 39, 40, 41, 50, 51, 52, 53, 54, 55, 56, 57] (by decide +kernel) (by decide +kernel)
set_option maxRecDepth 20000 in
theorem gX2_finishTimer_X0_setAgain : GoodIn wsX2_finishTimer (wsV RX2 78 RX0 yX0_setAgain wsX0_setAgain) := goodIn_app (goodIn_of _ (by decide +kernel)) ggX2_finishTimer_X0_setAgain
set_option maxRecDepth 20000 in
theorem ggX2_finishTimer_X0_leave : GoodIn wsX2_finishTimer wsX0_leave := goodIn_r _ [24, 15, 16, 25, 26, 27, 28, 50, 51, 52, 53, 54, 55, 56, 57] (by decide +kernel) (by decide +kernel)
set_option maxRecDepth 20000 in
theorem gX2_finishTimer_X0_leave : GoodIn wsX2_finishTimer (wsV RX2 82 RX0 yX0_leave wsX0_leave) := goodIn_app (goodIn_of _ (by decide +kernel)) ggX2_finishTimer_X0_leave
theorem dX2_finishTimer_0 : decode cX2_finishTimer 0 = .ok (.aload_n 0, 1) := by decide +kernel
theorem dX2_finishTimer_1 : decode cX2_finishTimer 1 = .ok (.getfield 12, 3) := by decide +kernel
theorem dX2_finishTimer_4 : decode cX2_finishTimer 4 = .ok (.getfield 67, 3) := by decide +kernel
theorem dX2_finishTimer_7 : decode cX2_finishTimer 7 = .ok (.aload_n 0, 1) := by decide +kernel
theorem dX2_finishTimer_8 : decode cX2_finishTimer 8 = .ok (.getfield 12, 3) := by decide +kernel
theorem dX2_finishTimer_11 : decode cX2_finishTimer 11 = .ok (.getfield 71, 3) := by decide +kernel
theorem dX2_finishTimer_14 : decode cX2_finishTimer 14 = .ok (.iload_n 1, 1) := by decide +kernel
theorem dX2_finishTimer_15 : decode cX2_finishTimer 15 = .ok (.iaload, 1) := by decide +kernel
theorem dX2_finishTimer_16 : decode cX2_finishTimer 16 = .ok (.iaload, 1) := by decide +kernel
theorem dX2_finishTimer_17 : decode cX2_finishTimer 17 = .ok (.ifCond .le 18, 3) := by decide +kernel
theorem dX2_finishTimer_20 : decode cX2_finishTimer 20 = .ok (.aload_n 0, 1) := by decide +kernel
theorem dX2_finishTimer_21 : decode cX2_finishTimer 21 = .ok (.getfield 12, 3) := by decide +kernel
theorem dX2_finishTimer_24 : decode cX2_finishTimer 24 = .ok (.iload_n 1, 1) := by decide +kernel
theorem dX2_finishTimer_25 : decode cX2_finishTimer 25 = .ok (.aload_n 0, 1) := by decide +kernel
theorem dX2_finishTimer_26 : decode cX2_finishTimer 26 = .ok (.invokevirtual 74, 3) := by decide +kernel
theorem dX2_finishTimer_29 : decode cX2_finishTimer 29 = .ok (.invokevirtual 78, 3) := by decide +kernel
theorem dX2_finishTimer_32 : decode cX2_finishTimer 32 = .ok (.goto 11, 3) := by decide +kernel
theorem dX2_finishTimer_35 : decode cX2_finishTimer 35 = .ok (.aload_n 0, 1) := by decide +kernel
theorem dX2_finishTimer_36 : decode cX2_finishTimer 36 = .ok (.getfield 12, 3) := by decide +kernel
theorem dX2_finishTimer_39 : decode cX2_finishTimer 39 = .ok (.iload_n 1, 1) := by decide +kernel
theorem dX2_finishTimer_40 : decode cX2_finishTimer 40 = .ok (.invokevirtual 82, 3) := by decide +kernel
theorem dX2_finishTimer_43 : decode cX2_finishTimer 43 = .ok (.return_, 1) := by decide +kernel
set_option maxRecDepth 20000 in
theorem ggX3_init_X2_init : GoodIn wsX3_init wsX2_init := goodIn_r _ [16, 17, 2, 3, 18, 19, 20, 21, 22, 23, 24, 25, 26, 27, 28, 29, 30, 31, 32, 33, 34, 35, 36, 37, 38, 39, 40, 6, 41, 42, 43, 44, 45, 46, 47, 48, 49, 50, 51, 77, 78, 79, 80, 81, 82, 83, 84, 60, 61, 62, 63, 64, 65, 66] (by decide +kernel) (by decide +kernel)
set_option maxRecDepth 20000 in
theorem gX3_init_X2_init : GoodIn wsX3_init (wsX2_init) := ggX3_init_X2_init
set_option maxRecDepth 20000 in
theorem ggX3_init_X1_init : GoodIn wsX3_init wsX1_init := goodIn_r _ [53, 54, 2, 3, 29, 55, 56, 23, 57, 58, 59, 71, 72, 73, 74, 75, 76] (by decide +kernel) (by decide +kernel)
set_option maxRecDepth 20000 in
theorem gX3_init_X1_init_n22 : GoodIn wsX3_init (wsX1_init) := ggX3_init_X1_init
theorem dX3_init_0 : decode cX3_init 0 = .ok (.aload_n 0, 1) := by decide +kernel
theorem dX3_init_1 : decode cX3_init 1 = .ok (.invokespecial 3, 3) := by decide +kernel
theorem dX3_init_4 : decode cX3_init 4 = .ok (.aload_n 0, 1) := by decide +kernel
theorem dX3_init_5 : decode cX3_init 5 = .ok (.new 9, 3) := by decide +kernel
theorem dX3_init_8 : decode cX3_init 8 = .ok (.dup, 1) := by decide +kernel
theorem dX3_init_9 : decode cX3_init 9 = .ok (.invokespecial 11, 3) := by decide +kernel
theorem dX3_init_12 : decode cX3_init 12 = .ok (.putfield 12, 3) := by decide +kernel
theorem dX3_init_15 : decode cX3_init 15 = .ok (.aload_n 0, 1) := by decide +kernel
theorem dX3_init_16 : decode cX3_init 16 = .ok (.iconst 3, 1) := by decide +kernel
theorem dX3_init_17 : decode cX3_init 17 = .ok (.anewarray 9, 3) := by decide +kernel
theorem dX3_init_20 : decode cX3_init 20 = .ok (.putfield 16, 3) := by decide +kernel
theorem dX3_init_23 : decode cX3_init 23 = .ok (.aload_n 0, 1) := by decide +kernel
theorem dX3_init_24 : decode cX3_init 24 = .ok (.new 20, 3) := by decide +kernel
theorem dX3_init_27 : decode cX3_init 27 = .ok (.dup, 1) := by decide +kernel
theorem dX3_init_28 : decode cX3_init 28 = .ok (.invokespecial 22, 3) := by decide +kernel
theorem dX3_init_31 : decode cX3_init 31 = .ok (.putfield 23, 3) := by decide +kernel
theorem dX3_init_34 : decode cX3_init 34 = .ok (.aload_n 0, 1) := by decide +kernel
theorem dX3_init_35 : decode cX3_init 35 = .ok (.iconst 0, 1) := by decide +kernel
theorem dX3_init_36 : decode cX3_init 36 = .ok (.putfield 27, 3) := by decide +kernel
theorem dX3_init_39 : decode cX3_init 39 = .ok (.return_, 1) := by decide +kernel
set_option maxRecDepth 20000 in
theorem ggX3_clear_X2_begin : GoodIn wsX3_clear wsX2_begin := goodIn_r _ [12, 13, 14, 15, 16, 17, 18, 19, 20, 21, 22, 23, 24, 25, 30, 31, 32, 33, 34, 35, 36, 37, 38, 39, 40, 41, 42, 43, 44] (by decide +kernel) (by decide +kernel)
set_option maxRecDepth 20000 in
theorem gX3_clear_X2_begin : GoodIn wsX3_clear (wsV RX3 43 RX2 yX2_begin wsX2_begin) := goodIn_app (goodIn_of _ (by decide +kernel)) ggX3_clear_X2_begin
theorem dX3_clear_0 : decode cX3_clear 0 = .ok (.aload_n 0, 1) := by decide +kernel
theorem dX3_clear_1 : decode cX3_clear 1 = .ok (.getfield 12, 3) := by decide +kernel
theorem dX3_clear_4 : decode cX3_clear 4 = .ok (.getfield 31, 3) := by decide +kernel
theorem dX3_clear_7 : decode cX3_clear 7 = .ok (.getfield 35, 3) := by decide +kernel
theorem dX3_clear_10 : decode cX3_clear 10 = .ok (.aload_n 0, 1) := by decide +kernel
theorem dX3_clear_11 : decode cX3_clear 11 = .ok (.getfield 12, 3) := by decide +kernel
theorem dX3_clear_14 : decode cX3_clear 14 = .ok (.getfield 40, 3) := by decide +kernel
theorem dX3_clear_17 : decode cX3_clear 17 = .ok (.getfield 35, 3) := by decide +kernel
theorem dX3_clear_20 : decode cX3_clear 20 = .ok (.iadd, 1) := by decide +kernel
theorem dX3_clear_21 : decode cX3_clear 21 = .ok (.istore_n 1, 1) := by decide +kernel
theorem dX3_clear_22 : decode cX3_clear 22 = .ok (.aload_n 0, 1) := by decide +kernel
theorem dX3_clear_23 : decode cX3_clear 23 = .ok (.getfield 12, 3) := by decide +kernel
theorem dX3_clear_26 : decode cX3_clear 26 = .ok (.invokevirtual 43, 3) := by decide +kernel
theorem dX3_clear_29 : decode cX3_clear 29 = .ok (.aload_n 0, 1) := by decide +kernel
theorem dX3_clear_30 : decode cX3_clear 30 = .ok (.getfield 23, 3) := by decide +kernel
theorem dX3_clear_33 : decode cX3_clear 33 = .ok (.iconst 0, 1) := by decide +kernel
theorem dX3_clear_34 : decode cX3_clear 34 = .ok (.putfield 46, 3) := by decide +kernel
theorem dX3_clear_37 : decode cX3_clear 37 = .ok (.aload_n 0, 1) := by decide +kernel
theorem dX3_clear_38 : decode cX3_clear 38 = .ok (.iconst 0, 1) := by decide +kernel
theorem dX3_clear_39 : decode cX3_clear 39 = .ok (.putfield 27, 3) := by decide +kernel
theorem dX3_clear_42 : decode cX3_clear 42 = .ok (.iload_n 1, 1) := by decide +kernel
theorem dX3_clear_43 : decode cX3_clear 43 = .ok (.ireturn, 1) := by decide +kernel
set_option maxRecDepth 20000 in
theorem ggX3_set_X3_needClock : GoodIn wsX3_set wsX3_needClock := goodIn_ca (goodIn_r _ [11, 1, 2] (by decide +kernel) (by decide +kernel)) (goodIn_sub (fun _ h => List.mem_cons_of_mem _ (List.mem_append_left _ (List.mem_append_right _ h))) (by decide +kernel))
set_option maxRecDepth 20000 in
theorem gX3_set_X3_needClock : GoodIn wsX3_set (va_wsS RX3 47 yX3_needClock wsX3_needClock) := goodIn_app (goodIn_of _ (by decide +kernel)) ggX3_set_X3_needClock
set_option maxRecDepth 20000 in
theorem ggX3_set_X3_needTime : GoodIn wsX3_set wsX3_needTime := goodIn_ca (goodIn_r _ [14, 1, 2, 15] (by decide +kernel) (by decide +kernel)) (goodIn_sub (fun _ h => List.mem_cons_of_mem _ (List.mem_append_left _ (List.mem_append_right _ h))) (by decide +kernel))
set_option maxRecDepth 20000 in
theorem gX3_set_X3_needTime : GoodIn wsX3_set (va_wsS RX3 51 yX3_needTime wsX3_needTime) := goodIn_app (goodIn_of _ (by decide +kernel)) ggX3_set_X3_needTime
set_option maxRecDepth 20000 in
theorem ggX3_set_X0_isFull : GoodIn wsX3_set wsX0_isFull := goodIn_r _ [20, 21, 66, 67, 68, 69, 70, 71, 72, 73] (by decide +kernel) (by decide +kernel)
set_option maxRecDepth 20000 in
theorem gX3_set_X0_isFull : GoodIn wsX3_set (wsV RX3 66 RX0 yX0_isFull wsX0_isFull) := goodIn_app (goodIn_of _ (by decide +kernel)) ggX3_set_X0_isFull
set_option maxRecDepth 20000 in
theorem ggX3_set_X2_takeTimerNumber : GoodIn wsX3_set wsX2_takeTimerNumber := goodIn_r _ [26, 27, 59, 60, 61, 62, 63, 64, 65] (by decide +kernel) (by decide +kernel)
set_option maxRecDepth 20000 in
theorem gX3_set_X2_takeTimerNumber : GoodIn wsX3_set (wsV RX3 75 RX2 yX2_takeTimerNumber wsX2_takeTimerNumber) := goodIn_app (goodIn_of _ (by decide +kernel)) ggX3_set_X2_takeTimerNumber
set_option maxRecDepth 20000 in
theorem ggX3_set_X0_enter : GoodIn wsX3_set wsX0_enter := goodIn_r _ [31, 32, 21, 33, 34, 35, 36, 37, 38, 39, 40, 41, 19, 42, 43, 44, 45, 46, 47, 48, 49, 50, 51, 52, 53, 54, 66, 67, 68, 69, 70, 71, 72, 73] (by decide +kernel) (by decide +kernel)
set_option maxRecDepth 20000 in
theorem gX3_set_X0_enter : GoodIn wsX3_set (wsV RX3 79 RX0 yX0_enter wsX0_enter) := goodIn_app (goodIn_of _ (by decide +kernel)) ggX3_set_X0_enter
theorem dX3_set_0 : decode cX3_set 0 = .ok (.iload_n 1, 1) := by decide +kernel
theorem dX3_set_1 : decode cX3_set 1 = .ok (.invokestatic 47, 3) := by decide +kernel
theorem dX3_set_4 : decode cX3_set 4 = .ok (.lload 4, 2) := by decide +kernel
theorem dX3_set_6 : decode cX3_set 6 = .ok (.invokestatic 51, 3) := by decide +kernel
theorem dX3_set_9 : decode cX3_set 9 = .ok (.lload 6, 2) := by decide +kernel
theorem dX3_set_11 : decode cX3_set 11 = .ok (.lconst 0, 1) := by decide +kernel
theorem dX3_set_12 : decode cX3_set 12 = .ok (.lcmp, 1) := by decide +kernel
theorem dX3_set_13 : decode cX3_set 13 = .ok (.ifCond .lt 12, 3) := by decide +kernel
theorem dX3_set_16 : decode cX3_set 16 = .ok (.lload 6, 2) := by decide +kernel
theorem dX3_set_18 : decode cX3_set 18 = .ok (.ldc2_w 55, 3) := by decide +kernel
theorem dX3_set_21 : decode cX3_set 21 = .ok (.lcmp, 1) := by decide +kernel
theorem dX3_set_22 : decode cX3_set 22 = .ok (.ifCond .le 13, 3) := by decide +kernel
theorem dX3_set_25 : decode cX3_set 25 = .ok (.new 57, 3) := by decide +kernel
theorem dX3_set_28 : decode cX3_set 28 = .ok (.dup, 1) := by decide +kernel
theorem dX3_set_29 : decode cX3_set 29 = .ok (.ldc 59, 2) := by decide +kernel
theorem dX3_set_31 : decode cX3_set 31 = .ok (.invokespecial 61, 3) := by decide +kernel
theorem dX3_set_34 : decode cX3_set 34 = .ok (.athrow, 1) := by decide +kernel
theorem dX3_set_35 : decode cX3_set 35 = .ok (.iload 8, 2) := by decide +kernel
theorem dX3_set_37 : decode cX3_set 37 = .ok (.ifCond .lt 10, 3) := by decide +kernel
theorem dX3_set_40 : decode cX3_set 40 = .ok (.iload 8, 2) := by decide +kernel
theorem dX3_set_42 : decode cX3_set 42 = .ok (.bipush 50, 2) := by decide +kernel
theorem dX3_set_44 : decode cX3_set 44 = .ok (.if_icmp .le 13, 3) := by decide +kernel
theorem dX3_set_47 : decode cX3_set 47 = .ok (.new 57, 3) := by decide +kernel
theorem dX3_set_50 : decode cX3_set 50 = .ok (.dup, 1) := by decide +kernel
theorem dX3_set_51 : decode cX3_set 51 = .ok (.ldc 64, 2) := by decide +kernel
theorem dX3_set_53 : decode cX3_set 53 = .ok (.invokespecial 61, 3) := by decide +kernel
theorem dX3_set_56 : decode cX3_set 56 = .ok (.athrow, 1) := by decide +kernel
theorem dX3_set_57 : decode cX3_set 57 = .ok (.aload_n 0, 1) := by decide +kernel
theorem dX3_set_58 : decode cX3_set 58 = .ok (.getfield 12, 3) := by decide +kernel
theorem dX3_set_61 : decode cX3_set 61 = .ok (.getfield 31, 3) := by decide +kernel
theorem dX3_set_64 : decode cX3_set 64 = .ok (.invokevirtual 66, 3) := by decide +kernel
theorem dX3_set_67 : decode cX3_set 67 = .ok (.ifCond .eq 13, 3) := by decide +kernel
theorem dX3_set_70 : decode cX3_set 70 = .ok (.new 70, 3) := by decide +kernel
theorem dX3_set_73 : decode cX3_set 73 = .ok (.dup, 1) := by decide +kernel
theorem dX3_set_74 : decode cX3_set 74 = .ok (.ldc 72, 2) := by decide +kernel
theorem dX3_set_76 : decode cX3_set 76 = .ok (.invokespecial 74, 3) := by decide +kernel
theorem dX3_set_79 : decode cX3_set 79 = .ok (.athrow, 1) := by decide +kernel
theorem dX3_set_80 : decode cX3_set 80 = .ok (.aload_n 0, 1) := by decide +kernel
theorem dX3_set_81 : decode cX3_set 81 = .ok (.getfield 12, 3) := by decide +kernel
theorem dX3_set_84 : decode cX3_set 84 = .ok (.invokevirtual 75, 3) := by decide +kernel
theorem dX3_set_87 : decode cX3_set 87 = .ok (.istore 9, 2) := by decide +kernel
theorem dX3_set_89 : decode cX3_set 89 = .ok (.aload_n 0, 1) := by decide +kernel
theorem dX3_set_90 : decode cX3_set 90 = .ok (.getfield 12, 3) := by decide +kernel
theorem dX3_set_93 : decode cX3_set 93 = .ok (.getfield 31, 3) := by decide +kernel
theorem dX3_set_96 : decode cX3_set 96 = .ok (.iload 9, 2) := by decide +kernel
theorem dX3_set_98 : decode cX3_set 98 = .ok (.iload_n 1, 1) := by decide +kernel
theorem dX3_set_99 : decode cX3_set 99 = .ok (.lload_n 2, 1) := by decide +kernel
theorem dX3_set_100 : decode cX3_set 100 = .ok (.lload 4, 2) := by decide +kernel
theorem dX3_set_102 : decode cX3_set 102 = .ok (.lload 6, 2) := by decide +kernel
theorem dX3_set_104 : decode cX3_set 104 = .ok (.iload 8, 2) := by decide +kernel
theorem dX3_set_106 : decode cX3_set 106 = .ok (.invokevirtual 79, 3) := by decide +kernel
theorem dX3_set_109 : decode cX3_set 109 = .ok (.iload 9, 2) := by decide +kernel
theorem dX3_set_111 : decode cX3_set 111 = .ok (.ireturn, 1) := by decide +kernel
set_option maxRecDepth 20000 in
theorem ggX3_move_X3_needTime : GoodIn wsX3_move wsX3_needTime := goodIn_ca (goodIn_r _ [6, 7, 8, 9] (by decide +kernel) (by decide +kernel)) (goodIn_sub (fun _ h => List.mem_cons_of_mem _ (List.mem_append_left _ (List.mem_append_right _ h))) (by decide +kernel))
set_option maxRecDepth 20000 in
theorem gX3_move_X3_needTime : GoodIn wsX3_move (va_wsS RX3 51 yX3_needTime wsX3_needTime) := goodIn_app (goodIn_of _ (by decide +kernel)) ggX3_move_X3_needTime
set_option maxRecDepth 20000 in
theorem ggX3_move_X3_needTimer : GoodIn wsX3_move wsX3_needTimer := goodIn_ca (goodIn_r _ [13, 14, 15, 1, 2, 16, 17, 18, 19, 20, 21, 22, 23, 54, 55, 56, 57, 58, 59, 60, 61, 62, 63, 64, 65, 66, 67, 68, 69, 70, 71, 72] (by decide +kernel) (by decide +kernel)) (goodIn_sub (fun _ h => List.mem_cons_of_mem _ (List.mem_append_right _ h)) (by decide +kernel))
set_option maxRecDepth 20000 in
theorem gX3_move_X3_needTimer : GoodIn wsX3_move (wsV RX3 83 RX3 yX3_needTimer wsX3_needTimer) := goodIn_app (goodIn_of _ (by decide +kernel)) ggX3_move_X3_needTimer
set_option maxRecDepth 20000 in
theorem ggX3_move_X0_timeAt : GoodIn wsX3_move wsX0_timeAt := goodIn_r _ [27, 28, 23, 65, 66, 67, 68, 69, 70, 71, 72] (by decide +kernel) (by decide +kernel)
set_option maxRecDepth 20000 in
theorem gX3_move_X0_timeAt : GoodIn wsX3_move (wsV RX3 87 RX0 yX0_timeAt wsX0_timeAt) := goodIn_app (goodIn_of _ (by decide +kernel)) ggX3_move_X0_timeAt
set_option maxRecDepth 20000 in
theorem ggX3_move_X0_retime : GoodIn wsX3_move wsX0_retime := goodIn_r _ [32, 28, 23, 21, 33, 34, 35, 19, 36, 37, 38, 39, 40, 41, 42, 43, 44, 45, 46, 47, 48, 49, 50, 51, 52, 53, 22, 65, 66, 67, 68, 69, 70, 71, 72] (by decide +kernel) (by decide +kernel)
set_option maxRecDepth 20000 in
theorem gX3_move_X0_retime : GoodIn wsX3_move (wsV RX3 91 RX0 yX0_retime wsX0_retime) := goodIn_app (goodIn_of _ (by decide +kernel)) ggX3_move_X0_retime
theorem dX3_move_0 : decode cX3_move 0 = .ok (.lload_n 2, 1) := by decide +kernel
theorem dX3_move_1 : decode cX3_move 1 = .ok (.invokestatic 51, 3) := by decide +kernel
theorem dX3_move_4 : decode cX3_move 4 = .ok (.aload_n 0, 1) := by decide +kernel
theorem dX3_move_5 : decode cX3_move 5 = .ok (.iload_n 1, 1) := by decide +kernel
theorem dX3_move_6 : decode cX3_move 6 = .ok (.invokevirtual 83, 3) := by decide +kernel
theorem dX3_move_9 : decode cX3_move 9 = .ok (.istore 4, 2) := by decide +kernel
theorem dX3_move_11 : decode cX3_move 11 = .ok (.aload_n 0, 1) := by decide +kernel
theorem dX3_move_12 : decode cX3_move 12 = .ok (.getfield 12, 3) := by decide +kernel
theorem dX3_move_15 : decode cX3_move 15 = .ok (.getfield 31, 3) := by decide +kernel
theorem dX3_move_18 : decode cX3_move 18 = .ok (.iload 4, 2) := by decide +kernel
theorem dX3_move_20 : decode cX3_move 20 = .ok (.invokevirtual 87, 3) := by decide +kernel
theorem dX3_move_23 : decode cX3_move 23 = .ok (.lstore 5, 2) := by decide +kernel
theorem dX3_move_25 : decode cX3_move 25 = .ok (.aload_n 0, 1) := by decide +kernel
theorem dX3_move_26 : decode cX3_move 26 = .ok (.getfield 12, 3) := by decide +kernel
theorem dX3_move_29 : decode cX3_move 29 = .ok (.getfield 31, 3) := by decide +kernel
theorem dX3_move_32 : decode cX3_move 32 = .ok (.iload 4, 2) := by decide +kernel
theorem dX3_move_34 : decode cX3_move 34 = .ok (.lload_n 2, 1) := by decide +kernel
theorem dX3_move_35 : decode cX3_move 35 = .ok (.invokevirtual 91, 3) := by decide +kernel
theorem dX3_move_38 : decode cX3_move 38 = .ok (.lload 5, 2) := by decide +kernel
theorem dX3_move_40 : decode cX3_move 40 = .ok (.lreturn, 1) := by decide +kernel
set_option maxRecDepth 20000 in
theorem ggX3_cancel_X0_placeOf : GoodIn wsX3_cancel wsX0_placeOf := goodIn_r _ [7, 8, 9, 10, 30, 31, 32, 33, 34, 35, 36, 37] (by decide +kernel) (by decide +kernel)
set_option maxRecDepth 20000 in
theorem gX3_cancel_X0_placeOf : GoodIn wsX3_cancel (wsV RX3 95 RX0 yX0_placeOf wsX0_placeOf) := goodIn_app (goodIn_of _ (by decide +kernel)) ggX3_cancel_X0_placeOf
set_option maxRecDepth 20000 in
theorem ggX3_cancel_X0_leave : GoodIn wsX3_cancel wsX0_leave := goodIn_r _ [14, 10, 8, 15, 16, 17, 18, 30, 31, 32, 33, 34, 35, 36, 37] (by decide +kernel) (by decide +kernel)
set_option maxRecDepth 20000 in
theorem gX3_cancel_X0_leave : GoodIn wsX3_cancel (wsV RX3 98 RX0 yX0_leave wsX0_leave) := goodIn_app (goodIn_of _ (by decide +kernel)) ggX3_cancel_X0_leave
theorem dX3_cancel_0 : decode cX3_cancel 0 = .ok (.aload_n 0, 1) := by decide +kernel
theorem dX3_cancel_1 : decode cX3_cancel 1 = .ok (.getfield 12, 3) := by decide +kernel
theorem dX3_cancel_4 : decode cX3_cancel 4 = .ok (.getfield 31, 3) := by decide +kernel
theorem dX3_cancel_7 : decode cX3_cancel 7 = .ok (.iload_n 1, 1) := by decide +kernel
theorem dX3_cancel_8 : decode cX3_cancel 8 = .ok (.invokevirtual 95, 3) := by decide +kernel
theorem dX3_cancel_11 : decode cX3_cancel 11 = .ok (.istore_n 2, 1) := by decide +kernel
theorem dX3_cancel_12 : decode cX3_cancel 12 = .ok (.iload_n 2, 1) := by decide +kernel
theorem dX3_cancel_13 : decode cX3_cancel 13 = .ok (.iconst (-1), 1) := by decide +kernel
theorem dX3_cancel_14 : decode cX3_cancel 14 = .ok (.if_icmp .ne 5, 3) := by decide +kernel
theorem dX3_cancel_17 : decode cX3_cancel 17 = .ok (.iconst 0, 1) := by decide +kernel
theorem dX3_cancel_18 : decode cX3_cancel 18 = .ok (.ireturn, 1) := by decide +kernel
theorem dX3_cancel_19 : decode cX3_cancel 19 = .ok (.aload_n 0, 1) := by decide +kernel
theorem dX3_cancel_20 : decode cX3_cancel 20 = .ok (.getfield 12, 3) := by decide +kernel
theorem dX3_cancel_23 : decode cX3_cancel 23 = .ok (.getfield 31, 3) := by decide +kernel
theorem dX3_cancel_26 : decode cX3_cancel 26 = .ok (.iload_n 2, 1) := by decide +kernel
theorem dX3_cancel_27 : decode cX3_cancel 27 = .ok (.invokevirtual 98, 3) := by decide +kernel
theorem dX3_cancel_30 : decode cX3_cancel 30 = .ok (.iconst 1, 1) := by decide +kernel
theorem dX3_cancel_31 : decode cX3_cancel 31 = .ok (.ireturn, 1) := by decide +kernel
set_option maxRecDepth 20000 in
theorem ggX3_row_X3_needTime : GoodIn wsX3_row wsX3_needTime := goodIn_ca (goodIn_r _ [11, 12, 13, 14] (by decide +kernel) (by decide +kernel)) (goodIn_sub (fun _ h => List.mem_cons_of_mem _ (List.mem_append_right _ h)) (by decide +kernel))
set_option maxRecDepth 20000 in
theorem gX3_row_X3_needTime : GoodIn wsX3_row (va_wsS RX3 51 yX3_needTime wsX3_needTime) := goodIn_app (goodIn_of _ (by decide +kernel)) ggX3_row_X3_needTime
set_option maxRecDepth 20000 in
theorem ggX3_row_X0_isFull : GoodIn wsX3_row wsX0_isFull := goodIn_r _ [19, 20, 59, 60, 61, 62, 63, 64, 65, 66] (by decide +kernel) (by decide +kernel)
set_option maxRecDepth 20000 in
theorem gX3_row_X0_isFull : GoodIn wsX3_row (wsV RX3 66 RX0 yX0_isFull wsX0_isFull) := goodIn_app (goodIn_of _ (by decide +kernel)) ggX3_row_X0_isFull
set_option maxRecDepth 20000 in
theorem ggX3_row_X0_enter : GoodIn wsX3_row wsX0_enter := goodIn_r _ [24, 25, 20, 26, 27, 28, 29, 30, 31, 32, 33, 34, 18, 35, 36, 37, 38, 39, 40, 41, 42, 43, 44, 45, 46, 47, 59, 60, 61, 62, 63, 64, 65, 66] (by decide +kernel) (by decide +kernel)
set_option maxRecDepth 20000 in
theorem gX3_row_X0_enter : GoodIn wsX3_row (wsV RX3 79 RX0 yX0_enter wsX0_enter) := goodIn_app (goodIn_of _ (by decide +kernel)) ggX3_row_X0_enter
theorem dX3_row_0 : decode cX3_row 0 = .ok (.lload_n 3, 1) := by decide +kernel
theorem dX3_row_1 : decode cX3_row 1 = .ok (.invokestatic 51, 3) := by decide +kernel
theorem dX3_row_4 : decode cX3_row 4 = .ok (.lload_n 3, 1) := by decide +kernel
theorem dX3_row_5 : decode cX3_row 5 = .ok (.aload_n 0, 1) := by decide +kernel
theorem dX3_row_6 : decode cX3_row 6 = .ok (.getfield 12, 3) := by decide +kernel
theorem dX3_row_9 : decode cX3_row 9 = .ok (.getfield 101, 3) := by decide +kernel
theorem dX3_row_12 : decode cX3_row 12 = .ok (.iconst 0, 1) := by decide +kernel
theorem dX3_row_13 : decode cX3_row 13 = .ok (.laload, 1) := by decide +kernel
theorem dX3_row_14 : decode cX3_row 14 = .ok (.lcmp, 1) := by decide +kernel
theorem dX3_row_15 : decode cX3_row 15 = .ok (.ifCond .gt 18, 3) := by decide +kernel
theorem dX3_row_18 : decode cX3_row 18 = .ok (.aload_n 0, 1) := by decide +kernel
theorem dX3_row_19 : decode cX3_row 19 = .ok (.getfield 12, 3) := by decide +kernel
theorem dX3_row_22 : decode cX3_row 22 = .ok (.dup, 1) := by decide +kernel
theorem dX3_row_23 : decode cX3_row 23 = .ok (.getfield 105, 3) := by decide +kernel
theorem dX3_row_26 : decode cX3_row 26 = .ok (.iconst 1, 1) := by decide +kernel
theorem dX3_row_27 : decode cX3_row 27 = .ok (.iadd, 1) := by decide +kernel
theorem dX3_row_28 : decode cX3_row 28 = .ok (.putfield 105, 3) := by decide +kernel
theorem dX3_row_31 : decode cX3_row 31 = .ok (.iconst (-1), 1) := by decide +kernel
theorem dX3_row_32 : decode cX3_row 32 = .ok (.ireturn, 1) := by decide +kernel
theorem dX3_row_33 : decode cX3_row 33 = .ok (.aload_n 0, 1) := by decide +kernel
theorem dX3_row_34 : decode cX3_row 34 = .ok (.getfield 12, 3) := by decide +kernel
theorem dX3_row_37 : decode cX3_row 37 = .ok (.getfield 40, 3) := by decide +kernel
theorem dX3_row_40 : decode cX3_row 40 = .ok (.invokevirtual 66, 3) := by decide +kernel
theorem dX3_row_43 : decode cX3_row 43 = .ok (.ifCond .eq 13, 3) := by decide +kernel
theorem dX3_row_46 : decode cX3_row 46 = .ok (.new 70, 3) := by decide +kernel
theorem dX3_row_49 : decode cX3_row 49 = .ok (.dup, 1) := by decide +kernel
theorem dX3_row_50 : decode cX3_row 50 = .ok (.ldc 108, 2) := by decide +kernel
theorem dX3_row_52 : decode cX3_row 52 = .ok (.invokespecial 74, 3) := by decide +kernel
theorem dX3_row_55 : decode cX3_row 55 = .ok (.athrow, 1) := by decide +kernel
theorem dX3_row_56 : decode cX3_row 56 = .ok (.aload_n 0, 1) := by decide +kernel
theorem dX3_row_57 : decode cX3_row 57 = .ok (.getfield 12, 3) := by decide +kernel
theorem dX3_row_60 : decode cX3_row 60 = .ok (.getfield 110, 3) := by decide +kernel
theorem dX3_row_63 : decode cX3_row 63 = .ok (.istore 5, 2) := by decide +kernel
theorem dX3_row_65 : decode cX3_row 65 = .ok (.aload_n 0, 1) := by decide +kernel
theorem dX3_row_66 : decode cX3_row 66 = .ok (.getfield 12, 3) := by decide +kernel
theorem dX3_row_69 : decode cX3_row 69 = .ok (.dup, 1) := by decide +kernel
theorem dX3_row_70 : decode cX3_row 70 = .ok (.getfield 110, 3) := by decide +kernel
theorem dX3_row_73 : decode cX3_row 73 = .ok (.iconst 1, 1) := by decide +kernel
theorem dX3_row_74 : decode cX3_row 74 = .ok (.iadd, 1) := by decide +kernel
theorem dX3_row_75 : decode cX3_row 75 = .ok (.putfield 110, 3) := by decide +kernel
theorem dX3_row_78 : decode cX3_row 78 = .ok (.aload_n 0, 1) := by decide +kernel
theorem dX3_row_79 : decode cX3_row 79 = .ok (.getfield 12, 3) := by decide +kernel
theorem dX3_row_82 : decode cX3_row 82 = .ok (.getfield 40, 3) := by decide +kernel
theorem dX3_row_85 : decode cX3_row 85 = .ok (.iload 5, 2) := by decide +kernel
theorem dX3_row_87 : decode cX3_row 87 = .ok (.iconst 0, 1) := by decide +kernel
theorem dX3_row_88 : decode cX3_row 88 = .ok (.lload_n 1, 1) := by decide +kernel
theorem dX3_row_89 : decode cX3_row 89 = .ok (.lload_n 3, 1) := by decide +kernel
theorem dX3_row_90 : decode cX3_row 90 = .ok (.lconst 0, 1) := by decide +kernel
theorem dX3_row_91 : decode cX3_row 91 = .ok (.iconst 0, 1) := by decide +kernel
theorem dX3_row_92 : decode cX3_row 92 = .ok (.invokevirtual 79, 3) := by decide +kernel
theorem dX3_row_95 : decode cX3_row 95 = .ok (.iload 5, 2) := by decide +kernel
theorem dX3_row_97 : decode cX3_row 97 = .ok (.ireturn, 1) := by decide +kernel
theorem dX3_first_0 : decode cX3_first 0 = .ok (.aload_n 0, 1) := by decide +kernel
theorem dX3_first_1 : decode cX3_first 1 = .ok (.getfield 12, 3) := by decide +kernel
theorem dX3_first_4 : decode cX3_first 4 = .ok (.getfield 113, 3) := by decide +kernel
theorem dX3_first_7 : decode cX3_first 7 = .ok (.istore_n 2, 1) := by decide +kernel
theorem dX3_first_8 : decode cX3_first 8 = .ok (.aload_n 0, 1) := by decide +kernel
theorem dX3_first_9 : decode cX3_first 9 = .ok (.getfield 12, 3) := by decide +kernel
theorem dX3_first_12 : decode cX3_first 12 = .ok (.iload_n 1, 1) := by decide +kernel
theorem dX3_first_13 : decode cX3_first 13 = .ok (.putfield 113, 3) := by decide +kernel
theorem dX3_first_16 : decode cX3_first 16 = .ok (.iload_n 2, 1) := by decide +kernel
theorem dX3_first_17 : decode cX3_first 17 = .ok (.ireturn, 1) := by decide +kernel
set_option maxRecDepth 20000 in
theorem ggX3_pass_X3_needClock : GoodIn wsX3_pass wsX3_needClock := goodIn_ca (goodIn_r _ [10, 1, 2] (by decide +kernel) (by decide +kernel)) (goodIn_sub (fun _ h => List.mem_cons_of_mem _ (List.mem_append_right _ h)) (by decide +kernel))
set_option maxRecDepth 20000 in
theorem gX3_pass_X3_needClock : GoodIn wsX3_pass (va_wsS RX3 47 yX3_needClock wsX3_needClock) := goodIn_app (goodIn_of _ (by decide +kernel)) ggX3_pass_X3_needClock
set_option maxRecDepth 20000 in
theorem ggX3_pass_X3_needTime : GoodIn wsX3_pass wsX3_needTime := goodIn_ca (goodIn_r _ [13, 1, 2, 14] (by decide +kernel) (by decide +kernel)) (goodIn_sub (fun _ h => List.mem_cons_of_mem _ (List.mem_append_right _ h)) (by decide +kernel))
set_option maxRecDepth 20000 in
theorem gX3_pass_X3_needTime : GoodIn wsX3_pass (va_wsS RX3 51 yX3_needTime wsX3_needTime) := goodIn_app (goodIn_of _ (by decide +kernel)) ggX3_pass_X3_needTime
set_option maxRecDepth 20000 in
theorem ggX3_pass_X3_doFirstDue : GoodIn wsX3_pass wsX3_doFirstDue := goodIn_r _ [18, 3, 19, 20, 5, 21, 22, 23, 24, 25, 26, 27, 28, 29, 30, 31, 32, 33, 34, 35, 36, 37, 38, 39, 40, 41, 42, 43, 44, 45, 46, 47, 48, 49, 50, 51, 52, 53, 54, 55, 56, 57, 58, 59, 60, 61, 62, 63, 64, 65, 66, 67, 68, 69, 70, 71, 72, 73, 74, 75, 76, 77, 78, 79, 80, 81, 82, 83, 84, 85, 86, 87, 88, 89, 90, 91, 92, 93, 94, 95, 96, 97, 98, 99, 100, 101, 102, 103, 104, 105, 106, 107, 108, 109, 110, 111, 112, 113, 114, 115, 116, 117, 118, 119, 120, 121, 122, 123, 124, 125, 126, 127, 128, 129, 130, 131, 132, 133, 134, 135, 136, 137, 138, 139, 140, 141, 142, 149, 150, 151, 152, 153, 154, 155, 156, 143, 144, 145, 146, 147, 148] (by decide +kernel) (by decide +kernel)
set_option maxRecDepth 20000 in
theorem gX3_pass_X3_doFirstDue : GoodIn wsX3_pass (wsV RX3 119 RX3 yX3_doFirstDue wsX3_doFirstDue) := goodIn_app (goodIn_of _ (by decide +kernel)) ggX3_pass_X3_doFirstDue
theorem dX3_pass_0 : decode cX3_pass 0 = .ok (.iload_n 1, 1) := by decide +kernel
theorem dX3_pass_1 : decode cX3_pass 1 = .ok (.invokestatic 47, 3) := by decide +kernel
theorem dX3_pass_4 : decode cX3_pass 4 = .ok (.lload_n 2, 1) := by decide +kernel
theorem dX3_pass_5 : decode cX3_pass 5 = .ok (.invokestatic 51, 3) := by decide +kernel
theorem dX3_pass_8 : decode cX3_pass 8 = .ok (.lload_n 2, 1) := by decide +kernel
theorem dX3_pass_9 : decode cX3_pass 9 = .ok (.aload_n 0, 1) := by decide +kernel
theorem dX3_pass_10 : decode cX3_pass 10 = .ok (.getfield 12, 3) := by decide +kernel
theorem dX3_pass_13 : decode cX3_pass 13 = .ok (.getfield 101, 3) := by decide +kernel
theorem dX3_pass_16 : decode cX3_pass 16 = .ok (.iload_n 1, 1) := by decide +kernel
theorem dX3_pass_17 : decode cX3_pass 17 = .ok (.laload, 1) := by decide +kernel
theorem dX3_pass_18 : decode cX3_pass 18 = .ok (.lcmp, 1) := by decide +kernel
theorem dX3_pass_19 : decode cX3_pass 19 = .ok (.ifCond .ge 13, 3) := by decide +kernel
theorem dX3_pass_22 : decode cX3_pass 22 = .ok (.new 57, 3) := by decide +kernel
theorem dX3_pass_25 : decode cX3_pass 25 = .ok (.dup, 1) := by decide +kernel
theorem dX3_pass_26 : decode cX3_pass 26 = .ok (.ldc 117, 2) := by decide +kernel
theorem dX3_pass_28 : decode cX3_pass 28 = .ok (.invokespecial 61, 3) := by decide +kernel
theorem dX3_pass_31 : decode cX3_pass 31 = .ok (.athrow, 1) := by decide +kernel
theorem dX3_pass_32 : decode cX3_pass 32 = .ok (.aload_n 0, 1) := by decide +kernel
theorem dX3_pass_33 : decode cX3_pass 33 = .ok (.getfield 12, 3) := by decide +kernel
theorem dX3_pass_36 : decode cX3_pass 36 = .ok (.getfield 101, 3) := by decide +kernel
theorem dX3_pass_39 : decode cX3_pass 39 = .ok (.iload_n 1, 1) := by decide +kernel
theorem dX3_pass_40 : decode cX3_pass 40 = .ok (.lload_n 2, 1) := by decide +kernel
theorem dX3_pass_41 : decode cX3_pass 41 = .ok (.lastore, 1) := by decide +kernel
theorem dX3_pass_42 : decode cX3_pass 42 = .ok (.aload_n 0, 1) := by decide +kernel
theorem dX3_pass_43 : decode cX3_pass 43 = .ok (.getfield 23, 3) := by decide +kernel
theorem dX3_pass_46 : decode cX3_pass 46 = .ok (.iconst 0, 1) := by decide +kernel
theorem dX3_pass_47 : decode cX3_pass 47 = .ok (.putfield 46, 3) := by decide +kernel
theorem dX3_pass_50 : decode cX3_pass 50 = .ok (.iconst 0, 1) := by decide +kernel
theorem dX3_pass_51 : decode cX3_pass 51 = .ok (.istore 4, 2) := by decide +kernel
theorem dX3_pass_53 : decode cX3_pass 53 = .ok (.iload 4, 2) := by decide +kernel
theorem dX3_pass_55 : decode cX3_pass 55 = .ok (.sipush 2080, 3) := by decide +kernel
theorem dX3_pass_58 : decode cX3_pass 58 = .ok (.if_icmp .ge 21, 3) := by decide +kernel
theorem dX3_pass_61 : decode cX3_pass 61 = .ok (.aload_n 0, 1) := by decide +kernel
theorem dX3_pass_62 : decode cX3_pass 62 = .ok (.iload_n 1, 1) := by decide +kernel
theorem dX3_pass_63 : decode cX3_pass 63 = .ok (.lload_n 2, 1) := by decide +kernel
theorem dX3_pass_64 : decode cX3_pass 64 = .ok (.invokevirtual 119, 3) := by decide +kernel
theorem dX3_pass_67 : decode cX3_pass 67 = .ok (.ifCond .ne 6, 3) := by decide +kernel
theorem dX3_pass_70 : decode cX3_pass 70 = .ok (.goto 9, 3) := by decide +kernel
theorem dX3_pass_73 : decode cX3_pass 73 = .ok (.iinc 4 1, 3) := by decide +kernel
theorem dX3_pass_76 : decode cX3_pass 76 = .ok (.goto (-23), 3) := by decide +kernel
theorem dX3_pass_79 : decode cX3_pass 79 = .ok (.aload_n 0, 1) := by decide +kernel
theorem dX3_pass_80 : decode cX3_pass 80 = .ok (.getfield 23, 3) := by decide +kernel
theorem dX3_pass_83 : decode cX3_pass 83 = .ok (.getfield 46, 3) := by decide +kernel
theorem dX3_pass_86 : decode cX3_pass 86 = .ok (.ireturn, 1) := by decide +kernel
set_option maxRecDepth 20000 in
theorem ggX3_done_X3_needWhat : GoodIn wsX3_done wsX3_needWhat := goodIn_ca (goodIn_r _ [13, 14, 15] (by decide +kernel) (by decide +kernel)) (goodIn_sub (fun _ h => List.mem_cons_of_mem _ (List.mem_append_right _ h)) (by decide +kernel))
set_option maxRecDepth 20000 in
theorem gX3_done_X3_needWhat : GoodIn wsX3_done (va_wsS RX3 123 yX3_needWhat wsX3_needWhat) := goodIn_app (goodIn_of _ (by decide +kernel)) ggX3_done_X3_needWhat
theorem dX3_done_0 : decode cX3_done 0 = .ok (.iload_n 2, 1) := by decide +kernel
theorem dX3_done_1 : decode cX3_done 1 = .ok (.iconst 4, 1) := by decide +kernel
theorem dX3_done_2 : decode cX3_done 2 = .ok (.invokestatic 123, 3) := by decide +kernel
theorem dX3_done_5 : decode cX3_done 5 = .ok (.iload_n 1, 1) := by decide +kernel
theorem dX3_done_6 : decode cX3_done 6 = .ok (.ifCond .lt 14, 3) := by decide +kernel
theorem dX3_done_9 : decode cX3_done 9 = .ok (.iload_n 1, 1) := by decide +kernel
theorem dX3_done_10 : decode cX3_done 10 = .ok (.aload_n 0, 1) := by decide +kernel
theorem dX3_done_11 : decode cX3_done 11 = .ok (.getfield 23, 3) := by decide +kernel
theorem dX3_done_14 : decode cX3_done 14 = .ok (.getfield 46, 3) := by decide +kernel
theorem dX3_done_17 : decode cX3_done 17 = .ok (.if_icmp .lt 13, 3) := by decide +kernel
theorem dX3_done_20 : decode cX3_done 20 = .ok (.new 127, 3) := by decide +kernel
theorem dX3_done_23 : decode cX3_done 23 = .ok (.dup, 1) := by decide +kernel
theorem dX3_done_24 : decode cX3_done 24 = .ok (.ldc 129, 2) := by decide +kernel
theorem dX3_done_26 : decode cX3_done 26 = .ok (.invokespecial 131, 3) := by decide +kernel
theorem dX3_done_29 : decode cX3_done 29 = .ok (.athrow, 1) := by decide +kernel
theorem dX3_done_30 : decode cX3_done 30 = .ok (.iload_n 2, 1) := by decide +kernel
theorem dX3_done_31 : decode cX3_done 31 = .ok (.tableswitch 71 0 3 #[29, 40, 51, 61], 29) := by decide +kernel
theorem dX3_done_60 : decode cX3_done 60 = .ok (.aload_n 0, 1) := by decide +kernel
theorem dX3_done_61 : decode cX3_done 61 = .ok (.getfield 23, 3) := by decide +kernel
theorem dX3_done_64 : decode cX3_done 64 = .ok (.getfield 132, 3) := by decide +kernel
theorem dX3_done_67 : decode cX3_done 67 = .ok (.iload_n 1, 1) := by decide +kernel
theorem dX3_done_68 : decode cX3_done 68 = .ok (.iaload, 1) := by decide +kernel
theorem dX3_done_69 : decode cX3_done 69 = .ok (.i2l, 1) := by decide +kernel
theorem dX3_done_70 : decode cX3_done 70 = .ok (.lreturn, 1) := by decide +kernel
theorem dX3_done_71 : decode cX3_done 71 = .ok (.aload_n 0, 1) := by decide +kernel
theorem dX3_done_72 : decode cX3_done 72 = .ok (.getfield 23, 3) := by decide +kernel
theorem dX3_done_75 : decode cX3_done 75 = .ok (.getfield 136, 3) := by decide +kernel
theorem dX3_done_78 : decode cX3_done 78 = .ok (.iload_n 1, 1) := by decide +kernel
theorem dX3_done_79 : decode cX3_done 79 = .ok (.iaload, 1) := by decide +kernel
theorem dX3_done_80 : decode cX3_done 80 = .ok (.i2l, 1) := by decide +kernel
theorem dX3_done_81 : decode cX3_done 81 = .ok (.lreturn, 1) := by decide +kernel
theorem dX3_done_82 : decode cX3_done 82 = .ok (.aload_n 0, 1) := by decide +kernel
theorem dX3_done_83 : decode cX3_done 83 = .ok (.getfield 23, 3) := by decide +kernel
theorem dX3_done_86 : decode cX3_done 86 = .ok (.getfield 139, 3) := by decide +kernel
theorem dX3_done_89 : decode cX3_done 89 = .ok (.iload_n 1, 1) := by decide +kernel
theorem dX3_done_90 : decode cX3_done 90 = .ok (.laload, 1) := by decide +kernel
theorem dX3_done_91 : decode cX3_done 91 = .ok (.lreturn, 1) := by decide +kernel
theorem dX3_done_92 : decode cX3_done 92 = .ok (.aload_n 0, 1) := by decide +kernel
theorem dX3_done_93 : decode cX3_done 93 = .ok (.getfield 23, 3) := by decide +kernel
theorem dX3_done_96 : decode cX3_done 96 = .ok (.getfield 142, 3) := by decide +kernel
theorem dX3_done_99 : decode cX3_done 99 = .ok (.iload_n 1, 1) := by decide +kernel
theorem dX3_done_100 : decode cX3_done 100 = .ok (.laload, 1) := by decide +kernel
theorem dX3_done_101 : decode cX3_done 101 = .ok (.lreturn, 1) := by decide +kernel
theorem dX3_done_102 : decode cX3_done 102 = .ok (.aload_n 0, 1) := by decide +kernel
theorem dX3_done_103 : decode cX3_done 103 = .ok (.getfield 23, 3) := by decide +kernel
theorem dX3_done_106 : decode cX3_done 106 = .ok (.getfield 145, 3) := by decide +kernel
theorem dX3_done_109 : decode cX3_done 109 = .ok (.iload_n 1, 1) := by decide +kernel
theorem dX3_done_110 : decode cX3_done 110 = .ok (.iaload, 1) := by decide +kernel
theorem dX3_done_111 : decode cX3_done 111 = .ok (.i2l, 1) := by decide +kernel
theorem dX3_done_112 : decode cX3_done 112 = .ok (.lreturn, 1) := by decide +kernel
set_option maxRecDepth 20000 in
theorem ggX3_told_X3_needWhat : GoodIn wsX3_told wsX3_needWhat := goodIn_ca (goodIn_r _ [12, 13, 14] (by decide +kernel) (by decide +kernel)) (goodIn_sub (fun _ h => List.mem_cons_of_mem _ (List.mem_append_left _ (List.mem_append_right _ h))) (by decide +kernel))
set_option maxRecDepth 20000 in
theorem gX3_told_X3_needWhat : GoodIn wsX3_told (va_wsS RX3 123 yX3_needWhat wsX3_needWhat) := goodIn_app (goodIn_of _ (by decide +kernel)) ggX3_told_X3_needWhat
set_option maxRecDepth 20000 in
theorem ggX3_told_X3_needTimer : GoodIn wsX3_told wsX3_needTimer := goodIn_ca (goodIn_r _ [18, 19, 20, 1, 2, 21, 22, 23, 24, 25, 26, 27, 28, 29, 30, 31, 32, 33, 34, 35, 36, 37, 38, 39, 40, 41, 42, 43, 44, 45, 46, 47] (by decide +kernel) (by decide +kernel)) (goodIn_sub (fun _ h => List.mem_cons_of_mem _ (List.mem_append_right _ h)) (by decide +kernel))
set_option maxRecDepth 20000 in
theorem gX3_told_X3_needTimer : GoodIn wsX3_told (wsV RX3 83 RX3 yX3_needTimer wsX3_needTimer) := goodIn_app (goodIn_of _ (by decide +kernel)) ggX3_told_X3_needTimer
theorem dX3_told_0 : decode cX3_told 0 = .ok (.iload_n 2, 1) := by decide +kernel
theorem dX3_told_1 : decode cX3_told 1 = .ok (.iconst 4, 1) := by decide +kernel
theorem dX3_told_2 : decode cX3_told 2 = .ok (.invokestatic 123, 3) := by decide +kernel
theorem dX3_told_5 : decode cX3_told 5 = .ok (.aload_n 0, 1) := by decide +kernel
theorem dX3_told_6 : decode cX3_told 6 = .ok (.getfield 12, 3) := by decide +kernel
theorem dX3_told_9 : decode cX3_told 9 = .ok (.getfield 31, 3) := by decide +kernel
theorem dX3_told_12 : decode cX3_told 12 = .ok (.getfield 148, 3) := by decide +kernel
theorem dX3_told_15 : decode cX3_told 15 = .ok (.aload_n 0, 1) := by decide +kernel
theorem dX3_told_16 : decode cX3_told 16 = .ok (.iload_n 1, 1) := by decide +kernel
theorem dX3_told_17 : decode cX3_told 17 = .ok (.invokevirtual 83, 3) := by decide +kernel
theorem dX3_told_20 : decode cX3_told 20 = .ok (.iaload, 1) := by decide +kernel
theorem dX3_told_21 : decode cX3_told 21 = .ok (.istore_n 3, 1) := by decide +kernel
theorem dX3_told_22 : decode cX3_told 22 = .ok (.iload_n 2, 1) := by decide +kernel
theorem dX3_told_23 : decode cX3_told 23 = .ok (.tableswitch 82 0 3 #[29, 43, 56, 69], 29) := by decide +kernel
theorem dX3_told_52 : decode cX3_told 52 = .ok (.aload_n 0, 1) := by decide +kernel
theorem dX3_told_53 : decode cX3_told 53 = .ok (.getfield 12, 3) := by decide +kernel
theorem dX3_told_56 : decode cX3_told 56 = .ok (.getfield 31, 3) := by decide +kernel
theorem dX3_told_59 : decode cX3_told 59 = .ok (.getfield 151, 3) := by decide +kernel
theorem dX3_told_62 : decode cX3_told 62 = .ok (.iload_n 3, 1) := by decide +kernel
theorem dX3_told_63 : decode cX3_told 63 = .ok (.iaload, 1) := by decide +kernel
theorem dX3_told_64 : decode cX3_told 64 = .ok (.i2l, 1) := by decide +kernel
theorem dX3_told_65 : decode cX3_told 65 = .ok (.lreturn, 1) := by decide +kernel
theorem dX3_told_66 : decode cX3_told 66 = .ok (.aload_n 0, 1) := by decide +kernel
theorem dX3_told_67 : decode cX3_told 67 = .ok (.getfield 12, 3) := by decide +kernel
theorem dX3_told_70 : decode cX3_told 70 = .ok (.getfield 31, 3) := by decide +kernel
theorem dX3_told_73 : decode cX3_told 73 = .ok (.getfield 154, 3) := by decide +kernel
theorem dX3_told_76 : decode cX3_told 76 = .ok (.iload_n 3, 1) := by decide +kernel
theorem dX3_told_77 : decode cX3_told 77 = .ok (.laload, 1) := by decide +kernel
theorem dX3_told_78 : decode cX3_told 78 = .ok (.lreturn, 1) := by decide +kernel
theorem dX3_told_79 : decode cX3_told 79 = .ok (.aload_n 0, 1) := by decide +kernel
theorem dX3_told_80 : decode cX3_told 80 = .ok (.getfield 12, 3) := by decide +kernel
theorem dX3_told_83 : decode cX3_told 83 = .ok (.getfield 31, 3) := by decide +kernel
theorem dX3_told_86 : decode cX3_told 86 = .ok (.getfield 155, 3) := by decide +kernel
theorem dX3_told_89 : decode cX3_told 89 = .ok (.iload_n 3, 1) := by decide +kernel
theorem dX3_told_90 : decode cX3_told 90 = .ok (.laload, 1) := by decide +kernel
theorem dX3_told_91 : decode cX3_told 91 = .ok (.lreturn, 1) := by decide +kernel
theorem dX3_told_92 : decode cX3_told 92 = .ok (.aload_n 0, 1) := by decide +kernel
theorem dX3_told_93 : decode cX3_told 93 = .ok (.getfield 12, 3) := by decide +kernel
theorem dX3_told_96 : decode cX3_told 96 = .ok (.getfield 31, 3) := by decide +kernel
theorem dX3_told_99 : decode cX3_told 99 = .ok (.getfield 156, 3) := by decide +kernel
theorem dX3_told_102 : decode cX3_told 102 = .ok (.iload_n 3, 1) := by decide +kernel
theorem dX3_told_103 : decode cX3_told 103 = .ok (.laload, 1) := by decide +kernel
theorem dX3_told_104 : decode cX3_told 104 = .ok (.lreturn, 1) := by decide +kernel
theorem dX3_told_105 : decode cX3_told 105 = .ok (.aload_n 0, 1) := by decide +kernel
theorem dX3_told_106 : decode cX3_told 106 = .ok (.getfield 12, 3) := by decide +kernel
theorem dX3_told_109 : decode cX3_told 109 = .ok (.getfield 31, 3) := by decide +kernel
theorem dX3_told_112 : decode cX3_told 112 = .ok (.getfield 159, 3) := by decide +kernel
theorem dX3_told_115 : decode cX3_told 115 = .ok (.iload_n 3, 1) := by decide +kernel
theorem dX3_told_116 : decode cX3_told 116 = .ok (.iaload, 1) := by decide +kernel
theorem dX3_told_117 : decode cX3_told 117 = .ok (.i2l, 1) := by decide +kernel
theorem dX3_told_118 : decode cX3_told 118 = .ok (.lreturn, 1) := by decide +kernel
set_option maxRecDepth 20000 in
theorem ggX3_next_X3_needClock : GoodIn wsX3_next wsX3_needClock := goodIn_ca (goodIn_r _ [8, 9, 10] (by decide +kernel) (by decide +kernel)) (goodIn_sub (fun _ h => List.mem_cons_of_mem _ (List.mem_append_right _ h)) (by decide +kernel))
set_option maxRecDepth 20000 in
theorem gX3_next_X3_needClock : GoodIn wsX3_next (va_wsS RX3 47 yX3_needClock wsX3_needClock) := goodIn_app (goodIn_of _ (by decide +kernel)) ggX3_next_X3_needClock
set_option maxRecDepth 20000 in
theorem ggX3_next_X0_headOf : GoodIn wsX3_next wsX0_headOf := goodIn_r _ [15, 16, 17, 18, 30, 31, 32, 33, 34, 35, 36, 37] (by decide +kernel) (by decide +kernel)
set_option maxRecDepth 20000 in
theorem gX3_next_X0_headOf : GoodIn wsX3_next (wsV RX3 160 RX0 yX0_headOf wsX0_headOf) := goodIn_app (goodIn_of _ (by decide +kernel)) ggX3_next_X0_headOf
theorem dX3_next_0 : decode cX3_next 0 = .ok (.iload_n 1, 1) := by decide +kernel
theorem dX3_next_1 : decode cX3_next 1 = .ok (.invokestatic 47, 3) := by decide +kernel
theorem dX3_next_4 : decode cX3_next 4 = .ok (.aload_n 0, 1) := by decide +kernel
theorem dX3_next_5 : decode cX3_next 5 = .ok (.getfield 12, 3) := by decide +kernel
theorem dX3_next_8 : decode cX3_next 8 = .ok (.getfield 31, 3) := by decide +kernel
theorem dX3_next_11 : decode cX3_next 11 = .ok (.iload_n 1, 1) := by decide +kernel
theorem dX3_next_12 : decode cX3_next 12 = .ok (.invokevirtual 160, 3) := by decide +kernel
theorem dX3_next_15 : decode cX3_next 15 = .ok (.istore_n 2, 1) := by decide +kernel
theorem dX3_next_16 : decode cX3_next 16 = .ok (.iload_n 2, 1) := by decide +kernel
theorem dX3_next_17 : decode cX3_next 17 = .ok (.iconst (-1), 1) := by decide +kernel
theorem dX3_next_18 : decode cX3_next 18 = .ok (.if_icmp .ne 7, 3) := by decide +kernel
theorem dX3_next_21 : decode cX3_next 21 = .ok (.iconst (-1), 1) := by decide +kernel
theorem dX3_next_22 : decode cX3_next 22 = .ok (.goto 26, 3) := by decide +kernel
theorem dX3_next_25 : decode cX3_next 25 = .ok (.aload_n 0, 1) := by decide +kernel
theorem dX3_next_26 : decode cX3_next 26 = .ok (.getfield 12, 3) := by decide +kernel
theorem dX3_next_29 : decode cX3_next 29 = .ok (.getfield 31, 3) := by decide +kernel
theorem dX3_next_32 : decode cX3_next 32 = .ok (.getfield 163, 3) := by decide +kernel
theorem dX3_next_35 : decode cX3_next 35 = .ok (.aload_n 0, 1) := by decide +kernel
theorem dX3_next_36 : decode cX3_next 36 = .ok (.getfield 12, 3) := by decide +kernel
theorem dX3_next_39 : decode cX3_next 39 = .ok (.getfield 31, 3) := by decide +kernel
theorem dX3_next_42 : decode cX3_next 42 = .ok (.getfield 148, 3) := by decide +kernel
theorem dX3_next_45 : decode cX3_next 45 = .ok (.iload_n 2, 1) := by decide +kernel
theorem dX3_next_46 : decode cX3_next 46 = .ok (.iaload, 1) := by decide +kernel
theorem dX3_next_47 : decode cX3_next 47 = .ok (.iaload, 1) := by decide +kernel
theorem dX3_next_48 : decode cX3_next 48 = .ok (.ireturn, 1) := by decide +kernel
set_option maxRecDepth 20000 in
theorem ggX3_waiting_X3_needClock : GoodIn wsX3_waiting wsX3_needClock := goodIn_ca (goodIn_r _ [8, 1, 2] (by decide +kernel) (by decide +kernel)) (goodIn_sub (fun _ h => List.mem_cons_of_mem _ (List.mem_append_right _ h)) (by decide +kernel))
set_option maxRecDepth 20000 in
theorem gX3_waiting_X3_needClock : GoodIn wsX3_waiting (va_wsS RX3 47 yX3_needClock wsX3_needClock) := goodIn_app (goodIn_of _ (by decide +kernel)) ggX3_waiting_X3_needClock
set_option maxRecDepth 20000 in
theorem ggX3_waiting_X0_countBetween : GoodIn wsX3_waiting wsX0_countBetween := goodIn_r _ [13, 14, 15, 16, 17, 18, 30, 31, 32, 33, 34, 35, 36, 37] (by decide +kernel) (by decide +kernel)
set_option maxRecDepth 20000 in
theorem gX3_waiting_X0_countBetween : GoodIn wsX3_waiting (wsV RX3 166 RX0 yX0_countBetween wsX0_countBetween) := goodIn_app (goodIn_of _ (by decide +kernel)) ggX3_waiting_X0_countBetween
theorem dX3_waiting_0 : decode cX3_waiting 0 = .ok (.iload_n 1, 1) := by decide +kernel
theorem dX3_waiting_1 : decode cX3_waiting 1 = .ok (.invokestatic 47, 3) := by decide +kernel
theorem dX3_waiting_4 : decode cX3_waiting 4 = .ok (.lload 4, 2) := by decide +kernel
theorem dX3_waiting_6 : decode cX3_waiting 6 = .ok (.lload 6, 2) := by decide +kernel
theorem dX3_waiting_8 : decode cX3_waiting 8 = .ok (.lcmp, 1) := by decide +kernel
theorem dX3_waiting_9 : decode cX3_waiting 9 = .ok (.ifCond .le 13, 3) := by decide +kernel
theorem dX3_waiting_12 : decode cX3_waiting 12 = .ok (.new 57, 3) := by decide +kernel
theorem dX3_waiting_15 : decode cX3_waiting 15 = .ok (.dup, 1) := by decide +kernel
theorem dX3_waiting_16 : decode cX3_waiting 16 = .ok (.ldc 164, 2) := by decide +kernel
theorem dX3_waiting_18 : decode cX3_waiting 18 = .ok (.invokespecial 61, 3) := by decide +kernel
theorem dX3_waiting_21 : decode cX3_waiting 21 = .ok (.athrow, 1) := by decide +kernel
theorem dX3_waiting_22 : decode cX3_waiting 22 = .ok (.aload_n 0, 1) := by decide +kernel
theorem dX3_waiting_23 : decode cX3_waiting 23 = .ok (.getfield 12, 3) := by decide +kernel
theorem dX3_waiting_26 : decode cX3_waiting 26 = .ok (.getfield 31, 3) := by decide +kernel
theorem dX3_waiting_29 : decode cX3_waiting 29 = .ok (.iload_n 1, 1) := by decide +kernel
theorem dX3_waiting_30 : decode cX3_waiting 30 = .ok (.lload_n 2, 1) := by decide +kernel
theorem dX3_waiting_31 : decode cX3_waiting 31 = .ok (.lload 4, 2) := by decide +kernel
theorem dX3_waiting_33 : decode cX3_waiting 33 = .ok (.lload 6, 2) := by decide +kernel
theorem dX3_waiting_35 : decode cX3_waiting 35 = .ok (.invokevirtual 166, 3) := by decide +kernel
theorem dX3_waiting_38 : decode cX3_waiting 38 = .ok (.ireturn, 1) := by decide +kernel
set_option maxRecDepth 20000 in
theorem ggX3_keep_X2_init : GoodIn wsX3_keep wsX2_init := goodIn_r _ [11, 12, 13, 14, 15, 16, 17, 18, 19, 20, 21, 22, 23, 24, 25, 26, 27, 28, 29, 30, 31, 32, 33, 34, 35, 36, 37, 7, 38, 39, 40, 41, 42, 43, 44, 45, 46, 47, 48, 73, 74, 75, 76, 77, 78, 79, 80, 66, 67, 68, 69, 70, 71, 72] (by decide +kernel) (by decide +kernel)
set_option maxRecDepth 20000 in
theorem gX3_keep_X2_init : GoodIn wsX3_keep (wsX2_init) := ggX3_keep_X2_init
set_option maxRecDepth 20000 in
theorem ggX3_keep_X2_copyFrom : GoodIn wsX3_keep wsX2_copyFrom := goodIn_r _ [52, 18, 19, 21, 53, 54, 55, 56, 41, 42, 43, 44, 57, 58, 59, 17, 60, 27, 61, 28, 29, 30, 31, 32, 33, 34, 66, 67, 68, 69, 70, 71, 72, 73, 74, 75, 76, 77, 78, 79, 80] (by decide +kernel) (by decide +kernel)
set_option maxRecDepth 20000 in
theorem gX3_keep_X2_copyFrom : GoodIn wsX3_keep (wsV RX3 172 RX2 yX2_copyFrom wsX2_copyFrom) := goodIn_app (goodIn_of _ (by decide +kernel)) ggX3_keep_X2_copyFrom
theorem dX3_keep_0 : decode cX3_keep 0 = .ok (.aload_n 0, 1) := by decide +kernel
theorem dX3_keep_1 : decode cX3_keep 1 = .ok (.getfield 27, 3) := by decide +kernel
theorem dX3_keep_4 : decode cX3_keep 4 = .ok (.iconst 3, 1) := by decide +kernel
theorem dX3_keep_5 : decode cX3_keep 5 = .ok (.if_icmp .lt 13, 3) := by decide +kernel
theorem dX3_keep_8 : decode cX3_keep 8 = .ok (.new 70, 3) := by decide +kernel
theorem dX3_keep_11 : decode cX3_keep 11 = .ok (.dup, 1) := by decide +kernel
theorem dX3_keep_12 : decode cX3_keep 12 = .ok (.ldc 170, 2) := by decide +kernel
theorem dX3_keep_14 : decode cX3_keep 14 = .ok (.invokespecial 74, 3) := by decide +kernel
theorem dX3_keep_17 : decode cX3_keep 17 = .ok (.athrow, 1) := by decide +kernel
theorem dX3_keep_18 : decode cX3_keep 18 = .ok (.aload_n 0, 1) := by decide +kernel
theorem dX3_keep_19 : decode cX3_keep 19 = .ok (.getfield 27, 3) := by decide +kernel
theorem dX3_keep_22 : decode cX3_keep 22 = .ok (.istore_n 1, 1) := by decide +kernel
theorem dX3_keep_23 : decode cX3_keep 23 = .ok (.aload_n 0, 1) := by decide +kernel
theorem dX3_keep_24 : decode cX3_keep 24 = .ok (.getfield 16, 3) := by decide +kernel
theorem dX3_keep_27 : decode cX3_keep 27 = .ok (.iload_n 1, 1) := by decide +kernel
theorem dX3_keep_28 : decode cX3_keep 28 = .ok (.aaload, 1) := by decide +kernel
theorem dX3_keep_29 : decode cX3_keep 29 = .ok (.astore_n 2, 1) := by decide +kernel
theorem dX3_keep_30 : decode cX3_keep 30 = .ok (.aload_n 2, 1) := by decide +kernel
theorem dX3_keep_31 : decode cX3_keep 31 = .ok (.ifnonnull 18, 3) := by decide +kernel
theorem dX3_keep_34 : decode cX3_keep 34 = .ok (.new 9, 3) := by decide +kernel
theorem dX3_keep_37 : decode cX3_keep 37 = .ok (.dup, 1) := by decide +kernel
theorem dX3_keep_38 : decode cX3_keep 38 = .ok (.invokespecial 11, 3) := by decide +kernel
theorem dX3_keep_41 : decode cX3_keep 41 = .ok (.astore_n 2, 1) := by decide +kernel
theorem dX3_keep_42 : decode cX3_keep 42 = .ok (.aload_n 0, 1) := by decide +kernel
theorem dX3_keep_43 : decode cX3_keep 43 = .ok (.getfield 16, 3) := by decide +kernel
theorem dX3_keep_46 : decode cX3_keep 46 = .ok (.iload_n 1, 1) := by decide +kernel
theorem dX3_keep_47 : decode cX3_keep 47 = .ok (.aload_n 2, 1) := by decide +kernel
theorem dX3_keep_48 : decode cX3_keep 48 = .ok (.aastore, 1) := by decide +kernel
theorem dX3_keep_49 : decode cX3_keep 49 = .ok (.aload_n 2, 1) := by decide +kernel
theorem dX3_keep_50 : decode cX3_keep 50 = .ok (.aload_n 0, 1) := by decide +kernel
theorem dX3_keep_51 : decode cX3_keep 51 = .ok (.getfield 12, 3) := by decide +kernel
theorem dX3_keep_54 : decode cX3_keep 54 = .ok (.invokevirtual 172, 3) := by decide +kernel
theorem dX3_keep_57 : decode cX3_keep 57 = .ok (.aload_n 0, 1) := by decide +kernel
theorem dX3_keep_58 : decode cX3_keep 58 = .ok (.dup, 1) := by decide +kernel
theorem dX3_keep_59 : decode cX3_keep 59 = .ok (.getfield 27, 3) := by decide +kernel
theorem dX3_keep_62 : decode cX3_keep 62 = .ok (.iconst 1, 1) := by decide +kernel
theorem dX3_keep_63 : decode cX3_keep 63 = .ok (.iadd, 1) := by decide +kernel
theorem dX3_keep_64 : decode cX3_keep 64 = .ok (.putfield 27, 3) := by decide +kernel
theorem dX3_keep_67 : decode cX3_keep 67 = .ok (.iload_n 1, 1) := by decide +kernel
theorem dX3_keep_68 : decode cX3_keep 68 = .ok (.ireturn, 1) := by decide +kernel
set_option maxRecDepth 20000 in
theorem ggX3_back_X2_copyFrom : GoodIn wsX3_back wsX2_copyFrom := goodIn_r _ [12, 13, 14, 15, 16, 17, 18, 19, 20, 21, 22, 23, 24, 25, 26, 27, 28, 29, 30, 31, 32, 33, 34, 35, 36, 37, 42, 43, 44, 45, 46, 47, 48, 49, 50, 51, 52, 53, 54, 55, 56] (by decide +kernel) (by decide +kernel)
set_option maxRecDepth 20000 in
theorem gX3_back_X2_copyFrom : GoodIn wsX3_back (wsV RX3 172 RX2 yX2_copyFrom wsX2_copyFrom) := goodIn_app (goodIn_of _ (by decide +kernel)) ggX3_back_X2_copyFrom
theorem dX3_back_0 : decode cX3_back 0 = .ok (.iload_n 1, 1) := by decide +kernel
theorem dX3_back_1 : decode cX3_back 1 = .ok (.ifCond .lt 11, 3) := by decide +kernel
theorem dX3_back_4 : decode cX3_back 4 = .ok (.iload_n 1, 1) := by decide +kernel
theorem dX3_back_5 : decode cX3_back 5 = .ok (.aload_n 0, 1) := by decide +kernel
theorem dX3_back_6 : decode cX3_back 6 = .ok (.getfield 27, 3) := by decide +kernel
theorem dX3_back_9 : decode cX3_back 9 = .ok (.if_icmp .lt 7, 3) := by decide +kernel
theorem dX3_back_12 : decode cX3_back 12 = .ok (.aconst_null, 1) := by decide +kernel
theorem dX3_back_13 : decode cX3_back 13 = .ok (.goto 9, 3) := by decide +kernel
theorem dX3_back_16 : decode cX3_back 16 = .ok (.aload_n 0, 1) := by decide +kernel
theorem dX3_back_17 : decode cX3_back 17 = .ok (.getfield 16, 3) := by decide +kernel
theorem dX3_back_20 : decode cX3_back 20 = .ok (.iload_n 1, 1) := by decide +kernel
theorem dX3_back_21 : decode cX3_back 21 = .ok (.aaload, 1) := by decide +kernel
theorem dX3_back_22 : decode cX3_back 22 = .ok (.astore_n 2, 1) := by decide +kernel
theorem dX3_back_23 : decode cX3_back 23 = .ok (.aload_n 2, 1) := by decide +kernel
theorem dX3_back_24 : decode cX3_back 24 = .ok (.ifnonnull 13, 3) := by decide +kernel
theorem dX3_back_27 : decode cX3_back 27 = .ok (.new 57, 3) := by decide +kernel
theorem dX3_back_30 : decode cX3_back 30 = .ok (.dup, 1) := by decide +kernel
theorem dX3_back_31 : decode cX3_back 31 = .ok (.ldc 176, 2) := by decide +kernel
theorem dX3_back_33 : decode cX3_back 33 = .ok (.invokespecial 61, 3) := by decide +kernel
theorem dX3_back_36 : decode cX3_back 36 = .ok (.athrow, 1) := by decide +kernel
theorem dX3_back_37 : decode cX3_back 37 = .ok (.aload_n 0, 1) := by decide +kernel
theorem dX3_back_38 : decode cX3_back 38 = .ok (.getfield 12, 3) := by decide +kernel
theorem dX3_back_41 : decode cX3_back 41 = .ok (.aload_n 2, 1) := by decide +kernel
theorem dX3_back_42 : decode cX3_back 42 = .ok (.invokevirtual 172, 3) := by decide +kernel
theorem dX3_back_45 : decode cX3_back 45 = .ok (.aload_n 0, 1) := by decide +kernel
theorem dX3_back_46 : decode cX3_back 46 = .ok (.getfield 12, 3) := by decide +kernel
theorem dX3_back_49 : decode cX3_back 49 = .ok (.getfield 31, 3) := by decide +kernel
theorem dX3_back_52 : decode cX3_back 52 = .ok (.getfield 35, 3) := by decide +kernel
theorem dX3_back_55 : decode cX3_back 55 = .ok (.ireturn, 1) := by decide +kernel
theorem dX3_forget_0 : decode cX3_forget 0 = .ok (.aload_n 0, 1) := by decide +kernel
theorem dX3_forget_1 : decode cX3_forget 1 = .ok (.getfield 27, 3) := by decide +kernel
theorem dX3_forget_4 : decode cX3_forget 4 = .ok (.ifCond .ne 13, 3) := by decide +kernel
theorem dX3_forget_7 : decode cX3_forget 7 = .ok (.new 70, 3) := by decide +kernel
theorem dX3_forget_10 : decode cX3_forget 10 = .ok (.dup, 1) := by decide +kernel
theorem dX3_forget_11 : decode cX3_forget 11 = .ok (.ldc 178, 2) := by decide +kernel
theorem dX3_forget_13 : decode cX3_forget 13 = .ok (.invokespecial 74, 3) := by decide +kernel
theorem dX3_forget_16 : decode cX3_forget 16 = .ok (.athrow, 1) := by decide +kernel
theorem dX3_forget_17 : decode cX3_forget 17 = .ok (.aload_n 0, 1) := by decide +kernel
theorem dX3_forget_18 : decode cX3_forget 18 = .ok (.dup, 1) := by decide +kernel
theorem dX3_forget_19 : decode cX3_forget 19 = .ok (.getfield 27, 3) := by decide +kernel
theorem dX3_forget_22 : decode cX3_forget 22 = .ok (.iconst 1, 1) := by decide +kernel
theorem dX3_forget_23 : decode cX3_forget 23 = .ok (.isub, 1) := by decide +kernel
theorem dX3_forget_24 : decode cX3_forget 24 = .ok (.putfield 27, 3) := by decide +kernel
theorem dX3_forget_27 : decode cX3_forget 27 = .ok (.aload_n 0, 1) := by decide +kernel
theorem dX3_forget_28 : decode cX3_forget 28 = .ok (.getfield 27, 3) := by decide +kernel
theorem dX3_forget_31 : decode cX3_forget 31 = .ok (.ireturn, 1) := by decide +kernel
set_option maxRecDepth 20000 in
theorem ggX3_task_X3_needTasks : GoodIn wsX3_task wsX3_needTasks := goodIn_ca (goodIn_r _ [4, 5, 6] (by decide +kernel) (by decide +kernel)) (goodIn_sub (fun _ h => List.mem_cons_of_mem _ (List.mem_append_right _ h)) (by decide +kernel))
set_option maxRecDepth 20000 in
theorem gX3_task_X3_needTasks : GoodIn wsX3_task (va_wsS RX3 180 yX3_needTasks wsX3_needTasks) := goodIn_app (goodIn_of _ (by decide +kernel)) ggX3_task_X3_needTasks
set_option maxRecDepth 20000 in
theorem ggX3_task_X3_taskOf : GoodIn wsX3_task wsX3_taskOf := goodIn_r _ [9, 10, 11, 12, 13, 14] (by decide +kernel) (by decide +kernel)
set_option maxRecDepth 20000 in
theorem gX3_task_X3_taskOf : GoodIn wsX3_task (va_wsS RX3 183 yX3_taskOf wsX3_taskOf) := goodIn_app (goodIn_of _ (by decide +kernel)) ggX3_task_X3_taskOf
theorem dX3_task_0 : decode cX3_task 0 = .ok (.iload_n 3, 1) := by decide +kernel
theorem dX3_task_1 : decode cX3_task 1 = .ok (.invokestatic 180, 3) := by decide +kernel
theorem dX3_task_4 : decode cX3_task 4 = .ok (.lload_n 1, 1) := by decide +kernel
theorem dX3_task_5 : decode cX3_task 5 = .ok (.iload_n 3, 1) := by decide +kernel
theorem dX3_task_6 : decode cX3_task 6 = .ok (.invokestatic 183, 3) := by decide +kernel
theorem dX3_task_9 : decode cX3_task 9 = .ok (.ireturn, 1) := by decide +kernel
set_option maxRecDepth 20000 in
theorem ggX3_load_X3_needTasks : GoodIn wsX3_load wsX3_needTasks := goodIn_ca (goodIn_r _ [9, 1, 2] (by decide +kernel) (by decide +kernel)) (goodIn_sub (fun _ h => List.mem_cons_of_mem _ (List.mem_append_right _ h)) (by decide +kernel))
set_option maxRecDepth 20000 in
theorem gX3_load_X3_needTasks : GoodIn wsX3_load (va_wsS RX3 180 yX3_needTasks wsX3_needTasks) := goodIn_app (goodIn_of _ (by decide +kernel)) ggX3_load_X3_needTasks
set_option maxRecDepth 20000 in
theorem ggX3_load_X0_countOfTask : GoodIn wsX3_load wsX0_countOfTask := goodIn_r _ [14, 15, 16, 17, 18, 8, 19, 20, 21, 22, 23, 24, 36, 37, 38, 39, 40, 41, 42, 43] (by decide +kernel) (by decide +kernel)
set_option maxRecDepth 20000 in
theorem gX3_load_X0_countOfTask : GoodIn wsX3_load (wsV RX3 189 RX0 yX0_countOfTask wsX0_countOfTask) := goodIn_app (goodIn_of _ (by decide +kernel)) ggX3_load_X0_countOfTask
theorem dX3_load_0 : decode cX3_load 0 = .ok (.iload_n 2, 1) := by decide +kernel
theorem dX3_load_1 : decode cX3_load 1 = .ok (.invokestatic 180, 3) := by decide +kernel
theorem dX3_load_4 : decode cX3_load 4 = .ok (.iload_n 1, 1) := by decide +kernel
theorem dX3_load_5 : decode cX3_load 5 = .ok (.ifCond .lt 8, 3) := by decide +kernel
theorem dX3_load_8 : decode cX3_load 8 = .ok (.iload_n 1, 1) := by decide +kernel
theorem dX3_load_9 : decode cX3_load 9 = .ok (.iload_n 2, 1) := by decide +kernel
theorem dX3_load_10 : decode cX3_load 10 = .ok (.if_icmp .lt 13, 3) := by decide +kernel
theorem dX3_load_13 : decode cX3_load 13 = .ok (.new 57, 3) := by decide +kernel
theorem dX3_load_16 : decode cX3_load 16 = .ok (.dup, 1) := by decide +kernel
theorem dX3_load_17 : decode cX3_load 17 = .ok (.ldc 187, 2) := by decide +kernel
theorem dX3_load_19 : decode cX3_load 19 = .ok (.invokespecial 61, 3) := by decide +kernel
theorem dX3_load_22 : decode cX3_load 22 = .ok (.athrow, 1) := by decide +kernel
theorem dX3_load_23 : decode cX3_load 23 = .ok (.aload_n 0, 1) := by decide +kernel
theorem dX3_load_24 : decode cX3_load 24 = .ok (.getfield 12, 3) := by decide +kernel
theorem dX3_load_27 : decode cX3_load 27 = .ok (.getfield 31, 3) := by decide +kernel
theorem dX3_load_30 : decode cX3_load 30 = .ok (.iload_n 1, 1) := by decide +kernel
theorem dX3_load_31 : decode cX3_load 31 = .ok (.iload_n 2, 1) := by decide +kernel
theorem dX3_load_32 : decode cX3_load 32 = .ok (.invokevirtual 189, 3) := by decide +kernel
theorem dX3_load_35 : decode cX3_load 35 = .ok (.aload_n 0, 1) := by decide +kernel
theorem dX3_load_36 : decode cX3_load 36 = .ok (.getfield 12, 3) := by decide +kernel
theorem dX3_load_39 : decode cX3_load 39 = .ok (.getfield 40, 3) := by decide +kernel
theorem dX3_load_42 : decode cX3_load 42 = .ok (.iload_n 1, 1) := by decide +kernel
theorem dX3_load_43 : decode cX3_load 43 = .ok (.iload_n 2, 1) := by decide +kernel
theorem dX3_load_44 : decode cX3_load 44 = .ok (.invokevirtual 189, 3) := by decide +kernel
theorem dX3_load_47 : decode cX3_load 47 = .ok (.iadd, 1) := by decide +kernel
theorem dX3_load_48 : decode cX3_load 48 = .ok (.ireturn, 1) := by decide +kernel
set_option maxRecDepth 20000 in
theorem ggX3_of_X3_needWhat : GoodIn wsX3_of wsX3_needWhat := goodIn_ca (goodIn_r _ [14, 15, 16] (by decide +kernel) (by decide +kernel)) (goodIn_sub (fun _ h => List.mem_cons_of_mem _ (List.mem_append_right _ h)) (by decide +kernel))
set_option maxRecDepth 20000 in
theorem gX3_of_X3_needWhat : GoodIn wsX3_of (va_wsS RX3 123 yX3_needWhat wsX3_needWhat) := goodIn_app (goodIn_of _ (by decide +kernel)) ggX3_of_X3_needWhat
theorem dX3_of_0 : decode cX3_of 0 = .ok (.iload_n 1, 1) := by decide +kernel
theorem dX3_of_1 : decode cX3_of 1 = .ok (.bipush 6, 2) := by decide +kernel
theorem dX3_of_3 : decode cX3_of 3 = .ok (.invokestatic 123, 3) := by decide +kernel
theorem dX3_of_6 : decode cX3_of 6 = .ok (.iload_n 1, 1) := by decide +kernel
theorem dX3_of_7 : decode cX3_of 7 = .ok (.tableswitch 88 0 5 #[37, 48, 59, 67, 75, 83], 37) := by decide +kernel
theorem dX3_of_44 : decode cX3_of 44 = .ok (.aload_n 0, 1) := by decide +kernel
theorem dX3_of_45 : decode cX3_of 45 = .ok (.getfield 12, 3) := by decide +kernel
theorem dX3_of_48 : decode cX3_of 48 = .ok (.getfield 31, 3) := by decide +kernel
theorem dX3_of_51 : decode cX3_of 51 = .ok (.getfield 35, 3) := by decide +kernel
theorem dX3_of_54 : decode cX3_of 54 = .ok (.ireturn, 1) := by decide +kernel
theorem dX3_of_55 : decode cX3_of 55 = .ok (.aload_n 0, 1) := by decide +kernel
theorem dX3_of_56 : decode cX3_of 56 = .ok (.getfield 12, 3) := by decide +kernel
theorem dX3_of_59 : decode cX3_of 59 = .ok (.getfield 40, 3) := by decide +kernel
theorem dX3_of_62 : decode cX3_of 62 = .ok (.getfield 35, 3) := by decide +kernel
theorem dX3_of_65 : decode cX3_of 65 = .ok (.ireturn, 1) := by decide +kernel
theorem dX3_of_66 : decode cX3_of 66 = .ok (.aload_n 0, 1) := by decide +kernel
theorem dX3_of_67 : decode cX3_of 67 = .ok (.getfield 12, 3) := by decide +kernel
theorem dX3_of_70 : decode cX3_of 70 = .ok (.getfield 193, 3) := by decide +kernel
theorem dX3_of_73 : decode cX3_of 73 = .ok (.ireturn, 1) := by decide +kernel
theorem dX3_of_74 : decode cX3_of 74 = .ok (.aload_n 0, 1) := by decide +kernel
theorem dX3_of_75 : decode cX3_of 75 = .ok (.getfield 12, 3) := by decide +kernel
theorem dX3_of_78 : decode cX3_of 78 = .ok (.getfield 110, 3) := by decide +kernel
theorem dX3_of_81 : decode cX3_of 81 = .ok (.ireturn, 1) := by decide +kernel
theorem dX3_of_82 : decode cX3_of 82 = .ok (.aload_n 0, 1) := by decide +kernel
theorem dX3_of_83 : decode cX3_of 83 = .ok (.getfield 12, 3) := by decide +kernel
theorem dX3_of_86 : decode cX3_of 86 = .ok (.getfield 105, 3) := by decide +kernel
theorem dX3_of_89 : decode cX3_of 89 = .ok (.ireturn, 1) := by decide +kernel
theorem dX3_of_90 : decode cX3_of 90 = .ok (.aload_n 0, 1) := by decide +kernel
theorem dX3_of_91 : decode cX3_of 91 = .ok (.getfield 27, 3) := by decide +kernel
theorem dX3_of_94 : decode cX3_of 94 = .ok (.ireturn, 1) := by decide +kernel
theorem dX3_of_95 : decode cX3_of 95 = .ok (.aload_n 0, 1) := by decide +kernel
theorem dX3_of_96 : decode cX3_of 96 = .ok (.getfield 23, 3) := by decide +kernel
theorem dX3_of_99 : decode cX3_of 99 = .ok (.getfield 46, 3) := by decide +kernel
theorem dX3_of_102 : decode cX3_of 102 = .ok (.ireturn, 1) := by decide +kernel
set_option maxRecDepth 20000 in
theorem ggX3_now_X3_needClock : GoodIn wsX3_now wsX3_needClock := goodIn_ca (goodIn_r _ [6, 7, 8] (by decide +kernel) (by decide +kernel)) (goodIn_sub (fun _ h => List.mem_cons_of_mem _ (List.mem_append_right _ h)) (by decide +kernel))
set_option maxRecDepth 20000 in
theorem gX3_now_X3_needClock : GoodIn wsX3_now (va_wsS RX3 47 yX3_needClock wsX3_needClock) := goodIn_app (goodIn_of _ (by decide +kernel)) ggX3_now_X3_needClock
theorem dX3_now_0 : decode cX3_now 0 = .ok (.iload_n 1, 1) := by decide +kernel
theorem dX3_now_1 : decode cX3_now 1 = .ok (.invokestatic 47, 3) := by decide +kernel
theorem dX3_now_4 : decode cX3_now 4 = .ok (.aload_n 0, 1) := by decide +kernel
theorem dX3_now_5 : decode cX3_now 5 = .ok (.getfield 12, 3) := by decide +kernel
theorem dX3_now_8 : decode cX3_now 8 = .ok (.getfield 101, 3) := by decide +kernel
theorem dX3_now_11 : decode cX3_now 11 = .ok (.iload_n 1, 1) := by decide +kernel
theorem dX3_now_12 : decode cX3_now 12 = .ok (.laload, 1) := by decide +kernel
theorem dX3_now_13 : decode cX3_now 13 = .ok (.lreturn, 1) := by decide +kernel
set_option maxRecDepth 20000 in
theorem ggX3_doFirstDue_X0_dueOf : GoodIn wsX3_doFirstDue wsX0_dueOf := goodIn_r _ [9, 10, 11, 12, 8, 13, 14, 15, 16, 17, 18, 19, 20, 21, 127, 128, 129, 130, 131, 132, 133, 134] (by decide +kernel) (by decide +kernel)
set_option maxRecDepth 20000 in
theorem gX3_doFirstDue_X0_dueOf : GoodIn wsX3_doFirstDue (wsV RX3 196 RX0 yX0_dueOf wsX0_dueOf) := goodIn_app (goodIn_of _ (by decide +kernel)) ggX3_doFirstDue_X0_dueOf
set_option maxRecDepth 20000 in
theorem ggX3_doFirstDue_X2_rowGoesAhead : GoodIn wsX3_doFirstDue wsX2_rowGoesAhead := goodIn_r _ [26, 27, 28, 29, 30, 18, 19, 8, 20, 21, 16, 120, 121, 122, 123, 124, 125, 126, 127, 128, 129, 130, 131, 132, 133, 134] (by decide +kernel) (by decide +kernel)
set_option maxRecDepth 20000 in
theorem gX3_doFirstDue_X2_rowGoesAhead : GoodIn wsX3_doFirstDue (wsV RX3 200 RX2 yX2_rowGoesAhead wsX2_rowGoesAhead) := goodIn_app (goodIn_of _ (by decide +kernel)) ggX3_doFirstDue_X2_rowGoesAhead
set_option maxRecDepth 20000 in
theorem ggX3_doFirstDue_X1_add : GoodIn wsX3_doFirstDue wsX1_add := goodIn_r _ [35, 36, 37, 38, 39, 40, 41, 42, 43, 44, 45, 46, 47, 48, 49, 34, 50, 51, 52, 53, 54, 55, 56, 57, 58, 59, 60, 61, 62, 63, 64, 65, 66, 67, 68, 69, 70, 71, 72, 73, 74, 75, 76, 77, 135, 136, 137, 138, 139, 140, 127, 128, 129, 130, 131, 132, 133, 134] (by decide +kernel) (by decide +kernel)
set_option maxRecDepth 20000 in
theorem gX3_doFirstDue_X1_add : GoodIn wsX3_doFirstDue (wsV RX3 204 RX1 yX1_add wsX1_add) := goodIn_app (goodIn_of _ (by decide +kernel)) ggX3_doFirstDue_X1_add
set_option maxRecDepth 20000 in
theorem ggX3_doFirstDue_X0_leave : GoodIn wsX3_doFirstDue wsX0_leave := goodIn_r _ [81, 16, 14, 82, 67, 68, 69, 127, 128, 129, 130, 131, 132, 133, 134] (by decide +kernel) (by decide +kernel)
set_option maxRecDepth 20000 in
theorem gX3_doFirstDue_X0_leave : GoodIn wsX3_doFirstDue (wsV RX3 98 RX0 yX0_leave wsX0_leave) := goodIn_app (goodIn_of _ (by decide +kernel)) ggX3_doFirstDue_X0_leave
set_option maxRecDepth 20000 in
theorem ggX3_doFirstDue_X2_finishTimer : GoodIn wsX3_doFirstDue wsX2_finishTimer := goodIn_r _ [86, 28, 87, 88, 89, 90, 91, 25, 92, 93, 94, 95, 96, 8, 97, 16, 14, 98, 21, 99, 100, 101, 79, 80, 81, 82, 67, 68, 69, 102, 103, 104, 105, 106, 107, 108, 109, 110, 111, 112, 113, 114, 115, 120, 121, 122, 123, 124, 125, 126, 127, 128, 129, 130, 131, 132, 133, 134] (by decide +kernel) (by decide +kernel)
set_option maxRecDepth 20000 in
theorem gX3_doFirstDue_X2_finishTimer : GoodIn wsX3_doFirstDue (wsV RX3 208 RX2 yX2_finishTimer wsX2_finishTimer) := goodIn_app (goodIn_of _ (by decide +kernel)) ggX3_doFirstDue_X2_finishTimer
theorem dX3_doFirstDue_0 : decode cX3_doFirstDue 0 = .ok (.aload_n 0, 1) := by decide +kernel
theorem dX3_doFirstDue_1 : decode cX3_doFirstDue 1 = .ok (.getfield 12, 3) := by decide +kernel
theorem dX3_doFirstDue_4 : decode cX3_doFirstDue 4 = .ok (.getfield 31, 3) := by decide +kernel
theorem dX3_doFirstDue_7 : decode cX3_doFirstDue 7 = .ok (.iload_n 1, 1) := by decide +kernel
theorem dX3_doFirstDue_8 : decode cX3_doFirstDue 8 = .ok (.lload_n 2, 1) := by decide +kernel
theorem dX3_doFirstDue_9 : decode cX3_doFirstDue 9 = .ok (.invokevirtual 196, 3) := by decide +kernel
theorem dX3_doFirstDue_12 : decode cX3_doFirstDue 12 = .ok (.istore 4, 2) := by decide +kernel
theorem dX3_doFirstDue_14 : decode cX3_doFirstDue 14 = .ok (.iload_n 1, 1) := by decide +kernel
theorem dX3_doFirstDue_15 : decode cX3_doFirstDue 15 = .ok (.ifCond .ne 18, 3) := by decide +kernel
theorem dX3_doFirstDue_18 : decode cX3_doFirstDue 18 = .ok (.aload_n 0, 1) := by decide +kernel
theorem dX3_doFirstDue_19 : decode cX3_doFirstDue 19 = .ok (.getfield 12, 3) := by decide +kernel
theorem dX3_doFirstDue_22 : decode cX3_doFirstDue 22 = .ok (.getfield 40, 3) := by decide +kernel
theorem dX3_doFirstDue_25 : decode cX3_doFirstDue 25 = .ok (.iload_n 1, 1) := by decide +kernel
theorem dX3_doFirstDue_26 : decode cX3_doFirstDue 26 = .ok (.lload_n 2, 1) := by decide +kernel
theorem dX3_doFirstDue_27 : decode cX3_doFirstDue 27 = .ok (.invokevirtual 196, 3) := by decide +kernel
theorem dX3_doFirstDue_30 : decode cX3_doFirstDue 30 = .ok (.goto 4, 3) := by decide +kernel
theorem dX3_doFirstDue_33 : decode cX3_doFirstDue 33 = .ok (.iconst (-1), 1) := by decide +kernel
theorem dX3_doFirstDue_34 : decode cX3_doFirstDue 34 = .ok (.istore 5, 2) := by decide +kernel
theorem dX3_doFirstDue_36 : decode cX3_doFirstDue 36 = .ok (.iload 4, 2) := by decide +kernel
theorem dX3_doFirstDue_38 : decode cX3_doFirstDue 38 = .ok (.iconst (-1), 1) := by decide +kernel
theorem dX3_doFirstDue_39 : decode cX3_doFirstDue 39 = .ok (.if_icmp .ne 11, 3) := by decide +kernel
theorem dX3_doFirstDue_42 : decode cX3_doFirstDue 42 = .ok (.iload 5, 2) := by decide +kernel
theorem dX3_doFirstDue_44 : decode cX3_doFirstDue 44 = .ok (.iconst (-1), 1) := by decide +kernel
theorem dX3_doFirstDue_45 : decode cX3_doFirstDue 45 = .ok (.if_icmp .ne 5, 3) := by decide +kernel
theorem dX3_doFirstDue_48 : decode cX3_doFirstDue 48 = .ok (.iconst 0, 1) := by decide +kernel
theorem dX3_doFirstDue_49 : decode cX3_doFirstDue 49 = .ok (.ireturn, 1) := by decide +kernel
theorem dX3_doFirstDue_50 : decode cX3_doFirstDue 50 = .ok (.iload 4, 2) := by decide +kernel
theorem dX3_doFirstDue_52 : decode cX3_doFirstDue 52 = .ok (.iconst (-1), 1) := by decide +kernel
theorem dX3_doFirstDue_53 : decode cX3_doFirstDue 53 = .ok (.if_icmp .eq 23, 3) := by decide +kernel
theorem dX3_doFirstDue_56 : decode cX3_doFirstDue 56 = .ok (.iload 5, 2) := by decide +kernel
theorem dX3_doFirstDue_58 : decode cX3_doFirstDue 58 = .ok (.iconst (-1), 1) := by decide +kernel
theorem dX3_doFirstDue_59 : decode cX3_doFirstDue 59 = .ok (.if_icmp .eq 49, 3) := by decide +kernel
theorem dX3_doFirstDue_62 : decode cX3_doFirstDue 62 = .ok (.aload_n 0, 1) := by decide +kernel
theorem dX3_doFirstDue_63 : decode cX3_doFirstDue 63 = .ok (.getfield 12, 3) := by decide +kernel
theorem dX3_doFirstDue_66 : decode cX3_doFirstDue 66 = .ok (.iload 5, 2) := by decide +kernel
theorem dX3_doFirstDue_68 : decode cX3_doFirstDue 68 = .ok (.iload 4, 2) := by decide +kernel
theorem dX3_doFirstDue_70 : decode cX3_doFirstDue 70 = .ok (.invokevirtual 200, 3) := by decide +kernel
theorem dX3_doFirstDue_73 : decode cX3_doFirstDue 73 = .ok (.ifCond .eq 35, 3) := by decide +kernel
theorem dX3_doFirstDue_76 : decode cX3_doFirstDue 76 = .ok (.aload_n 0, 1) := by decide +kernel
end
section
theorem dX3_doFirstDue_77 : decode cX3_doFirstDue 77 = .ok (.getfield 23, 3) := by decide +kernel
theorem dX3_doFirstDue_80 : decode cX3_doFirstDue 80 = .ok (.iconst 0, 1) := by decide +kernel
theorem dX3_doFirstDue_81 : decode cX3_doFirstDue 81 = .ok (.aload_n 0, 1) := by decide +kernel
theorem dX3_doFirstDue_82 : decode cX3_doFirstDue 82 = .ok (.getfield 12, 3) := by decide +kernel
theorem dX3_doFirstDue_85 : decode cX3_doFirstDue 85 = .ok (.getfield 40, 3) := by decide +kernel
theorem dX3_doFirstDue_88 : decode cX3_doFirstDue 88 = .ok (.iload 5, 2) := by decide +kernel
theorem dX3_doFirstDue_90 : decode cX3_doFirstDue 90 = .ok (.invokevirtual 204, 3) := by decide +kernel
theorem dX3_doFirstDue_93 : decode cX3_doFirstDue 93 = .ok (.aload_n 0, 1) := by decide +kernel
theorem dX3_doFirstDue_94 : decode cX3_doFirstDue 94 = .ok (.getfield 12, 3) := by decide +kernel
theorem dX3_doFirstDue_97 : decode cX3_doFirstDue 97 = .ok (.getfield 40, 3) := by decide +kernel
theorem dX3_doFirstDue_100 : decode cX3_doFirstDue 100 = .ok (.iload 5, 2) := by decide +kernel
theorem dX3_doFirstDue_102 : decode cX3_doFirstDue 102 = .ok (.invokevirtual 98, 3) := by decide +kernel
theorem dX3_doFirstDue_105 : decode cX3_doFirstDue 105 = .ok (.goto 29, 3) := by decide +kernel
theorem dX3_doFirstDue_108 : decode cX3_doFirstDue 108 = .ok (.aload_n 0, 1) := by decide +kernel
theorem dX3_doFirstDue_109 : decode cX3_doFirstDue 109 = .ok (.getfield 23, 3) := by decide +kernel
theorem dX3_doFirstDue_112 : decode cX3_doFirstDue 112 = .ok (.iconst 1, 1) := by decide +kernel
theorem dX3_doFirstDue_113 : decode cX3_doFirstDue 113 = .ok (.aload_n 0, 1) := by decide +kernel
theorem dX3_doFirstDue_114 : decode cX3_doFirstDue 114 = .ok (.getfield 12, 3) := by decide +kernel
theorem dX3_doFirstDue_117 : decode cX3_doFirstDue 117 = .ok (.getfield 31, 3) := by decide +kernel
theorem dX3_doFirstDue_120 : decode cX3_doFirstDue 120 = .ok (.iload 4, 2) := by decide +kernel
theorem dX3_doFirstDue_122 : decode cX3_doFirstDue 122 = .ok (.invokevirtual 204, 3) := by decide +kernel
theorem dX3_doFirstDue_125 : decode cX3_doFirstDue 125 = .ok (.aload_n 0, 1) := by decide +kernel
theorem dX3_doFirstDue_126 : decode cX3_doFirstDue 126 = .ok (.getfield 12, 3) := by decide +kernel
theorem dX3_doFirstDue_129 : decode cX3_doFirstDue 129 = .ok (.iload 4, 2) := by decide +kernel
theorem dX3_doFirstDue_131 : decode cX3_doFirstDue 131 = .ok (.invokevirtual 208, 3) := by decide +kernel
theorem dX3_doFirstDue_134 : decode cX3_doFirstDue 134 = .ok (.iconst 1, 1) := by decide +kernel
theorem dX3_doFirstDue_135 : decode cX3_doFirstDue 135 = .ok (.ireturn, 1) := by decide +kernel
set_option maxRecDepth 20000 in
theorem ggX3_needTimer_X0_placeOf : GoodIn wsX3_needTimer wsX0_placeOf := goodIn_r _ [9, 10, 11, 12, 24, 25, 26, 27, 28, 29, 30, 31] (by decide +kernel) (by decide +kernel)
set_option maxRecDepth 20000 in
theorem gX3_needTimer_X0_placeOf : GoodIn wsX3_needTimer (wsV RX3 95 RX0 yX0_placeOf wsX0_placeOf) := goodIn_app (goodIn_of _ (by decide +kernel)) ggX3_needTimer_X0_placeOf
theorem dX3_needTimer_0 : decode cX3_needTimer 0 = .ok (.aload_n 0, 1) := by decide +kernel
theorem dX3_needTimer_1 : decode cX3_needTimer 1 = .ok (.getfield 12, 3) := by decide +kernel
theorem dX3_needTimer_4 : decode cX3_needTimer 4 = .ok (.getfield 31, 3) := by decide +kernel
theorem dX3_needTimer_7 : decode cX3_needTimer 7 = .ok (.iload_n 1, 1) := by decide +kernel
theorem dX3_needTimer_8 : decode cX3_needTimer 8 = .ok (.invokevirtual 95, 3) := by decide +kernel
theorem dX3_needTimer_11 : decode cX3_needTimer 11 = .ok (.istore_n 2, 1) := by decide +kernel
theorem dX3_needTimer_12 : decode cX3_needTimer 12 = .ok (.iload_n 2, 1) := by decide +kernel
theorem dX3_needTimer_13 : decode cX3_needTimer 13 = .ok (.iconst (-1), 1) := by decide +kernel
theorem dX3_needTimer_14 : decode cX3_needTimer 14 = .ok (.if_icmp .ne 13, 3) := by decide +kernel
theorem dX3_needTimer_17 : decode cX3_needTimer 17 = .ok (.new 127, 3) := by decide +kernel
theorem dX3_needTimer_20 : decode cX3_needTimer 20 = .ok (.dup, 1) := by decide +kernel
theorem dX3_needTimer_21 : decode cX3_needTimer 21 = .ok (.ldc 211, 2) := by decide +kernel
theorem dX3_needTimer_23 : decode cX3_needTimer 23 = .ok (.invokespecial 131, 3) := by decide +kernel
theorem dX3_needTimer_26 : decode cX3_needTimer 26 = .ok (.athrow, 1) := by decide +kernel
theorem dX3_needTimer_27 : decode cX3_needTimer 27 = .ok (.iload_n 2, 1) := by decide +kernel
theorem dX3_needTimer_28 : decode cX3_needTimer 28 = .ok (.ireturn, 1) := by decide +kernel
theorem dX3_needClock_0 : decode cX3_needClock 0 = .ok (.iload_n 0, 1) := by decide +kernel
theorem dX3_needClock_1 : decode cX3_needClock 1 = .ok (.ifCond .lt 8, 3) := by decide +kernel
theorem dX3_needClock_4 : decode cX3_needClock 4 = .ok (.iload_n 0, 1) := by decide +kernel
theorem dX3_needClock_5 : decode cX3_needClock 5 = .ok (.iconst 2, 1) := by decide +kernel
theorem dX3_needClock_6 : decode cX3_needClock 6 = .ok (.if_icmp .lt 13, 3) := by decide +kernel
theorem dX3_needClock_9 : decode cX3_needClock 9 = .ok (.new 57, 3) := by decide +kernel
theorem dX3_needClock_12 : decode cX3_needClock 12 = .ok (.dup, 1) := by decide +kernel
theorem dX3_needClock_13 : decode cX3_needClock 13 = .ok (.ldc 213, 2) := by decide +kernel
theorem dX3_needClock_15 : decode cX3_needClock 15 = .ok (.invokespecial 61, 3) := by decide +kernel
theorem dX3_needClock_18 : decode cX3_needClock 18 = .ok (.athrow, 1) := by decide +kernel
theorem dX3_needClock_19 : decode cX3_needClock 19 = .ok (.return_, 1) := by decide +kernel
theorem dX3_needTime_0 : decode cX3_needTime 0 = .ok (.lload_n 0, 1) := by decide +kernel
theorem dX3_needTime_1 : decode cX3_needTime 1 = .ok (.lconst 0, 1) := by decide +kernel
theorem dX3_needTime_2 : decode cX3_needTime 2 = .ok (.lcmp, 1) := by decide +kernel
theorem dX3_needTime_3 : decode cX3_needTime 3 = .ok (.ifCond .lt 11, 3) := by decide +kernel
theorem dX3_needTime_6 : decode cX3_needTime 6 = .ok (.lload_n 0, 1) := by decide +kernel
theorem dX3_needTime_7 : decode cX3_needTime 7 = .ok (.ldc2_w 215, 3) := by decide +kernel
theorem dX3_needTime_10 : decode cX3_needTime 10 = .ok (.lcmp, 1) := by decide +kernel
theorem dX3_needTime_11 : decode cX3_needTime 11 = .ok (.ifCond .le 13, 3) := by decide +kernel
theorem dX3_needTime_14 : decode cX3_needTime 14 = .ok (.new 57, 3) := by decide +kernel
theorem dX3_needTime_17 : decode cX3_needTime 17 = .ok (.dup, 1) := by decide +kernel
theorem dX3_needTime_18 : decode cX3_needTime 18 = .ok (.ldc 217, 2) := by decide +kernel
theorem dX3_needTime_20 : decode cX3_needTime 20 = .ok (.invokespecial 61, 3) := by decide +kernel
theorem dX3_needTime_23 : decode cX3_needTime 23 = .ok (.athrow, 1) := by decide +kernel
theorem dX3_needTime_24 : decode cX3_needTime 24 = .ok (.return_, 1) := by decide +kernel
theorem dX3_needWhat_0 : decode cX3_needWhat 0 = .ok (.iload_n 0, 1) := by decide +kernel
theorem dX3_needWhat_1 : decode cX3_needWhat 1 = .ok (.ifCond .lt 8, 3) := by decide +kernel
theorem dX3_needWhat_4 : decode cX3_needWhat 4 = .ok (.iload_n 0, 1) := by decide +kernel
theorem dX3_needWhat_5 : decode cX3_needWhat 5 = .ok (.iload_n 1, 1) := by decide +kernel
theorem dX3_needWhat_6 : decode cX3_needWhat 6 = .ok (.if_icmp .le 13, 3) := by decide +kernel
theorem dX3_needWhat_9 : decode cX3_needWhat 9 = .ok (.new 57, 3) := by decide +kernel
theorem dX3_needWhat_12 : decode cX3_needWhat 12 = .ok (.dup, 1) := by decide +kernel
theorem dX3_needWhat_13 : decode cX3_needWhat 13 = .ok (.ldc 219, 2) := by decide +kernel
theorem dX3_needWhat_15 : decode cX3_needWhat 15 = .ok (.invokespecial 61, 3) := by decide +kernel
theorem dX3_needWhat_18 : decode cX3_needWhat 18 = .ok (.athrow, 1) := by decide +kernel
theorem dX3_needWhat_19 : decode cX3_needWhat 19 = .ok (.return_, 1) := by decide +kernel
theorem dX3_needTasks_0 : decode cX3_needTasks 0 = .ok (.iload_n 0, 1) := by decide +kernel
theorem dX3_needTasks_1 : decode cX3_needTasks 1 = .ok (.iconst 1, 1) := by decide +kernel
theorem dX3_needTasks_2 : decode cX3_needTasks 2 = .ok (.if_icmp .lt 10, 3) := by decide +kernel
theorem dX3_needTasks_5 : decode cX3_needTasks 5 = .ok (.iload_n 0, 1) := by decide +kernel
theorem dX3_needTasks_6 : decode cX3_needTasks 6 = .ok (.sipush 128, 3) := by decide +kernel
theorem dX3_needTasks_9 : decode cX3_needTasks 9 = .ok (.if_icmp .le 13, 3) := by decide +kernel
theorem dX3_needTasks_12 : decode cX3_needTasks 12 = .ok (.new 57, 3) := by decide +kernel
theorem dX3_needTasks_15 : decode cX3_needTasks 15 = .ok (.dup, 1) := by decide +kernel
theorem dX3_needTasks_16 : decode cX3_needTasks 16 = .ok (.ldc 221, 2) := by decide +kernel
theorem dX3_needTasks_18 : decode cX3_needTasks 18 = .ok (.invokespecial 61, 3) := by decide +kernel
theorem dX3_needTasks_21 : decode cX3_needTasks 21 = .ok (.athrow, 1) := by decide +kernel
theorem dX3_needTasks_22 : decode cX3_needTasks 22 = .ok (.return_, 1) := by decide +kernel
set_option maxRecDepth 20000 in
theorem ggX3_taskOf_J9_floorMod_f86c9 : GoodIn wsX3_taskOf wsJ9_floorMod_f86c9 := goodIn_r _ [5] (by decide +kernel) (by decide +kernel)
set_option maxRecDepth 20000 in
theorem gX3_taskOf_J9_floorMod_f86c9 : GoodIn wsX3_taskOf (va_wsS RX3 225 yJ9_floorMod_f86c9 wsJ9_floorMod_f86c9) := goodIn_app (goodIn_of _ (by decide +kernel)) ggX3_taskOf_J9_floorMod_f86c9
theorem dX3_taskOf_0 : decode cX3_taskOf 0 = .ok (.lload_n 0, 1) := by decide +kernel
theorem dX3_taskOf_1 : decode cX3_taskOf 1 = .ok (.ldc2_w 223, 3) := by decide +kernel
theorem dX3_taskOf_4 : decode cX3_taskOf 4 = .ok (.invokestatic 225, 3) := by decide +kernel
theorem dX3_taskOf_7 : decode cX3_taskOf 7 = .ok (.l2i, 1) := by decide +kernel
theorem dX3_taskOf_8 : decode cX3_taskOf 8 = .ok (.istore_n 3, 1) := by decide +kernel
theorem dX3_taskOf_9 : decode cX3_taskOf 9 = .ok (.iload_n 3, 1) := by decide +kernel
theorem dX3_taskOf_10 : decode cX3_taskOf 10 = .ok (.iload_n 2, 1) := by decide +kernel
theorem dX3_taskOf_11 : decode cX3_taskOf 11 = .ok (.imul, 1) := by decide +kernel
theorem dX3_taskOf_12 : decode cX3_taskOf 12 = .ok (.sipush 128, 3) := by decide +kernel
theorem dX3_taskOf_15 : decode cX3_taskOf 15 = .ok (.idiv, 1) := by decide +kernel
theorem dX3_taskOf_16 : decode cX3_taskOf 16 = .ok (.ireturn, 1) := by decide +kernel
set_option maxRecDepth 20000 in
theorem ggX4_init_X4_begin : GoodIn wsX4_init wsX4_begin := goodIn_r _ [26, 5, 15, 27, 16, 28, 29, 30, 31, 32, 33, 34, 35, 36, 37, 38, 39, 40, 41, 42, 43, 44, 45, 46, 47] (by decide +kernel) (by decide +kernel)
set_option maxRecDepth 20000 in
theorem gX4_init_X4_begin : GoodIn wsX4_init (wsV RX4 57 RX4 yX4_begin wsX4_begin) := goodIn_app (goodIn_of _ (by decide +kernel)) ggX4_init_X4_begin
theorem dX4_init_0 : decode cX4_init 0 = .ok (.aload_n 0, 1) := by decide +kernel
theorem dX4_init_1 : decode cX4_init 1 = .ok (.invokespecial 1, 3) := by decide +kernel
theorem dX4_init_4 : decode cX4_init 4 = .ok (.aload_n 0, 1) := by decide +kernel
theorem dX4_init_5 : decode cX4_init 5 = .ok (.iconst 4, 1) := by decide +kernel
theorem dX4_init_6 : decode cX4_init 6 = .ok (.newarray .int, 2) := by decide +kernel
theorem dX4_init_8 : decode cX4_init 8 = .ok (.putfield 7, 3) := by decide +kernel
theorem dX4_init_11 : decode cX4_init 11 = .ok (.aload_n 0, 1) := by decide +kernel
theorem dX4_init_12 : decode cX4_init 12 = .ok (.sipush 320, 3) := by decide +kernel
theorem dX4_init_15 : decode cX4_init 15 = .ok (.newarray .boolean, 2) := by decide +kernel
theorem dX4_init_17 : decode cX4_init 17 = .ok (.putfield 13, 3) := by decide +kernel
theorem dX4_init_20 : decode cX4_init 20 = .ok (.aload_n 0, 1) := by decide +kernel
theorem dX4_init_21 : decode cX4_init 21 = .ok (.sipush 320, 3) := by decide +kernel
theorem dX4_init_24 : decode cX4_init 24 = .ok (.newarray .int, 2) := by decide +kernel
theorem dX4_init_26 : decode cX4_init 26 = .ok (.putfield 17, 3) := by decide +kernel
theorem dX4_init_29 : decode cX4_init 29 = .ok (.aload_n 0, 1) := by decide +kernel
theorem dX4_init_30 : decode cX4_init 30 = .ok (.sipush 320, 3) := by decide +kernel
theorem dX4_init_33 : decode cX4_init 33 = .ok (.newarray .int, 2) := by decide +kernel
theorem dX4_init_35 : decode cX4_init 35 = .ok (.putfield 20, 3) := by decide +kernel
theorem dX4_init_38 : decode cX4_init 38 = .ok (.aload_n 0, 1) := by decide +kernel
theorem dX4_init_39 : decode cX4_init 39 = .ok (.sipush 320, 3) := by decide +kernel
theorem dX4_init_42 : decode cX4_init 42 = .ok (.newarray .long, 2) := by decide +kernel
theorem dX4_init_44 : decode cX4_init 44 = .ok (.putfield 23, 3) := by decide +kernel
theorem dX4_init_47 : decode cX4_init 47 = .ok (.aload_n 0, 1) := by decide +kernel
theorem dX4_init_48 : decode cX4_init 48 = .ok (.sipush 320, 3) := by decide +kernel
theorem dX4_init_51 : decode cX4_init 51 = .ok (.newarray .long, 2) := by decide +kernel
theorem dX4_init_53 : decode cX4_init 53 = .ok (.putfield 27, 3) := by decide +kernel
theorem dX4_init_56 : decode cX4_init 56 = .ok (.aload_n 0, 1) := by decide +kernel
theorem dX4_init_57 : decode cX4_init 57 = .ok (.sipush 320, 3) := by decide +kernel
theorem dX4_init_60 : decode cX4_init 60 = .ok (.newarray .long, 2) := by decide +kernel
theorem dX4_init_62 : decode cX4_init 62 = .ok (.putfield 30, 3) := by decide +kernel
theorem dX4_init_65 : decode cX4_init 65 = .ok (.aload_n 0, 1) := by decide +kernel
theorem dX4_init_66 : decode cX4_init 66 = .ok (.sipush 320, 3) := by decide +kernel
theorem dX4_init_69 : decode cX4_init 69 = .ok (.newarray .int, 2) := by decide +kernel
theorem dX4_init_71 : decode cX4_init 71 = .ok (.putfield 33, 3) := by decide +kernel
theorem dX4_init_74 : decode cX4_init 74 = .ok (.aload_n 0, 1) := by decide +kernel
theorem dX4_init_75 : decode cX4_init 75 = .ok (.bipush 8, 2) := by decide +kernel
theorem dX4_init_77 : decode cX4_init 77 = .ok (.newarray .long, 2) := by decide +kernel
theorem dX4_init_79 : decode cX4_init 79 = .ok (.putfield 36, 3) := by decide +kernel
theorem dX4_init_82 : decode cX4_init 82 = .ok (.aload_n 0, 1) := by decide +kernel
theorem dX4_init_83 : decode cX4_init 83 = .ok (.bipush 16, 2) := by decide +kernel
theorem dX4_init_85 : decode cX4_init 85 = .ok (.newarray .int, 2) := by decide +kernel
theorem dX4_init_87 : decode cX4_init 87 = .ok (.putfield 39, 3) := by decide +kernel
theorem dX4_init_90 : decode cX4_init 90 = .ok (.aload_n 0, 1) := by decide +kernel
theorem dX4_init_91 : decode cX4_init 91 = .ok (.sipush 4000, 3) := by decide +kernel
theorem dX4_init_94 : decode cX4_init 94 = .ok (.newarray .int, 2) := by decide +kernel
theorem dX4_init_96 : decode cX4_init 96 = .ok (.putfield 42, 3) := by decide +kernel
theorem dX4_init_99 : decode cX4_init 99 = .ok (.aload_n 0, 1) := by decide +kernel
theorem dX4_init_100 : decode cX4_init 100 = .ok (.sipush 4000, 3) := by decide +kernel
theorem dX4_init_103 : decode cX4_init 103 = .ok (.newarray .int, 2) := by decide +kernel
theorem dX4_init_105 : decode cX4_init 105 = .ok (.putfield 45, 3) := by decide +kernel
theorem dX4_init_108 : decode cX4_init 108 = .ok (.aload_n 0, 1) := by decide +kernel
theorem dX4_init_109 : decode cX4_init 109 = .ok (.sipush 4000, 3) := by decide +kernel
theorem dX4_init_112 : decode cX4_init 112 = .ok (.newarray .long, 2) := by decide +kernel
theorem dX4_init_114 : decode cX4_init 114 = .ok (.putfield 48, 3) := by decide +kernel
theorem dX4_init_117 : decode cX4_init 117 = .ok (.aload_n 0, 1) := by decide +kernel
theorem dX4_init_118 : decode cX4_init 118 = .ok (.sipush 4000, 3) := by decide +kernel
theorem dX4_init_121 : decode cX4_init 121 = .ok (.newarray .long, 2) := by decide +kernel
theorem dX4_init_123 : decode cX4_init 123 = .ok (.putfield 51, 3) := by decide +kernel
theorem dX4_init_126 : decode cX4_init 126 = .ok (.aload_n 0, 1) := by decide +kernel
theorem dX4_init_127 : decode cX4_init 127 = .ok (.sipush 4000, 3) := by decide +kernel
theorem dX4_init_130 : decode cX4_init 130 = .ok (.newarray .int, 2) := by decide +kernel
theorem dX4_init_132 : decode cX4_init 132 = .ok (.putfield 54, 3) := by decide +kernel
theorem dX4_init_135 : decode cX4_init 135 = .ok (.aload_n 0, 1) := by decide +kernel
theorem dX4_init_136 : decode cX4_init 136 = .ok (.invokevirtual 57, 3) := by decide +kernel
theorem dX4_init_139 : decode cX4_init 139 = .ok (.return_, 1) := by decide +kernel
theorem dX4_thrown_0 : decode cX4_thrown 0 = .ok (.aload_n 0, 1) := by decide +kernel
theorem dX4_thrown_1 : decode cX4_thrown 1 = .ok (.getfield 60, 3) := by decide +kernel
theorem dX4_thrown_4 : decode cX4_thrown 4 = .ok (.ireturn, 1) := by decide +kernel
theorem dX4_isGood_0 : decode cX4_isGood 0 = .ok (.aload_n 0, 1) := by decide +kernel
theorem dX4_isGood_1 : decode cX4_isGood 1 = .ok (.iload_n 1, 1) := by decide +kernel
theorem dX4_isGood_2 : decode cX4_isGood 2 = .ok (.putfield 60, 3) := by decide +kernel
theorem dX4_isGood_5 : decode cX4_isGood 5 = .ok (.iload_n 1, 1) := by decide +kernel
theorem dX4_isGood_6 : decode cX4_isGood 6 = .ok (.ifCond .ne 7, 3) := by decide +kernel
theorem dX4_isGood_9 : decode cX4_isGood 9 = .ok (.iconst 1, 1) := by decide +kernel
theorem dX4_isGood_10 : decode cX4_isGood 10 = .ok (.goto 4, 3) := by decide +kernel
theorem dX4_isGood_13 : decode cX4_isGood 13 = .ok (.iconst 0, 1) := by decide +kernel
theorem dX4_isGood_14 : decode cX4_isGood 14 = .ok (.ireturn, 1) := by decide +kernel
theorem dX4_isIn_0 : decode cX4_isIn 0 = .ok (.lload_n 0, 1) := by decide +kernel
theorem dX4_isIn_1 : decode cX4_isIn 1 = .ok (.lload_n 2, 1) := by decide +kernel
theorem dX4_isIn_2 : decode cX4_isIn 2 = .ok (.lcmp, 1) := by decide +kernel
theorem dX4_isIn_3 : decode cX4_isIn 3 = .ok (.ifCond .lt 14, 3) := by decide +kernel
theorem dX4_isIn_6 : decode cX4_isIn 6 = .ok (.lload_n 0, 1) := by decide +kernel
theorem dX4_isIn_7 : decode cX4_isIn 7 = .ok (.lload 4, 2) := by decide +kernel
theorem dX4_isIn_9 : decode cX4_isIn 9 = .ok (.lcmp, 1) := by decide +kernel
theorem dX4_isIn_10 : decode cX4_isIn 10 = .ok (.ifCond .gt 7, 3) := by decide +kernel
theorem dX4_isIn_13 : decode cX4_isIn 13 = .ok (.iconst 1, 1) := by decide +kernel
theorem dX4_isIn_14 : decode cX4_isIn 14 = .ok (.goto 4, 3) := by decide +kernel
theorem dX4_isIn_17 : decode cX4_isIn 17 = .ok (.iconst 0, 1) := by decide +kernel
theorem dX4_isIn_18 : decode cX4_isIn 18 = .ok (.ireturn, 1) := by decide +kernel
theorem dX4_begin_0 : decode cX4_begin 0 = .ok (.aload_n 0, 1) := by decide +kernel
theorem dX4_begin_1 : decode cX4_begin 1 = .ok (.getfield 7, 3) := by decide +kernel
theorem dX4_begin_4 : decode cX4_begin 4 = .ok (.iconst 0, 1) := by decide +kernel
theorem dX4_begin_5 : decode cX4_begin 5 = .ok (.iconst 0, 1) := by decide +kernel
theorem dX4_begin_6 : decode cX4_begin 6 = .ok (.iastore, 1) := by decide +kernel
theorem dX4_begin_7 : decode cX4_begin 7 = .ok (.aload_n 0, 1) := by decide +kernel
theorem dX4_begin_8 : decode cX4_begin 8 = .ok (.getfield 36, 3) := by decide +kernel
theorem dX4_begin_11 : decode cX4_begin 11 = .ok (.iconst 0, 1) := by decide +kernel
theorem dX4_begin_12 : decode cX4_begin 12 = .ok (.ldc2_w 64, 3) := by decide +kernel
theorem dX4_begin_15 : decode cX4_begin 15 = .ok (.lastore, 1) := by decide +kernel
theorem dX4_begin_16 : decode cX4_begin 16 = .ok (.aload_n 0, 1) := by decide +kernel
theorem dX4_begin_17 : decode cX4_begin 17 = .ok (.getfield 36, 3) := by decide +kernel
theorem dX4_begin_20 : decode cX4_begin 20 = .ok (.iconst 1, 1) := by decide +kernel
theorem dX4_begin_21 : decode cX4_begin 21 = .ok (.ldc2_w 64, 3) := by decide +kernel
theorem dX4_begin_24 : decode cX4_begin 24 = .ok (.lastore, 1) := by decide +kernel
theorem dX4_begin_25 : decode cX4_begin 25 = .ok (.aload_n 0, 1) := by decide +kernel
theorem dX4_begin_26 : decode cX4_begin 26 = .ok (.getfield 39, 3) := by decide +kernel
theorem dX4_begin_29 : decode cX4_begin 29 = .ok (.iconst 0, 1) := by decide +kernel
theorem dX4_begin_30 : decode cX4_begin 30 = .ok (.iconst 0, 1) := by decide +kernel
theorem dX4_begin_31 : decode cX4_begin 31 = .ok (.iastore, 1) := by decide +kernel
theorem dX4_begin_32 : decode cX4_begin 32 = .ok (.aload_n 0, 1) := by decide +kernel
theorem dX4_begin_33 : decode cX4_begin 33 = .ok (.getfield 39, 3) := by decide +kernel
theorem dX4_begin_36 : decode cX4_begin 36 = .ok (.iconst 1, 1) := by decide +kernel
theorem dX4_begin_37 : decode cX4_begin 37 = .ok (.iconst 0, 1) := by decide +kernel
theorem dX4_begin_38 : decode cX4_begin 38 = .ok (.iastore, 1) := by decide +kernel
theorem dX4_begin_39 : decode cX4_begin 39 = .ok (.aload_n 0, 1) := by decide +kernel
theorem dX4_begin_40 : decode cX4_begin 40 = .ok (.getfield 39, 3) := by decide +kernel
theorem dX4_begin_43 : decode cX4_begin 43 = .ok (.iconst 2, 1) := by decide +kernel
theorem dX4_begin_44 : decode cX4_begin 44 = .ok (.iconst 0, 1) := by decide +kernel
theorem dX4_begin_45 : decode cX4_begin 45 = .ok (.iastore, 1) := by decide +kernel
theorem dX4_begin_46 : decode cX4_begin 46 = .ok (.aload_n 0, 1) := by decide +kernel
theorem dX4_begin_47 : decode cX4_begin 47 = .ok (.getfield 39, 3) := by decide +kernel
theorem dX4_begin_50 : decode cX4_begin 50 = .ok (.iconst 3, 1) := by decide +kernel
theorem dX4_begin_51 : decode cX4_begin 51 = .ok (.iconst 1, 1) := by decide +kernel
theorem dX4_begin_52 : decode cX4_begin 52 = .ok (.iastore, 1) := by decide +kernel
theorem dX4_begin_53 : decode cX4_begin 53 = .ok (.aload_n 0, 1) := by decide +kernel
theorem dX4_begin_54 : decode cX4_begin 54 = .ok (.iconst 0, 1) := by decide +kernel
theorem dX4_begin_55 : decode cX4_begin 55 = .ok (.putfield 66, 3) := by decide +kernel
theorem dX4_begin_58 : decode cX4_begin 58 = .ok (.aload_n 0, 1) := by decide +kernel
theorem dX4_begin_59 : decode cX4_begin 59 = .ok (.iconst 0, 1) := by decide +kernel
theorem dX4_begin_60 : decode cX4_begin 60 = .ok (.putfield 69, 3) := by decide +kernel
theorem dX4_begin_63 : decode cX4_begin 63 = .ok (.return_, 1) := by decide +kernel
set_option maxRecDepth 20000 in
theorem ggX4_clear_X4_begin : GoodIn wsX4_clear wsX4_begin := goodIn_r _ [7, 2, 8, 9, 10, 11, 12, 13, 14, 15, 16, 17, 18, 19, 20, 21, 22, 23, 24, 25, 26, 27, 28, 29, 30] (by decide +kernel) (by decide +kernel)
set_option maxRecDepth 20000 in
theorem gX4_clear_X4_begin : GoodIn wsX4_clear (wsV RX4 57 RX4 yX4_begin wsX4_begin) := goodIn_app (goodIn_of _ (by decide +kernel)) ggX4_clear_X4_begin
theorem dX4_clear_0 : decode cX4_clear 0 = .ok (.aload_n 0, 1) := by decide +kernel
theorem dX4_clear_1 : decode cX4_clear 1 = .ok (.iconst 0, 1) := by decide +kernel
theorem dX4_clear_2 : decode cX4_clear 2 = .ok (.putfield 60, 3) := by decide +kernel
theorem dX4_clear_5 : decode cX4_clear 5 = .ok (.aload_n 0, 1) := by decide +kernel
theorem dX4_clear_6 : decode cX4_clear 6 = .ok (.getfield 7, 3) := by decide +kernel
theorem dX4_clear_9 : decode cX4_clear 9 = .ok (.iconst 0, 1) := by decide +kernel
theorem dX4_clear_10 : decode cX4_clear 10 = .ok (.iaload, 1) := by decide +kernel
theorem dX4_clear_11 : decode cX4_clear 11 = .ok (.istore_n 1, 1) := by decide +kernel
theorem dX4_clear_12 : decode cX4_clear 12 = .ok (.aload_n 0, 1) := by decide +kernel
theorem dX4_clear_13 : decode cX4_clear 13 = .ok (.invokevirtual 57, 3) := by decide +kernel
theorem dX4_clear_16 : decode cX4_clear 16 = .ok (.iload_n 1, 1) := by decide +kernel
theorem dX4_clear_17 : decode cX4_clear 17 = .ok (.ireturn, 1) := by decide +kernel
theorem dX4_many_0 : decode cX4_many 0 = .ok (.iconst 0, 1) := by decide +kernel
theorem dX4_many_1 : decode cX4_many 1 = .ok (.istore_n 2, 1) := by decide +kernel
theorem dX4_many_2 : decode cX4_many 2 = .ok (.iconst 0, 1) := by decide +kernel
theorem dX4_many_3 : decode cX4_many 3 = .ok (.istore_n 3, 1) := by decide +kernel
theorem dX4_many_4 : decode cX4_many 4 = .ok (.iload_n 3, 1) := by decide +kernel
theorem dX4_many_5 : decode cX4_many 5 = .ok (.aload_n 0, 1) := by decide +kernel
theorem dX4_many_6 : decode cX4_many 6 = .ok (.getfield 7, 3) := by decide +kernel
theorem dX4_many_9 : decode cX4_many 9 = .ok (.iconst 0, 1) := by decide +kernel
theorem dX4_many_10 : decode cX4_many 10 = .ok (.iaload, 1) := by decide +kernel
theorem dX4_many_11 : decode cX4_many 11 = .ok (.if_icmp .ge 27, 3) := by decide +kernel
theorem dX4_many_14 : decode cX4_many 14 = .ok (.iload_n 2, 1) := by decide +kernel
theorem dX4_many_15 : decode cX4_many 15 = .ok (.aload_n 0, 1) := by decide +kernel
theorem dX4_many_16 : decode cX4_many 16 = .ok (.getfield 13, 3) := by decide +kernel
theorem dX4_many_19 : decode cX4_many 19 = .ok (.iload_n 3, 1) := by decide +kernel
theorem dX4_many_20 : decode cX4_many 20 = .ok (.baload, 1) := by decide +kernel
theorem dX4_many_21 : decode cX4_many 21 = .ok (.iload_n 1, 1) := by decide +kernel
theorem dX4_many_22 : decode cX4_many 22 = .ok (.if_icmp .ne 7, 3) := by decide +kernel
theorem dX4_many_25 : decode cX4_many 25 = .ok (.iconst 1, 1) := by decide +kernel
theorem dX4_many_26 : decode cX4_many 26 = .ok (.goto 4, 3) := by decide +kernel
theorem dX4_many_29 : decode cX4_many 29 = .ok (.iconst 0, 1) := by decide +kernel
theorem dX4_many_30 : decode cX4_many 30 = .ok (.iadd, 1) := by decide +kernel
theorem dX4_many_31 : decode cX4_many 31 = .ok (.istore_n 2, 1) := by decide +kernel
theorem dX4_many_32 : decode cX4_many 32 = .ok (.iinc 3 1, 3) := by decide +kernel
theorem dX4_many_35 : decode cX4_many 35 = .ok (.goto (-31), 3) := by decide +kernel
theorem dX4_many_38 : decode cX4_many 38 = .ok (.iload_n 2, 1) := by decide +kernel
theorem dX4_many_39 : decode cX4_many 39 = .ok (.ireturn, 1) := by decide +kernel
theorem dX4_add_0 : decode cX4_add 0 = .ok (.aload_n 0, 1) := by decide +kernel
theorem dX4_add_1 : decode cX4_add 1 = .ok (.getfield 7, 3) := by decide +kernel
theorem dX4_add_4 : decode cX4_add 4 = .ok (.iconst 0, 1) := by decide +kernel
theorem dX4_add_5 : decode cX4_add 5 = .ok (.iaload, 1) := by decide +kernel
theorem dX4_add_6 : decode cX4_add 6 = .ok (.istore 11, 2) := by decide +kernel
theorem dX4_add_8 : decode cX4_add 8 = .ok (.aload_n 0, 1) := by decide +kernel
theorem dX4_add_9 : decode cX4_add 9 = .ok (.getfield 7, 3) := by decide +kernel
theorem dX4_add_12 : decode cX4_add 12 = .ok (.iconst 0, 1) := by decide +kernel
theorem dX4_add_13 : decode cX4_add 13 = .ok (.dup2, 1) := by decide +kernel
theorem dX4_add_14 : decode cX4_add 14 = .ok (.iaload, 1) := by decide +kernel
theorem dX4_add_15 : decode cX4_add 15 = .ok (.iconst 1, 1) := by decide +kernel
theorem dX4_add_16 : decode cX4_add 16 = .ok (.iadd, 1) := by decide +kernel
theorem dX4_add_17 : decode cX4_add 17 = .ok (.iastore, 1) := by decide +kernel
theorem dX4_add_18 : decode cX4_add 18 = .ok (.aload_n 0, 1) := by decide +kernel
theorem dX4_add_19 : decode cX4_add 19 = .ok (.getfield 13, 3) := by decide +kernel
theorem dX4_add_22 : decode cX4_add 22 = .ok (.iload 11, 2) := by decide +kernel
theorem dX4_add_24 : decode cX4_add 24 = .ok (.iload_n 1, 1) := by decide +kernel
theorem dX4_add_25 : decode cX4_add 25 = .ok (.bastore, 1) := by decide +kernel
theorem dX4_add_26 : decode cX4_add 26 = .ok (.aload_n 0, 1) := by decide +kernel
theorem dX4_add_27 : decode cX4_add 27 = .ok (.getfield 17, 3) := by decide +kernel
theorem dX4_add_30 : decode cX4_add 30 = .ok (.iload 11, 2) := by decide +kernel
theorem dX4_add_32 : decode cX4_add 32 = .ok (.iload_n 2, 1) := by decide +kernel
theorem dX4_add_33 : decode cX4_add 33 = .ok (.iastore, 1) := by decide +kernel
theorem dX4_add_34 : decode cX4_add 34 = .ok (.aload_n 0, 1) := by decide +kernel
theorem dX4_add_35 : decode cX4_add 35 = .ok (.getfield 20, 3) := by decide +kernel
theorem dX4_add_38 : decode cX4_add 38 = .ok (.iload 11, 2) := by decide +kernel
theorem dX4_add_40 : decode cX4_add 40 = .ok (.iload_n 3, 1) := by decide +kernel
theorem dX4_add_41 : decode cX4_add 41 = .ok (.iastore, 1) := by decide +kernel
theorem dX4_add_42 : decode cX4_add 42 = .ok (.aload_n 0, 1) := by decide +kernel
theorem dX4_add_43 : decode cX4_add 43 = .ok (.getfield 23, 3) := by decide +kernel
theorem dX4_add_46 : decode cX4_add 46 = .ok (.iload 11, 2) := by decide +kernel
theorem dX4_add_48 : decode cX4_add 48 = .ok (.lload 4, 2) := by decide +kernel
theorem dX4_add_50 : decode cX4_add 50 = .ok (.lastore, 1) := by decide +kernel
theorem dX4_add_51 : decode cX4_add 51 = .ok (.aload_n 0, 1) := by decide +kernel
theorem dX4_add_52 : decode cX4_add 52 = .ok (.getfield 27, 3) := by decide +kernel
theorem dX4_add_55 : decode cX4_add 55 = .ok (.iload 11, 2) := by decide +kernel
theorem dX4_add_57 : decode cX4_add 57 = .ok (.lload 6, 2) := by decide +kernel
theorem dX4_add_59 : decode cX4_add 59 = .ok (.lastore, 1) := by decide +kernel
theorem dX4_add_60 : decode cX4_add 60 = .ok (.aload_n 0, 1) := by decide +kernel
theorem dX4_add_61 : decode cX4_add 61 = .ok (.getfield 30, 3) := by decide +kernel
theorem dX4_add_64 : decode cX4_add 64 = .ok (.iload 11, 2) := by decide +kernel
theorem dX4_add_66 : decode cX4_add 66 = .ok (.lload 8, 2) := by decide +kernel
theorem dX4_add_68 : decode cX4_add 68 = .ok (.lastore, 1) := by decide +kernel
theorem dX4_add_69 : decode cX4_add 69 = .ok (.aload_n 0, 1) := by decide +kernel
theorem dX4_add_70 : decode cX4_add 70 = .ok (.getfield 33, 3) := by decide +kernel
theorem dX4_add_73 : decode cX4_add 73 = .ok (.iload 11, 2) := by decide +kernel
theorem dX4_add_75 : decode cX4_add 75 = .ok (.iload 10, 2) := by decide +kernel
theorem dX4_add_77 : decode cX4_add 77 = .ok (.iastore, 1) := by decide +kernel
theorem dX4_add_78 : decode cX4_add 78 = .ok (.return_, 1) := by decide +kernel
theorem dX4_copy_0 : decode cX4_copy 0 = .ok (.aload_n 0, 1) := by decide +kernel
theorem dX4_copy_1 : decode cX4_copy 1 = .ok (.getfield 13, 3) := by decide +kernel
theorem dX4_copy_4 : decode cX4_copy 4 = .ok (.iload_n 2, 1) := by decide +kernel
theorem dX4_copy_5 : decode cX4_copy 5 = .ok (.aload_n 0, 1) := by decide +kernel
theorem dX4_copy_6 : decode cX4_copy 6 = .ok (.getfield 13, 3) := by decide +kernel
theorem dX4_copy_9 : decode cX4_copy 9 = .ok (.iload_n 1, 1) := by decide +kernel
theorem dX4_copy_10 : decode cX4_copy 10 = .ok (.baload, 1) := by decide +kernel
theorem dX4_copy_11 : decode cX4_copy 11 = .ok (.bastore, 1) := by decide +kernel
theorem dX4_copy_12 : decode cX4_copy 12 = .ok (.aload_n 0, 1) := by decide +kernel
theorem dX4_copy_13 : decode cX4_copy 13 = .ok (.getfield 17, 3) := by decide +kernel
theorem dX4_copy_16 : decode cX4_copy 16 = .ok (.iload_n 2, 1) := by decide +kernel
theorem dX4_copy_17 : decode cX4_copy 17 = .ok (.aload_n 0, 1) := by decide +kernel
theorem dX4_copy_18 : decode cX4_copy 18 = .ok (.getfield 17, 3) := by decide +kernel
theorem dX4_copy_21 : decode cX4_copy 21 = .ok (.iload_n 1, 1) := by decide +kernel
theorem dX4_copy_22 : decode cX4_copy 22 = .ok (.iaload, 1) := by decide +kernel
theorem dX4_copy_23 : decode cX4_copy 23 = .ok (.iastore, 1) := by decide +kernel
theorem dX4_copy_24 : decode cX4_copy 24 = .ok (.aload_n 0, 1) := by decide +kernel
theorem dX4_copy_25 : decode cX4_copy 25 = .ok (.getfield 20, 3) := by decide +kernel
theorem dX4_copy_28 : decode cX4_copy 28 = .ok (.iload_n 2, 1) := by decide +kernel
theorem dX4_copy_29 : decode cX4_copy 29 = .ok (.aload_n 0, 1) := by decide +kernel
theorem dX4_copy_30 : decode cX4_copy 30 = .ok (.getfield 20, 3) := by decide +kernel
theorem dX4_copy_33 : decode cX4_copy 33 = .ok (.iload_n 1, 1) := by decide +kernel
theorem dX4_copy_34 : decode cX4_copy 34 = .ok (.iaload, 1) := by decide +kernel
theorem dX4_copy_35 : decode cX4_copy 35 = .ok (.iastore, 1) := by decide +kernel
theorem dX4_copy_36 : decode cX4_copy 36 = .ok (.aload_n 0, 1) := by decide +kernel
theorem dX4_copy_37 : decode cX4_copy 37 = .ok (.getfield 23, 3) := by decide +kernel
theorem dX4_copy_40 : decode cX4_copy 40 = .ok (.iload_n 2, 1) := by decide +kernel
theorem dX4_copy_41 : decode cX4_copy 41 = .ok (.aload_n 0, 1) := by decide +kernel
theorem dX4_copy_42 : decode cX4_copy 42 = .ok (.getfield 23, 3) := by decide +kernel
theorem dX4_copy_45 : decode cX4_copy 45 = .ok (.iload_n 1, 1) := by decide +kernel
theorem dX4_copy_46 : decode cX4_copy 46 = .ok (.laload, 1) := by decide +kernel
theorem dX4_copy_47 : decode cX4_copy 47 = .ok (.lastore, 1) := by decide +kernel
theorem dX4_copy_48 : decode cX4_copy 48 = .ok (.aload_n 0, 1) := by decide +kernel
theorem dX4_copy_49 : decode cX4_copy 49 = .ok (.getfield 27, 3) := by decide +kernel
theorem dX4_copy_52 : decode cX4_copy 52 = .ok (.iload_n 2, 1) := by decide +kernel
theorem dX4_copy_53 : decode cX4_copy 53 = .ok (.aload_n 0, 1) := by decide +kernel
theorem dX4_copy_54 : decode cX4_copy 54 = .ok (.getfield 27, 3) := by decide +kernel
theorem dX4_copy_57 : decode cX4_copy 57 = .ok (.iload_n 1, 1) := by decide +kernel
theorem dX4_copy_58 : decode cX4_copy 58 = .ok (.laload, 1) := by decide +kernel
theorem dX4_copy_59 : decode cX4_copy 59 = .ok (.lastore, 1) := by decide +kernel
theorem dX4_copy_60 : decode cX4_copy 60 = .ok (.aload_n 0, 1) := by decide +kernel
theorem dX4_copy_61 : decode cX4_copy 61 = .ok (.getfield 30, 3) := by decide +kernel
theorem dX4_copy_64 : decode cX4_copy 64 = .ok (.iload_n 2, 1) := by decide +kernel
theorem dX4_copy_65 : decode cX4_copy 65 = .ok (.aload_n 0, 1) := by decide +kernel
theorem dX4_copy_66 : decode cX4_copy 66 = .ok (.getfield 30, 3) := by decide +kernel
theorem dX4_copy_69 : decode cX4_copy 69 = .ok (.iload_n 1, 1) := by decide +kernel
theorem dX4_copy_70 : decode cX4_copy 70 = .ok (.laload, 1) := by decide +kernel
theorem dX4_copy_71 : decode cX4_copy 71 = .ok (.lastore, 1) := by decide +kernel
theorem dX4_copy_72 : decode cX4_copy 72 = .ok (.aload_n 0, 1) := by decide +kernel
theorem dX4_copy_73 : decode cX4_copy 73 = .ok (.getfield 33, 3) := by decide +kernel
theorem dX4_copy_76 : decode cX4_copy 76 = .ok (.iload_n 2, 1) := by decide +kernel
theorem dX4_copy_77 : decode cX4_copy 77 = .ok (.aload_n 0, 1) := by decide +kernel
theorem dX4_copy_78 : decode cX4_copy 78 = .ok (.getfield 33, 3) := by decide +kernel
theorem dX4_copy_81 : decode cX4_copy 81 = .ok (.iload_n 1, 1) := by decide +kernel
theorem dX4_copy_82 : decode cX4_copy 82 = .ok (.iaload, 1) := by decide +kernel
theorem dX4_copy_83 : decode cX4_copy 83 = .ok (.iastore, 1) := by decide +kernel
theorem dX4_copy_84 : decode cX4_copy 84 = .ok (.return_, 1) := by decide +kernel
set_option maxRecDepth 20000 in
theorem ggX4_take_X4_copy : GoodIn wsX4_take wsX4_copy := goodIn_r _ [6, 7, 8, 9, 10, 11, 12, 13, 14, 15, 16, 17, 18, 19, 20, 21, 22, 23, 24, 25, 26, 27, 28, 29, 30, 31] (by decide +kernel) (by decide +kernel)
set_option maxRecDepth 20000 in
theorem gX4_take_X4_copy : GoodIn wsX4_take (wsV RX4 72 RX4 yX4_copy wsX4_copy) := goodIn_app (goodIn_of _ (by decide +kernel)) ggX4_take_X4_copy
theorem dX4_take_0 : decode cX4_take 0 = .ok (.aload_n 0, 1) := by decide +kernel
theorem dX4_take_1 : decode cX4_take 1 = .ok (.getfield 7, 3) := by decide +kernel
theorem dX4_take_4 : decode cX4_take 4 = .ok (.iconst 0, 1) := by decide +kernel
theorem dX4_take_5 : decode cX4_take 5 = .ok (.dup2, 1) := by decide +kernel
theorem dX4_take_6 : decode cX4_take 6 = .ok (.iaload, 1) := by decide +kernel
theorem dX4_take_7 : decode cX4_take 7 = .ok (.iconst 1, 1) := by decide +kernel
theorem dX4_take_8 : decode cX4_take 8 = .ok (.isub, 1) := by decide +kernel
theorem dX4_take_9 : decode cX4_take 9 = .ok (.iastore, 1) := by decide +kernel
theorem dX4_take_10 : decode cX4_take 10 = .ok (.aload_n 0, 1) := by decide +kernel
theorem dX4_take_11 : decode cX4_take 11 = .ok (.aload_n 0, 1) := by decide +kernel
theorem dX4_take_12 : decode cX4_take 12 = .ok (.getfield 7, 3) := by decide +kernel
theorem dX4_take_15 : decode cX4_take 15 = .ok (.iconst 0, 1) := by decide +kernel
theorem dX4_take_16 : decode cX4_take 16 = .ok (.iaload, 1) := by decide +kernel
theorem dX4_take_17 : decode cX4_take 17 = .ok (.iload_n 1, 1) := by decide +kernel
theorem dX4_take_18 : decode cX4_take 18 = .ok (.invokevirtual 72, 3) := by decide +kernel
theorem dX4_take_21 : decode cX4_take 21 = .ok (.return_, 1) := by decide +kernel
theorem dX4_find_0 : decode cX4_find 0 = .ok (.iconst 0, 1) := by decide +kernel
theorem dX4_find_1 : decode cX4_find 1 = .ok (.istore_n 2, 1) := by decide +kernel
theorem dX4_find_2 : decode cX4_find 2 = .ok (.iload_n 2, 1) := by decide +kernel
theorem dX4_find_3 : decode cX4_find 3 = .ok (.aload_n 0, 1) := by decide +kernel
theorem dX4_find_4 : decode cX4_find 4 = .ok (.getfield 7, 3) := by decide +kernel
theorem dX4_find_7 : decode cX4_find 7 = .ok (.iconst 0, 1) := by decide +kernel
theorem dX4_find_8 : decode cX4_find 8 = .ok (.iaload, 1) := by decide +kernel
theorem dX4_find_9 : decode cX4_find 9 = .ok (.if_icmp .ge 30, 3) := by decide +kernel
theorem dX4_find_12 : decode cX4_find 12 = .ok (.aload_n 0, 1) := by decide +kernel
theorem dX4_find_13 : decode cX4_find 13 = .ok (.getfield 13, 3) := by decide +kernel
theorem dX4_find_16 : decode cX4_find 16 = .ok (.iload_n 2, 1) := by decide +kernel
theorem dX4_find_17 : decode cX4_find 17 = .ok (.baload, 1) := by decide +kernel
theorem dX4_find_18 : decode cX4_find 18 = .ok (.ifCond .eq 15, 3) := by decide +kernel
theorem dX4_find_21 : decode cX4_find 21 = .ok (.aload_n 0, 1) := by decide +kernel
theorem dX4_find_22 : decode cX4_find 22 = .ok (.getfield 20, 3) := by decide +kernel
theorem dX4_find_25 : decode cX4_find 25 = .ok (.iload_n 2, 1) := by decide +kernel
theorem dX4_find_26 : decode cX4_find 26 = .ok (.iaload, 1) := by decide +kernel
theorem dX4_find_27 : decode cX4_find 27 = .ok (.iload_n 1, 1) := by decide +kernel
theorem dX4_find_28 : decode cX4_find 28 = .ok (.if_icmp .ne 5, 3) := by decide +kernel
theorem dX4_find_31 : decode cX4_find 31 = .ok (.iload_n 2, 1) := by decide +kernel
theorem dX4_find_32 : decode cX4_find 32 = .ok (.ireturn, 1) := by decide +kernel
theorem dX4_find_33 : decode cX4_find 33 = .ok (.iinc 2 1, 3) := by decide +kernel
theorem dX4_find_36 : decode cX4_find 36 = .ok (.goto (-34), 3) := by decide +kernel
theorem dX4_find_39 : decode cX4_find 39 = .ok (.iconst (-1), 1) := by decide +kernel
theorem dX4_find_40 : decode cX4_find 40 = .ok (.ireturn, 1) := by decide +kernel
set_option maxRecDepth 20000 in
theorem ggX4_set_X4_isIn : GoodIn wsX4_set wsX4_isIn := goodIn_r _ [8] (by decide +kernel) (by decide +kernel)
set_option maxRecDepth 20000 in
theorem gX4_set_X4_isIn : GoodIn wsX4_set (va_wsS RX4 76 yX4_isIn wsX4_isIn) := goodIn_app (goodIn_of _ (by decide +kernel)) ggX4_set_X4_isIn
set_option maxRecDepth 20000 in
theorem ggX4_set_X4_many : GoodIn wsX4_set wsX4_many := goodIn_r _ [12, 13, 14, 30, 31, 32, 33, 34, 35, 36, 37, 38, 39, 40, 41, 42, 43, 44, 45, 46, 47] (by decide +kernel) (by decide +kernel)
set_option maxRecDepth 20000 in
theorem gX4_set_X4_many : GoodIn wsX4_set (wsV RX4 86 RX4 yX4_many wsX4_many) := goodIn_app (goodIn_of _ (by decide +kernel)) ggX4_set_X4_many
set_option maxRecDepth 20000 in
theorem ggX4_set_X4_isGood : GoodIn wsX4_set wsX4_isGood := goodIn_r _ [18, 19, 30, 31, 32, 33, 34, 35, 36, 37, 38, 39, 40, 41, 42, 43, 44, 45, 46, 47] (by decide +kernel) (by decide +kernel)
set_option maxRecDepth 20000 in
theorem gX4_set_X4_isGood : GoodIn wsX4_set (wsV RX4 90 RX4 yX4_isGood wsX4_isGood) := goodIn_app (goodIn_of _ (by decide +kernel)) ggX4_set_X4_isGood
set_option maxRecDepth 20000 in
theorem ggX4_set_X4_add : GoodIn wsX4_set wsX4_add := goodIn_r _ [23, 13, 14, 24, 25, 26, 27, 28, 29, 30, 31, 32, 33, 34, 35, 36, 37, 38, 39, 40, 41, 42, 43, 44, 45, 46, 47] (by decide +kernel) (by decide +kernel)
set_option maxRecDepth 20000 in
theorem gX4_set_X4_add : GoodIn wsX4_set (wsV RX4 94 RX4 yX4_add wsX4_add) := goodIn_app (goodIn_of _ (by decide +kernel)) ggX4_set_X4_add
theorem dX4_set_0 : decode cX4_set 0 = .ok (.iload_n 1, 1) := by decide +kernel
theorem dX4_set_1 : decode cX4_set 1 = .ok (.i2l, 1) := by decide +kernel
theorem dX4_set_2 : decode cX4_set 2 = .ok (.lconst 0, 1) := by decide +kernel
theorem dX4_set_3 : decode cX4_set 3 = .ok (.lconst 1, 1) := by decide +kernel
theorem dX4_set_4 : decode cX4_set 4 = .ok (.invokestatic 76, 3) := by decide +kernel
theorem dX4_set_7 : decode cX4_set 7 = .ok (.ifCond .eq 44, 3) := by decide +kernel
theorem dX4_set_10 : decode cX4_set 10 = .ok (.lload 4, 2) := by decide +kernel
theorem dX4_set_12 : decode cX4_set 12 = .ok (.lconst 0, 1) := by decide +kernel
theorem dX4_set_13 : decode cX4_set 13 = .ok (.ldc2_w 80, 3) := by decide +kernel
theorem dX4_set_16 : decode cX4_set 16 = .ok (.invokestatic 76, 3) := by decide +kernel
theorem dX4_set_19 : decode cX4_set 19 = .ok (.ifCond .eq 32, 3) := by decide +kernel
theorem dX4_set_22 : decode cX4_set 22 = .ok (.lload 6, 2) := by decide +kernel
theorem dX4_set_24 : decode cX4_set 24 = .ok (.lconst 0, 1) := by decide +kernel
theorem dX4_set_25 : decode cX4_set 25 = .ok (.ldc2_w 82, 3) := by decide +kernel
theorem dX4_set_28 : decode cX4_set 28 = .ok (.invokestatic 76, 3) := by decide +kernel
theorem dX4_set_31 : decode cX4_set 31 = .ok (.ifCond .eq 20, 3) := by decide +kernel
theorem dX4_set_34 : decode cX4_set 34 = .ok (.iload 8, 2) := by decide +kernel
theorem dX4_set_36 : decode cX4_set 36 = .ok (.i2l, 1) := by decide +kernel
theorem dX4_set_37 : decode cX4_set 37 = .ok (.lconst 0, 1) := by decide +kernel
theorem dX4_set_38 : decode cX4_set 38 = .ok (.ldc2_w 84, 3) := by decide +kernel
theorem dX4_set_41 : decode cX4_set 41 = .ok (.invokestatic 76, 3) := by decide +kernel
theorem dX4_set_44 : decode cX4_set 44 = .ok (.ifCond .eq 7, 3) := by decide +kernel
theorem dX4_set_47 : decode cX4_set 47 = .ok (.iconst 1, 1) := by decide +kernel
theorem dX4_set_48 : decode cX4_set 48 = .ok (.goto 4, 3) := by decide +kernel
theorem dX4_set_51 : decode cX4_set 51 = .ok (.iconst 0, 1) := by decide +kernel
theorem dX4_set_52 : decode cX4_set 52 = .ok (.istore 9, 2) := by decide +kernel
theorem dX4_set_54 : decode cX4_set 54 = .ok (.aload_n 0, 1) := by decide +kernel
theorem dX4_set_55 : decode cX4_set 55 = .ok (.iload 9, 2) := by decide +kernel
theorem dX4_set_57 : decode cX4_set 57 = .ok (.ifCond .ne 7, 3) := by decide +kernel
theorem dX4_set_60 : decode cX4_set 60 = .ok (.iconst 1, 1) := by decide +kernel
theorem dX4_set_61 : decode cX4_set 61 = .ok (.goto 18, 3) := by decide +kernel
theorem dX4_set_64 : decode cX4_set 64 = .ok (.aload_n 0, 1) := by decide +kernel
theorem dX4_set_65 : decode cX4_set 65 = .ok (.iconst 1, 1) := by decide +kernel
theorem dX4_set_66 : decode cX4_set 66 = .ok (.invokevirtual 86, 3) := by decide +kernel
theorem dX4_set_69 : decode cX4_set 69 = .ok (.bipush 40, 2) := by decide +kernel
theorem dX4_set_71 : decode cX4_set 71 = .ok (.if_icmp .ne 7, 3) := by decide +kernel
theorem dX4_set_74 : decode cX4_set 74 = .ok (.iconst 2, 1) := by decide +kernel
theorem dX4_set_75 : decode cX4_set 75 = .ok (.goto 4, 3) := by decide +kernel
theorem dX4_set_78 : decode cX4_set 78 = .ok (.iconst 0, 1) := by decide +kernel
theorem dX4_set_79 : decode cX4_set 79 = .ok (.invokevirtual 90, 3) := by decide +kernel
theorem dX4_set_82 : decode cX4_set 82 = .ok (.ifCond .ne 5, 3) := by decide +kernel
theorem dX4_set_85 : decode cX4_set 85 = .ok (.iconst 0, 1) := by decide +kernel
theorem dX4_set_86 : decode cX4_set 86 = .ok (.ireturn, 1) := by decide +kernel
theorem dX4_set_87 : decode cX4_set 87 = .ok (.aload_n 0, 1) := by decide +kernel
theorem dX4_set_88 : decode cX4_set 88 = .ok (.iconst 1, 1) := by decide +kernel
theorem dX4_set_89 : decode cX4_set 89 = .ok (.iload_n 1, 1) := by decide +kernel
theorem dX4_set_90 : decode cX4_set 90 = .ok (.aload_n 0, 1) := by decide +kernel
theorem dX4_set_91 : decode cX4_set 91 = .ok (.getfield 39, 3) := by decide +kernel
theorem dX4_set_94 : decode cX4_set 94 = .ok (.iconst 0, 1) := by decide +kernel
theorem dX4_set_95 : decode cX4_set 95 = .ok (.iaload, 1) := by decide +kernel
theorem dX4_set_96 : decode cX4_set 96 = .ok (.lload_n 2, 1) := by decide +kernel
theorem dX4_set_97 : decode cX4_set 97 = .ok (.lload 4, 2) := by decide +kernel
theorem dX4_set_99 : decode cX4_set 99 = .ok (.lload 6, 2) := by decide +kernel
theorem dX4_set_101 : decode cX4_set 101 = .ok (.iload 8, 2) := by decide +kernel
theorem dX4_set_103 : decode cX4_set 103 = .ok (.invokevirtual 94, 3) := by decide +kernel
theorem dX4_set_106 : decode cX4_set 106 = .ok (.aload_n 0, 1) := by decide +kernel
theorem dX4_set_107 : decode cX4_set 107 = .ok (.getfield 39, 3) := by decide +kernel
theorem dX4_set_110 : decode cX4_set 110 = .ok (.iconst 0, 1) := by decide +kernel
theorem dX4_set_111 : decode cX4_set 111 = .ok (.dup2, 1) := by decide +kernel
theorem dX4_set_112 : decode cX4_set 112 = .ok (.iaload, 1) := by decide +kernel
theorem dX4_set_113 : decode cX4_set 113 = .ok (.iconst 1, 1) := by decide +kernel
theorem dX4_set_114 : decode cX4_set 114 = .ok (.iadd, 1) := by decide +kernel
theorem dX4_set_115 : decode cX4_set 115 = .ok (.iastore, 1) := by decide +kernel
theorem dX4_set_116 : decode cX4_set 116 = .ok (.aload_n 0, 1) := by decide +kernel
theorem dX4_set_117 : decode cX4_set 117 = .ok (.getfield 39, 3) := by decide +kernel
theorem dX4_set_120 : decode cX4_set 120 = .ok (.iconst 0, 1) := by decide +kernel
theorem dX4_set_121 : decode cX4_set 121 = .ok (.iaload, 1) := by decide +kernel
theorem dX4_set_122 : decode cX4_set 122 = .ok (.iconst 1, 1) := by decide +kernel
theorem dX4_set_123 : decode cX4_set 123 = .ok (.isub, 1) := by decide +kernel
theorem dX4_set_124 : decode cX4_set 124 = .ok (.ireturn, 1) := by decide +kernel
set_option maxRecDepth 20000 in
theorem ggX4_move_X4_find : GoodIn wsX4_move wsX4_find := goodIn_r _ [7, 8, 9, 10, 19, 20, 21, 22, 23, 24, 25, 26, 27, 28, 29, 30, 31, 32, 33, 34, 35, 36] (by decide +kernel) (by decide +kernel)
set_option maxRecDepth 20000 in
theorem gX4_move_X4_find : GoodIn wsX4_move (wsV RX4 98 RX4 yX4_find wsX4_find) := goodIn_app (goodIn_of _ (by decide +kernel)) ggX4_move_X4_find
set_option maxRecDepth 20000 in
theorem ggX4_move_X4_isIn : GoodIn wsX4_move wsX4_isIn := goodIn_r _ [13] (by decide +kernel) (by decide +kernel)
set_option maxRecDepth 20000 in
theorem gX4_move_X4_isIn : GoodIn wsX4_move (va_wsS RX4 76 yX4_isIn wsX4_isIn) := goodIn_app (goodIn_of _ (by decide +kernel)) ggX4_move_X4_isIn
set_option maxRecDepth 20000 in
theorem ggX4_move_X4_isGood : GoodIn wsX4_move wsX4_isGood := goodIn_r _ [17, 18, 19, 20, 21, 22, 23, 24, 25, 26, 27, 28, 29, 30, 31, 32, 33, 34, 35, 36] (by decide +kernel) (by decide +kernel)
set_option maxRecDepth 20000 in
theorem gX4_move_X4_isGood : GoodIn wsX4_move (wsV RX4 90 RX4 yX4_isGood wsX4_isGood) := goodIn_app (goodIn_of _ (by decide +kernel)) ggX4_move_X4_isGood
theorem dX4_move_0 : decode cX4_move 0 = .ok (.aload_n 0, 1) := by decide +kernel
theorem dX4_move_1 : decode cX4_move 1 = .ok (.iload_n 1, 1) := by decide +kernel
theorem dX4_move_2 : decode cX4_move 2 = .ok (.invokevirtual 98, 3) := by decide +kernel
theorem dX4_move_5 : decode cX4_move 5 = .ok (.istore 4, 2) := by decide +kernel
theorem dX4_move_7 : decode cX4_move 7 = .ok (.aload_n 0, 1) := by decide +kernel
theorem dX4_move_8 : decode cX4_move 8 = .ok (.lload_n 2, 1) := by decide +kernel
theorem dX4_move_9 : decode cX4_move 9 = .ok (.lconst 0, 1) := by decide +kernel
theorem dX4_move_10 : decode cX4_move 10 = .ok (.ldc2_w 80, 3) := by decide +kernel
theorem dX4_move_13 : decode cX4_move 13 = .ok (.invokestatic 76, 3) := by decide +kernel
theorem dX4_move_16 : decode cX4_move 16 = .ok (.ifCond .ne 7, 3) := by decide +kernel
theorem dX4_move_19 : decode cX4_move 19 = .ok (.iconst 1, 1) := by decide +kernel
theorem dX4_move_20 : decode cX4_move 20 = .ok (.goto 13, 3) := by decide +kernel
theorem dX4_move_23 : decode cX4_move 23 = .ok (.iload 4, 2) := by decide +kernel
theorem dX4_move_25 : decode cX4_move 25 = .ok (.ifCond .ge 7, 3) := by decide +kernel
theorem dX4_move_28 : decode cX4_move 28 = .ok (.iconst 2, 1) := by decide +kernel
theorem dX4_move_29 : decode cX4_move 29 = .ok (.goto 4, 3) := by decide +kernel
theorem dX4_move_32 : decode cX4_move 32 = .ok (.iconst 0, 1) := by decide +kernel
theorem dX4_move_33 : decode cX4_move 33 = .ok (.invokevirtual 90, 3) := by decide +kernel
theorem dX4_move_36 : decode cX4_move 36 = .ok (.ifCond .ne 5, 3) := by decide +kernel
theorem dX4_move_39 : decode cX4_move 39 = .ok (.lconst 0, 1) := by decide +kernel
theorem dX4_move_40 : decode cX4_move 40 = .ok (.lreturn, 1) := by decide +kernel
theorem dX4_move_41 : decode cX4_move 41 = .ok (.aload_n 0, 1) := by decide +kernel
theorem dX4_move_42 : decode cX4_move 42 = .ok (.getfield 27, 3) := by decide +kernel
theorem dX4_move_45 : decode cX4_move 45 = .ok (.iload 4, 2) := by decide +kernel
theorem dX4_move_47 : decode cX4_move 47 = .ok (.laload, 1) := by decide +kernel
theorem dX4_move_48 : decode cX4_move 48 = .ok (.lstore 5, 2) := by decide +kernel
theorem dX4_move_50 : decode cX4_move 50 = .ok (.aload_n 0, 1) := by decide +kernel
theorem dX4_move_51 : decode cX4_move 51 = .ok (.getfield 27, 3) := by decide +kernel
theorem dX4_move_54 : decode cX4_move 54 = .ok (.iload 4, 2) := by decide +kernel
theorem dX4_move_56 : decode cX4_move 56 = .ok (.lload_n 2, 1) := by decide +kernel
theorem dX4_move_57 : decode cX4_move 57 = .ok (.lastore, 1) := by decide +kernel
theorem dX4_move_58 : decode cX4_move 58 = .ok (.lload 5, 2) := by decide +kernel
theorem dX4_move_60 : decode cX4_move 60 = .ok (.lreturn, 1) := by decide +kernel
set_option maxRecDepth 20000 in
theorem ggX4_cancel_X4_find : GoodIn wsX4_cancel wsX4_find := goodIn_r _ [6, 7, 8, 9, 23, 24, 25, 26, 27, 28, 29, 30, 31, 32, 33, 34, 35, 36, 37, 38, 39, 40] (by decide +kernel) (by decide +kernel)
set_option maxRecDepth 20000 in
theorem gX4_cancel_X4_find : GoodIn wsX4_cancel (wsV RX4 98 RX4 yX4_find wsX4_find) := goodIn_app (goodIn_of _ (by decide +kernel)) ggX4_cancel_X4_find
set_option maxRecDepth 20000 in
theorem ggX4_cancel_X4_take : GoodIn wsX4_cancel wsX4_take := goodIn_r _ [13, 7, 14, 15, 16, 5, 17, 8, 18, 9, 19, 20, 21, 22, 23, 24, 25, 26, 27, 28, 29, 30, 31, 32, 33, 34, 35, 36, 37, 38, 39, 40] (by decide +kernel) (by decide +kernel)
set_option maxRecDepth 20000 in
theorem gX4_cancel_X4_take : GoodIn wsX4_cancel (wsV RX4 102 RX4 yX4_take wsX4_take) := goodIn_app (goodIn_of _ (by decide +kernel)) ggX4_cancel_X4_take
theorem dX4_cancel_0 : decode cX4_cancel 0 = .ok (.aload_n 0, 1) := by decide +kernel
theorem dX4_cancel_1 : decode cX4_cancel 1 = .ok (.iconst 0, 1) := by decide +kernel
theorem dX4_cancel_2 : decode cX4_cancel 2 = .ok (.putfield 60, 3) := by decide +kernel
theorem dX4_cancel_5 : decode cX4_cancel 5 = .ok (.aload_n 0, 1) := by decide +kernel
theorem dX4_cancel_6 : decode cX4_cancel 6 = .ok (.iload_n 1, 1) := by decide +kernel
theorem dX4_cancel_7 : decode cX4_cancel 7 = .ok (.invokevirtual 98, 3) := by decide +kernel
theorem dX4_cancel_10 : decode cX4_cancel 10 = .ok (.istore_n 2, 1) := by decide +kernel
theorem dX4_cancel_11 : decode cX4_cancel 11 = .ok (.iload_n 2, 1) := by decide +kernel
theorem dX4_cancel_12 : decode cX4_cancel 12 = .ok (.ifCond .lt 8, 3) := by decide +kernel
theorem dX4_cancel_15 : decode cX4_cancel 15 = .ok (.aload_n 0, 1) := by decide +kernel
theorem dX4_cancel_16 : decode cX4_cancel 16 = .ok (.iload_n 2, 1) := by decide +kernel
theorem dX4_cancel_17 : decode cX4_cancel 17 = .ok (.invokevirtual 102, 3) := by decide +kernel
theorem dX4_cancel_20 : decode cX4_cancel 20 = .ok (.iload_n 2, 1) := by decide +kernel
theorem dX4_cancel_21 : decode cX4_cancel 21 = .ok (.ifCond .lt 7, 3) := by decide +kernel
theorem dX4_cancel_24 : decode cX4_cancel 24 = .ok (.iconst 1, 1) := by decide +kernel
theorem dX4_cancel_25 : decode cX4_cancel 25 = .ok (.goto 4, 3) := by decide +kernel
theorem dX4_cancel_28 : decode cX4_cancel 28 = .ok (.iconst 0, 1) := by decide +kernel
theorem dX4_cancel_29 : decode cX4_cancel 29 = .ok (.ireturn, 1) := by decide +kernel
set_option maxRecDepth 20000 in
theorem ggX4_row_X4_isIn : GoodIn wsX4_row wsX4_isIn := goodIn_r _ [7] (by decide +kernel) (by decide +kernel)
set_option maxRecDepth 20000 in
theorem gX4_row_X4_isIn : GoodIn wsX4_row (va_wsS RX4 76 yX4_isIn wsX4_isIn) := goodIn_app (goodIn_of _ (by decide +kernel)) ggX4_row_X4_isIn
set_option maxRecDepth 20000 in
theorem ggX4_row_X4_isGood : GoodIn wsX4_row wsX4_isGood := goodIn_r _ [11, 12, 29, 30, 31, 32, 33, 34, 35, 36, 37, 38, 39, 40, 41, 42, 43, 44, 45, 46] (by decide +kernel) (by decide +kernel)
set_option maxRecDepth 20000 in
theorem gX4_row_X4_isGood : GoodIn wsX4_row (wsV RX4 90 RX4 yX4_isGood wsX4_isGood) := goodIn_app (goodIn_of _ (by decide +kernel)) ggX4_row_X4_isGood
set_option maxRecDepth 20000 in
theorem ggX4_row_X4_many : GoodIn wsX4_row wsX4_many := goodIn_r _ [16, 17, 18, 29, 30, 31, 32, 33, 34, 35, 36, 37, 38, 39, 40, 41, 42, 43, 44, 45, 46] (by decide +kernel) (by decide +kernel)
set_option maxRecDepth 20000 in
theorem gX4_row_X4_many : GoodIn wsX4_row (wsV RX4 86 RX4 yX4_many wsX4_many) := goodIn_app (goodIn_of _ (by decide +kernel)) ggX4_row_X4_many
set_option maxRecDepth 20000 in
theorem ggX4_row_X4_add : GoodIn wsX4_row wsX4_add := goodIn_r _ [22, 17, 18, 23, 24, 25, 26, 27, 28, 29, 30, 31, 32, 33, 34, 35, 36, 37, 38, 39, 40, 41, 42, 43, 44, 45, 46] (by decide +kernel) (by decide +kernel)
set_option maxRecDepth 20000 in
theorem gX4_row_X4_add : GoodIn wsX4_row (wsV RX4 94 RX4 yX4_add wsX4_add) := goodIn_app (goodIn_of _ (by decide +kernel)) ggX4_row_X4_add
theorem dX4_row_0 : decode cX4_row 0 = .ok (.aload_n 0, 1) := by decide +kernel
theorem dX4_row_1 : decode cX4_row 1 = .ok (.lload_n 3, 1) := by decide +kernel
theorem dX4_row_2 : decode cX4_row 2 = .ok (.lconst 0, 1) := by decide +kernel
theorem dX4_row_3 : decode cX4_row 3 = .ok (.ldc2_w 80, 3) := by decide +kernel
theorem dX4_row_6 : decode cX4_row 6 = .ok (.invokestatic 76, 3) := by decide +kernel
theorem dX4_row_9 : decode cX4_row 9 = .ok (.ifCond .eq 7, 3) := by decide +kernel
theorem dX4_row_12 : decode cX4_row 12 = .ok (.iconst 0, 1) := by decide +kernel
theorem dX4_row_13 : decode cX4_row 13 = .ok (.goto 4, 3) := by decide +kernel
theorem dX4_row_16 : decode cX4_row 16 = .ok (.iconst 1, 1) := by decide +kernel
theorem dX4_row_17 : decode cX4_row 17 = .ok (.invokevirtual 90, 3) := by decide +kernel
theorem dX4_row_20 : decode cX4_row 20 = .ok (.ifCond .ne 5, 3) := by decide +kernel
theorem dX4_row_23 : decode cX4_row 23 = .ok (.iconst 0, 1) := by decide +kernel
theorem dX4_row_24 : decode cX4_row 24 = .ok (.ireturn, 1) := by decide +kernel
theorem dX4_row_25 : decode cX4_row 25 = .ok (.lload_n 3, 1) := by decide +kernel
theorem dX4_row_26 : decode cX4_row 26 = .ok (.aload_n 0, 1) := by decide +kernel
theorem dX4_row_27 : decode cX4_row 27 = .ok (.getfield 36, 3) := by decide +kernel
theorem dX4_row_30 : decode cX4_row 30 = .ok (.iconst 0, 1) := by decide +kernel
theorem dX4_row_31 : decode cX4_row 31 = .ok (.laload, 1) := by decide +kernel
theorem dX4_row_32 : decode cX4_row 32 = .ok (.lcmp, 1) := by decide +kernel
theorem dX4_row_33 : decode cX4_row 33 = .ok (.ifCond .gt 15, 3) := by decide +kernel
theorem dX4_row_36 : decode cX4_row 36 = .ok (.aload_n 0, 1) := by decide +kernel
theorem dX4_row_37 : decode cX4_row 37 = .ok (.getfield 39, 3) := by decide +kernel
theorem dX4_row_40 : decode cX4_row 40 = .ok (.iconst 2, 1) := by decide +kernel
theorem dX4_row_41 : decode cX4_row 41 = .ok (.dup2, 1) := by decide +kernel
theorem dX4_row_42 : decode cX4_row 42 = .ok (.iaload, 1) := by decide +kernel
theorem dX4_row_43 : decode cX4_row 43 = .ok (.iconst 1, 1) := by decide +kernel
theorem dX4_row_44 : decode cX4_row 44 = .ok (.iadd, 1) := by decide +kernel
theorem dX4_row_45 : decode cX4_row 45 = .ok (.iastore, 1) := by decide +kernel
theorem dX4_row_46 : decode cX4_row 46 = .ok (.iconst (-1), 1) := by decide +kernel
theorem dX4_row_47 : decode cX4_row 47 = .ok (.ireturn, 1) := by decide +kernel
theorem dX4_row_48 : decode cX4_row 48 = .ok (.aload_n 0, 1) := by decide +kernel
theorem dX4_row_49 : decode cX4_row 49 = .ok (.aload_n 0, 1) := by decide +kernel
theorem dX4_row_50 : decode cX4_row 50 = .ok (.iconst 0, 1) := by decide +kernel
theorem dX4_row_51 : decode cX4_row 51 = .ok (.invokevirtual 86, 3) := by decide +kernel
theorem dX4_row_54 : decode cX4_row 54 = .ok (.bipush 40, 2) := by decide +kernel
theorem dX4_row_56 : decode cX4_row 56 = .ok (.if_icmp .ne 7, 3) := by decide +kernel
theorem dX4_row_59 : decode cX4_row 59 = .ok (.iconst 2, 1) := by decide +kernel
theorem dX4_row_60 : decode cX4_row 60 = .ok (.goto 4, 3) := by decide +kernel
theorem dX4_row_63 : decode cX4_row 63 = .ok (.iconst 0, 1) := by decide +kernel
theorem dX4_row_64 : decode cX4_row 64 = .ok (.invokevirtual 90, 3) := by decide +kernel
theorem dX4_row_67 : decode cX4_row 67 = .ok (.ifCond .ne 5, 3) := by decide +kernel
theorem dX4_row_70 : decode cX4_row 70 = .ok (.iconst 0, 1) := by decide +kernel
theorem dX4_row_71 : decode cX4_row 71 = .ok (.ireturn, 1) := by decide +kernel
theorem dX4_row_72 : decode cX4_row 72 = .ok (.aload_n 0, 1) := by decide +kernel
theorem dX4_row_73 : decode cX4_row 73 = .ok (.iconst 0, 1) := by decide +kernel
theorem dX4_row_74 : decode cX4_row 74 = .ok (.iconst 0, 1) := by decide +kernel
theorem dX4_row_75 : decode cX4_row 75 = .ok (.aload_n 0, 1) := by decide +kernel
theorem dX4_row_76 : decode cX4_row 76 = .ok (.getfield 39, 3) := by decide +kernel
theorem dX4_row_79 : decode cX4_row 79 = .ok (.iconst 1, 1) := by decide +kernel
theorem dX4_row_80 : decode cX4_row 80 = .ok (.iaload, 1) := by decide +kernel
theorem dX4_row_81 : decode cX4_row 81 = .ok (.lload_n 1, 1) := by decide +kernel
theorem dX4_row_82 : decode cX4_row 82 = .ok (.lload_n 3, 1) := by decide +kernel
theorem dX4_row_83 : decode cX4_row 83 = .ok (.lconst 0, 1) := by decide +kernel
theorem dX4_row_84 : decode cX4_row 84 = .ok (.iconst 0, 1) := by decide +kernel
theorem dX4_row_85 : decode cX4_row 85 = .ok (.invokevirtual 94, 3) := by decide +kernel
theorem dX4_row_88 : decode cX4_row 88 = .ok (.aload_n 0, 1) := by decide +kernel
theorem dX4_row_89 : decode cX4_row 89 = .ok (.getfield 39, 3) := by decide +kernel
theorem dX4_row_92 : decode cX4_row 92 = .ok (.iconst 1, 1) := by decide +kernel
theorem dX4_row_93 : decode cX4_row 93 = .ok (.dup2, 1) := by decide +kernel
theorem dX4_row_94 : decode cX4_row 94 = .ok (.iaload, 1) := by decide +kernel
theorem dX4_row_95 : decode cX4_row 95 = .ok (.iconst 1, 1) := by decide +kernel
theorem dX4_row_96 : decode cX4_row 96 = .ok (.iadd, 1) := by decide +kernel
theorem dX4_row_97 : decode cX4_row 97 = .ok (.iastore, 1) := by decide +kernel
theorem dX4_row_98 : decode cX4_row 98 = .ok (.aload_n 0, 1) := by decide +kernel
theorem dX4_row_99 : decode cX4_row 99 = .ok (.getfield 39, 3) := by decide +kernel
theorem dX4_row_102 : decode cX4_row 102 = .ok (.iconst 1, 1) := by decide +kernel
theorem dX4_row_103 : decode cX4_row 103 = .ok (.iaload, 1) := by decide +kernel
theorem dX4_row_104 : decode cX4_row 104 = .ok (.iconst 1, 1) := by decide +kernel
theorem dX4_row_105 : decode cX4_row 105 = .ok (.isub, 1) := by decide +kernel
theorem dX4_row_106 : decode cX4_row 106 = .ok (.ireturn, 1) := by decide +kernel
theorem dX4_first_0 : decode cX4_first 0 = .ok (.aload_n 0, 1) := by decide +kernel
theorem dX4_first_1 : decode cX4_first 1 = .ok (.iconst 0, 1) := by decide +kernel
theorem dX4_first_2 : decode cX4_first 2 = .ok (.putfield 60, 3) := by decide +kernel
theorem dX4_first_5 : decode cX4_first 5 = .ok (.aload_n 0, 1) := by decide +kernel
theorem dX4_first_6 : decode cX4_first 6 = .ok (.getfield 39, 3) := by decide +kernel
theorem dX4_first_9 : decode cX4_first 9 = .ok (.iconst 3, 1) := by decide +kernel
theorem dX4_first_10 : decode cX4_first 10 = .ok (.iaload, 1) := by decide +kernel
theorem dX4_first_11 : decode cX4_first 11 = .ok (.iconst 1, 1) := by decide +kernel
theorem dX4_first_12 : decode cX4_first 12 = .ok (.if_icmp .ne 7, 3) := by decide +kernel
theorem dX4_first_15 : decode cX4_first 15 = .ok (.iconst 1, 1) := by decide +kernel
theorem dX4_first_16 : decode cX4_first 16 = .ok (.goto 4, 3) := by decide +kernel
theorem dX4_first_19 : decode cX4_first 19 = .ok (.iconst 0, 1) := by decide +kernel
theorem dX4_first_20 : decode cX4_first 20 = .ok (.istore_n 2, 1) := by decide +kernel
theorem dX4_first_21 : decode cX4_first 21 = .ok (.aload_n 0, 1) := by decide +kernel
theorem dX4_first_22 : decode cX4_first 22 = .ok (.getfield 39, 3) := by decide +kernel
theorem dX4_first_25 : decode cX4_first 25 = .ok (.iconst 3, 1) := by decide +kernel
theorem dX4_first_26 : decode cX4_first 26 = .ok (.iload_n 1, 1) := by decide +kernel
theorem dX4_first_27 : decode cX4_first 27 = .ok (.ifCond .eq 7, 3) := by decide +kernel
theorem dX4_first_30 : decode cX4_first 30 = .ok (.iconst 1, 1) := by decide +kernel
theorem dX4_first_31 : decode cX4_first 31 = .ok (.goto 4, 3) := by decide +kernel
theorem dX4_first_34 : decode cX4_first 34 = .ok (.iconst 0, 1) := by decide +kernel
theorem dX4_first_35 : decode cX4_first 35 = .ok (.iastore, 1) := by decide +kernel
theorem dX4_first_36 : decode cX4_first 36 = .ok (.iload_n 2, 1) := by decide +kernel
theorem dX4_first_37 : decode cX4_first 37 = .ok (.ireturn, 1) := by decide +kernel
theorem dX4_isAhead_0 : decode cX4_isAhead 0 = .ok (.aload_n 0, 1) := by decide +kernel
theorem dX4_isAhead_1 : decode cX4_isAhead 1 = .ok (.getfield 27, 3) := by decide +kernel
theorem dX4_isAhead_4 : decode cX4_isAhead 4 = .ok (.iload_n 1, 1) := by decide +kernel
theorem dX4_isAhead_5 : decode cX4_isAhead 5 = .ok (.laload, 1) := by decide +kernel
theorem dX4_isAhead_6 : decode cX4_isAhead 6 = .ok (.aload_n 0, 1) := by decide +kernel
theorem dX4_isAhead_7 : decode cX4_isAhead 7 = .ok (.getfield 27, 3) := by decide +kernel
theorem dX4_isAhead_10 : decode cX4_isAhead 10 = .ok (.iload_n 2, 1) := by decide +kernel
theorem dX4_isAhead_11 : decode cX4_isAhead 11 = .ok (.laload, 1) := by decide +kernel
theorem dX4_isAhead_12 : decode cX4_isAhead 12 = .ok (.lcmp, 1) := by decide +kernel
theorem dX4_isAhead_13 : decode cX4_isAhead 13 = .ok (.ifCond .eq 25, 3) := by decide +kernel
theorem dX4_isAhead_16 : decode cX4_isAhead 16 = .ok (.aload_n 0, 1) := by decide +kernel
theorem dX4_isAhead_17 : decode cX4_isAhead 17 = .ok (.getfield 27, 3) := by decide +kernel
theorem dX4_isAhead_20 : decode cX4_isAhead 20 = .ok (.iload_n 1, 1) := by decide +kernel
theorem dX4_isAhead_21 : decode cX4_isAhead 21 = .ok (.laload, 1) := by decide +kernel
theorem dX4_isAhead_22 : decode cX4_isAhead 22 = .ok (.aload_n 0, 1) := by decide +kernel
theorem dX4_isAhead_23 : decode cX4_isAhead 23 = .ok (.getfield 27, 3) := by decide +kernel
theorem dX4_isAhead_26 : decode cX4_isAhead 26 = .ok (.iload_n 2, 1) := by decide +kernel
theorem dX4_isAhead_27 : decode cX4_isAhead 27 = .ok (.laload, 1) := by decide +kernel
theorem dX4_isAhead_28 : decode cX4_isAhead 28 = .ok (.lcmp, 1) := by decide +kernel
theorem dX4_isAhead_29 : decode cX4_isAhead 29 = .ok (.ifCond .ge 7, 3) := by decide +kernel
theorem dX4_isAhead_32 : decode cX4_isAhead 32 = .ok (.iconst 1, 1) := by decide +kernel
theorem dX4_isAhead_33 : decode cX4_isAhead 33 = .ok (.goto 4, 3) := by decide +kernel
theorem dX4_isAhead_36 : decode cX4_isAhead 36 = .ok (.iconst 0, 1) := by decide +kernel
theorem dX4_isAhead_37 : decode cX4_isAhead 37 = .ok (.ireturn, 1) := by decide +kernel
theorem dX4_isAhead_38 : decode cX4_isAhead 38 = .ok (.aload_n 0, 1) := by decide +kernel
theorem dX4_isAhead_39 : decode cX4_isAhead 39 = .ok (.getfield 13, 3) := by decide +kernel
theorem dX4_isAhead_42 : decode cX4_isAhead 42 = .ok (.iload_n 1, 1) := by decide +kernel
theorem dX4_isAhead_43 : decode cX4_isAhead 43 = .ok (.baload, 1) := by decide +kernel
theorem dX4_isAhead_44 : decode cX4_isAhead 44 = .ok (.aload_n 0, 1) := by decide +kernel
theorem dX4_isAhead_45 : decode cX4_isAhead 45 = .ok (.getfield 13, 3) := by decide +kernel
theorem dX4_isAhead_48 : decode cX4_isAhead 48 = .ok (.iload_n 2, 1) := by decide +kernel
theorem dX4_isAhead_49 : decode cX4_isAhead 49 = .ok (.baload, 1) := by decide +kernel
theorem dX4_isAhead_50 : decode cX4_isAhead 50 = .ok (.if_icmp .eq 33, 3) := by decide +kernel
theorem dX4_isAhead_53 : decode cX4_isAhead 53 = .ok (.aload_n 0, 1) := by decide +kernel
theorem dX4_isAhead_54 : decode cX4_isAhead 54 = .ok (.getfield 13, 3) := by decide +kernel
theorem dX4_isAhead_57 : decode cX4_isAhead 57 = .ok (.iload_n 1, 1) := by decide +kernel
theorem dX4_isAhead_58 : decode cX4_isAhead 58 = .ok (.baload, 1) := by decide +kernel
theorem dX4_isAhead_59 : decode cX4_isAhead 59 = .ok (.aload_n 0, 1) := by decide +kernel
theorem dX4_isAhead_60 : decode cX4_isAhead 60 = .ok (.getfield 39, 3) := by decide +kernel
theorem dX4_isAhead_63 : decode cX4_isAhead 63 = .ok (.iconst 3, 1) := by decide +kernel
theorem dX4_isAhead_64 : decode cX4_isAhead 64 = .ok (.iaload, 1) := by decide +kernel
theorem dX4_isAhead_65 : decode cX4_isAhead 65 = .ok (.iconst 1, 1) := by decide +kernel
theorem dX4_isAhead_66 : decode cX4_isAhead 66 = .ok (.if_icmp .ne 7, 3) := by decide +kernel
theorem dX4_isAhead_69 : decode cX4_isAhead 69 = .ok (.iconst 1, 1) := by decide +kernel
theorem dX4_isAhead_70 : decode cX4_isAhead 70 = .ok (.goto 4, 3) := by decide +kernel
theorem dX4_isAhead_73 : decode cX4_isAhead 73 = .ok (.iconst 0, 1) := by decide +kernel
theorem dX4_isAhead_74 : decode cX4_isAhead 74 = .ok (.if_icmp .eq 7, 3) := by decide +kernel
theorem dX4_isAhead_77 : decode cX4_isAhead 77 = .ok (.iconst 1, 1) := by decide +kernel
theorem dX4_isAhead_78 : decode cX4_isAhead 78 = .ok (.goto 4, 3) := by decide +kernel
theorem dX4_isAhead_81 : decode cX4_isAhead 81 = .ok (.iconst 0, 1) := by decide +kernel
theorem dX4_isAhead_82 : decode cX4_isAhead 82 = .ok (.ireturn, 1) := by decide +kernel
theorem dX4_isAhead_83 : decode cX4_isAhead 83 = .ok (.aload_n 0, 1) := by decide +kernel
theorem dX4_isAhead_84 : decode cX4_isAhead 84 = .ok (.getfield 23, 3) := by decide +kernel
theorem dX4_isAhead_87 : decode cX4_isAhead 87 = .ok (.iload_n 1, 1) := by decide +kernel
theorem dX4_isAhead_88 : decode cX4_isAhead 88 = .ok (.laload, 1) := by decide +kernel
theorem dX4_isAhead_89 : decode cX4_isAhead 89 = .ok (.aload_n 0, 1) := by decide +kernel
theorem dX4_isAhead_90 : decode cX4_isAhead 90 = .ok (.getfield 23, 3) := by decide +kernel
theorem dX4_isAhead_93 : decode cX4_isAhead 93 = .ok (.iload_n 2, 1) := by decide +kernel
theorem dX4_isAhead_94 : decode cX4_isAhead 94 = .ok (.laload, 1) := by decide +kernel
theorem dX4_isAhead_95 : decode cX4_isAhead 95 = .ok (.lcmp, 1) := by decide +kernel
theorem dX4_isAhead_96 : decode cX4_isAhead 96 = .ok (.ifCond .eq 27, 3) := by decide +kernel
theorem dX4_isAhead_99 : decode cX4_isAhead 99 = .ok (.aload_n 0, 1) := by decide +kernel
theorem dX4_isAhead_100 : decode cX4_isAhead 100 = .ok (.getfield 23, 3) := by decide +kernel
theorem dX4_isAhead_103 : decode cX4_isAhead 103 = .ok (.iload_n 1, 1) := by decide +kernel
theorem dX4_isAhead_104 : decode cX4_isAhead 104 = .ok (.laload, 1) := by decide +kernel
theorem dX4_isAhead_105 : decode cX4_isAhead 105 = .ok (.aload_n 0, 1) := by decide +kernel
theorem dX4_isAhead_106 : decode cX4_isAhead 106 = .ok (.getfield 23, 3) := by decide +kernel
theorem dX4_isAhead_109 : decode cX4_isAhead 109 = .ok (.iload_n 2, 1) := by decide +kernel
theorem dX4_isAhead_110 : decode cX4_isAhead 110 = .ok (.laload, 1) := by decide +kernel
theorem dX4_isAhead_111 : decode cX4_isAhead 111 = .ok (.lcmp, 1) := by decide +kernel
theorem dX4_isAhead_112 : decode cX4_isAhead 112 = .ok (.ifCond .ge 7, 3) := by decide +kernel
theorem dX4_isAhead_115 : decode cX4_isAhead 115 = .ok (.iconst 1, 1) := by decide +kernel
theorem dX4_isAhead_116 : decode cX4_isAhead 116 = .ok (.goto 27, 3) := by decide +kernel
theorem dX4_isAhead_119 : decode cX4_isAhead 119 = .ok (.iconst 0, 1) := by decide +kernel
theorem dX4_isAhead_120 : decode cX4_isAhead 120 = .ok (.goto 23, 3) := by decide +kernel
theorem dX4_isAhead_123 : decode cX4_isAhead 123 = .ok (.aload_n 0, 1) := by decide +kernel
theorem dX4_isAhead_124 : decode cX4_isAhead 124 = .ok (.getfield 20, 3) := by decide +kernel
theorem dX4_isAhead_127 : decode cX4_isAhead 127 = .ok (.iload_n 1, 1) := by decide +kernel
theorem dX4_isAhead_128 : decode cX4_isAhead 128 = .ok (.iaload, 1) := by decide +kernel
theorem dX4_isAhead_129 : decode cX4_isAhead 129 = .ok (.aload_n 0, 1) := by decide +kernel
theorem dX4_isAhead_130 : decode cX4_isAhead 130 = .ok (.getfield 20, 3) := by decide +kernel
theorem dX4_isAhead_133 : decode cX4_isAhead 133 = .ok (.iload_n 2, 1) := by decide +kernel
theorem dX4_isAhead_134 : decode cX4_isAhead 134 = .ok (.iaload, 1) := by decide +kernel
theorem dX4_isAhead_135 : decode cX4_isAhead 135 = .ok (.if_icmp .ge 7, 3) := by decide +kernel
theorem dX4_isAhead_138 : decode cX4_isAhead 138 = .ok (.iconst 1, 1) := by decide +kernel
theorem dX4_isAhead_139 : decode cX4_isAhead 139 = .ok (.goto 4, 3) := by decide +kernel
theorem dX4_isAhead_142 : decode cX4_isAhead 142 = .ok (.iconst 0, 1) := by decide +kernel
theorem dX4_isAhead_143 : decode cX4_isAhead 143 = .ok (.ireturn, 1) := by decide +kernel
set_option maxRecDepth 20000 in
theorem ggX4_leastOf_X4_isAhead : GoodIn wsX4_leastOf wsX4_isAhead := goodIn_r _ [9, 3, 4, 10, 11, 12, 13, 14, 15, 16, 17, 18, 19, 20, 21, 22, 23, 24, 25, 26, 27, 28, 29, 30] (by decide +kernel) (by decide +kernel)
set_option maxRecDepth 20000 in
theorem gX4_leastOf_X4_isAhead : GoodIn wsX4_leastOf (wsV RX4 106 RX4 yX4_isAhead wsX4_isAhead) := goodIn_app (goodIn_of _ (by decide +kernel)) ggX4_leastOf_X4_isAhead
theorem dX4_leastOf_0 : decode cX4_leastOf 0 = .ok (.iconst (-1), 1) := by decide +kernel
theorem dX4_leastOf_1 : decode cX4_leastOf 1 = .ok (.istore 5, 2) := by decide +kernel
theorem dX4_leastOf_3 : decode cX4_leastOf 3 = .ok (.iconst 0, 1) := by decide +kernel
end
section
theorem dX4_leastOf_4 : decode cX4_leastOf 4 = .ok (.istore 6, 2) := by decide +kernel
theorem dX4_leastOf_6 : decode cX4_leastOf 6 = .ok (.iload 6, 2) := by decide +kernel
theorem dX4_leastOf_8 : decode cX4_leastOf 8 = .ok (.aload_n 0, 1) := by decide +kernel
theorem dX4_leastOf_9 : decode cX4_leastOf 9 = .ok (.getfield 7, 3) := by decide +kernel
theorem dX4_leastOf_12 : decode cX4_leastOf 12 = .ok (.iconst 0, 1) := by decide +kernel
theorem dX4_leastOf_13 : decode cX4_leastOf 13 = .ok (.iaload, 1) := by decide +kernel
theorem dX4_leastOf_14 : decode cX4_leastOf 14 = .ok (.if_icmp .ge 83, 3) := by decide +kernel
theorem dX4_leastOf_17 : decode cX4_leastOf 17 = .ok (.aload_n 0, 1) := by decide +kernel
theorem dX4_leastOf_18 : decode cX4_leastOf 18 = .ok (.getfield 17, 3) := by decide +kernel
theorem dX4_leastOf_21 : decode cX4_leastOf 21 = .ok (.iload 6, 2) := by decide +kernel
theorem dX4_leastOf_23 : decode cX4_leastOf 23 = .ok (.iaload, 1) := by decide +kernel
theorem dX4_leastOf_24 : decode cX4_leastOf 24 = .ok (.iload_n 1, 1) := by decide +kernel
theorem dX4_leastOf_25 : decode cX4_leastOf 25 = .ok (.if_icmp .ne 33, 3) := by decide +kernel
theorem dX4_leastOf_28 : decode cX4_leastOf 28 = .ok (.aload_n 0, 1) := by decide +kernel
theorem dX4_leastOf_29 : decode cX4_leastOf 29 = .ok (.getfield 27, 3) := by decide +kernel
theorem dX4_leastOf_32 : decode cX4_leastOf 32 = .ok (.iload 6, 2) := by decide +kernel
theorem dX4_leastOf_34 : decode cX4_leastOf 34 = .ok (.laload, 1) := by decide +kernel
theorem dX4_leastOf_35 : decode cX4_leastOf 35 = .ok (.lload_n 3, 1) := by decide +kernel
theorem dX4_leastOf_36 : decode cX4_leastOf 36 = .ok (.lcmp, 1) := by decide +kernel
theorem dX4_leastOf_37 : decode cX4_leastOf 37 = .ok (.ifCond .gt 21, 3) := by decide +kernel
theorem dX4_leastOf_40 : decode cX4_leastOf 40 = .ok (.aload_n 0, 1) := by decide +kernel
theorem dX4_leastOf_41 : decode cX4_leastOf 41 = .ok (.getfield 13, 3) := by decide +kernel
theorem dX4_leastOf_44 : decode cX4_leastOf 44 = .ok (.iload 6, 2) := by decide +kernel
theorem dX4_leastOf_46 : decode cX4_leastOf 46 = .ok (.baload, 1) := by decide +kernel
theorem dX4_leastOf_47 : decode cX4_leastOf 47 = .ok (.ifCond .ne 7, 3) := by decide +kernel
theorem dX4_leastOf_50 : decode cX4_leastOf 50 = .ok (.iload_n 2, 1) := by decide +kernel
theorem dX4_leastOf_51 : decode cX4_leastOf 51 = .ok (.ifCond .ne 7, 3) := by decide +kernel
theorem dX4_leastOf_54 : decode cX4_leastOf 54 = .ok (.iconst 1, 1) := by decide +kernel
theorem dX4_leastOf_55 : decode cX4_leastOf 55 = .ok (.goto 4, 3) := by decide +kernel
theorem dX4_leastOf_58 : decode cX4_leastOf 58 = .ok (.iconst 0, 1) := by decide +kernel
theorem dX4_leastOf_59 : decode cX4_leastOf 59 = .ok (.istore 7, 2) := by decide +kernel
theorem dX4_leastOf_61 : decode cX4_leastOf 61 = .ok (.iload 7, 2) := by decide +kernel
theorem dX4_leastOf_63 : decode cX4_leastOf 63 = .ok (.ifCond .eq 24, 3) := by decide +kernel
theorem dX4_leastOf_66 : decode cX4_leastOf 66 = .ok (.iload 5, 2) := by decide +kernel
theorem dX4_leastOf_68 : decode cX4_leastOf 68 = .ok (.ifCond .lt 14, 3) := by decide +kernel
theorem dX4_leastOf_71 : decode cX4_leastOf 71 = .ok (.aload_n 0, 1) := by decide +kernel
theorem dX4_leastOf_72 : decode cX4_leastOf 72 = .ok (.iload 6, 2) := by decide +kernel
theorem dX4_leastOf_74 : decode cX4_leastOf 74 = .ok (.iload 5, 2) := by decide +kernel
theorem dX4_leastOf_76 : decode cX4_leastOf 76 = .ok (.invokevirtual 106, 3) := by decide +kernel
theorem dX4_leastOf_79 : decode cX4_leastOf 79 = .ok (.ifCond .eq 8, 3) := by decide +kernel
theorem dX4_leastOf_82 : decode cX4_leastOf 82 = .ok (.iload 6, 2) := by decide +kernel
theorem dX4_leastOf_84 : decode cX4_leastOf 84 = .ok (.goto 5, 3) := by decide +kernel
theorem dX4_leastOf_87 : decode cX4_leastOf 87 = .ok (.iload 5, 2) := by decide +kernel
theorem dX4_leastOf_89 : decode cX4_leastOf 89 = .ok (.istore 5, 2) := by decide +kernel
theorem dX4_leastOf_91 : decode cX4_leastOf 91 = .ok (.iinc 6 1, 3) := by decide +kernel
theorem dX4_leastOf_94 : decode cX4_leastOf 94 = .ok (.goto (-88), 3) := by decide +kernel
theorem dX4_leastOf_97 : decode cX4_leastOf 97 = .ok (.iload 5, 2) := by decide +kernel
theorem dX4_leastOf_99 : decode cX4_leastOf 99 = .ok (.ireturn, 1) := by decide +kernel
set_option maxRecDepth 20000 in
theorem ggX4_pass_X4_isIn : GoodIn wsX4_pass wsX4_isIn := goodIn_r _ [19] (by decide +kernel) (by decide +kernel)
set_option maxRecDepth 20000 in
theorem gX4_pass_X4_isIn : GoodIn wsX4_pass (va_wsS RX4 76 yX4_isIn wsX4_isIn) := goodIn_app (goodIn_of _ (by decide +kernel)) ggX4_pass_X4_isIn
set_option maxRecDepth 20000 in
theorem ggX4_pass_X4_isGood : GoodIn wsX4_pass wsX4_isGood := goodIn_r _ [23, 24, 43, 44, 45, 46, 47, 48, 49, 50, 51, 52, 53, 54, 55, 56, 57, 58, 59, 60] (by decide +kernel) (by decide +kernel)
set_option maxRecDepth 20000 in
theorem gX4_pass_X4_isGood : GoodIn wsX4_pass (wsV RX4 90 RX4 yX4_isGood wsX4_isGood) := goodIn_app (goodIn_of _ (by decide +kernel)) ggX4_pass_X4_isGood
set_option maxRecDepth 20000 in
theorem ggX4_pass_X4_leastOf : GoodIn wsX4_pass wsX4_leastOf := goodIn_r _ [28, 29, 30, 11, 5, 31, 32, 33, 18, 34, 14, 9, 7, 43, 44, 45, 46, 47, 48, 49, 50, 51, 52, 53, 54, 55, 56, 57, 58, 59, 60] (by decide +kernel) (by decide +kernel)
set_option maxRecDepth 20000 in
theorem gX4_pass_X4_leastOf : GoodIn wsX4_pass (wsV RX4 110 RX4 yX4_leastOf wsX4_leastOf) := goodIn_app (goodIn_of _ (by decide +kernel)) ggX4_pass_X4_leastOf
set_option maxRecDepth 20000 in
theorem ggX4_pass_X4_take : GoodIn wsX4_pass wsX4_take := goodIn_r _ [38, 29, 39, 40, 41, 18, 42, 5, 30, 7, 9, 11, 15, 13, 43, 44, 45, 46, 47, 48, 49, 50, 51, 52, 53, 54, 55, 56, 57, 58, 59, 60] (by decide +kernel) (by decide +kernel)
set_option maxRecDepth 20000 in
theorem gX4_pass_X4_take : GoodIn wsX4_pass (wsV RX4 102 RX4 yX4_take wsX4_take) := goodIn_app (goodIn_of _ (by decide +kernel)) ggX4_pass_X4_take
theorem dX4_pass_0 : decode cX4_pass 0 = .ok (.aload_n 0, 1) := by decide +kernel
theorem dX4_pass_1 : decode cX4_pass 1 = .ok (.iload_n 1, 1) := by decide +kernel
theorem dX4_pass_2 : decode cX4_pass 2 = .ok (.i2l, 1) := by decide +kernel
theorem dX4_pass_3 : decode cX4_pass 3 = .ok (.lconst 0, 1) := by decide +kernel
theorem dX4_pass_4 : decode cX4_pass 4 = .ok (.lconst 1, 1) := by decide +kernel
theorem dX4_pass_5 : decode cX4_pass 5 = .ok (.invokestatic 76, 3) := by decide +kernel
theorem dX4_pass_8 : decode cX4_pass 8 = .ok (.ifCond .eq 25, 3) := by decide +kernel
theorem dX4_pass_11 : decode cX4_pass 11 = .ok (.lload_n 2, 1) := by decide +kernel
theorem dX4_pass_12 : decode cX4_pass 12 = .ok (.lconst 0, 1) := by decide +kernel
theorem dX4_pass_13 : decode cX4_pass 13 = .ok (.ldc2_w 80, 3) := by decide +kernel
theorem dX4_pass_16 : decode cX4_pass 16 = .ok (.invokestatic 76, 3) := by decide +kernel
theorem dX4_pass_19 : decode cX4_pass 19 = .ok (.ifCond .eq 14, 3) := by decide +kernel
theorem dX4_pass_22 : decode cX4_pass 22 = .ok (.lload_n 2, 1) := by decide +kernel
theorem dX4_pass_23 : decode cX4_pass 23 = .ok (.aload_n 0, 1) := by decide +kernel
theorem dX4_pass_24 : decode cX4_pass 24 = .ok (.getfield 36, 3) := by decide +kernel
theorem dX4_pass_27 : decode cX4_pass 27 = .ok (.iload_n 1, 1) := by decide +kernel
theorem dX4_pass_28 : decode cX4_pass 28 = .ok (.laload, 1) := by decide +kernel
theorem dX4_pass_29 : decode cX4_pass 29 = .ok (.lcmp, 1) := by decide +kernel
theorem dX4_pass_30 : decode cX4_pass 30 = .ok (.ifCond .ge 7, 3) := by decide +kernel
theorem dX4_pass_33 : decode cX4_pass 33 = .ok (.iconst 1, 1) := by decide +kernel
theorem dX4_pass_34 : decode cX4_pass 34 = .ok (.goto 4, 3) := by decide +kernel
theorem dX4_pass_37 : decode cX4_pass 37 = .ok (.iconst 0, 1) := by decide +kernel
theorem dX4_pass_38 : decode cX4_pass 38 = .ok (.invokevirtual 90, 3) := by decide +kernel
theorem dX4_pass_41 : decode cX4_pass 41 = .ok (.ifCond .ne 5, 3) := by decide +kernel
theorem dX4_pass_44 : decode cX4_pass 44 = .ok (.iconst 0, 1) := by decide +kernel
theorem dX4_pass_45 : decode cX4_pass 45 = .ok (.ireturn, 1) := by decide +kernel
theorem dX4_pass_46 : decode cX4_pass 46 = .ok (.aload_n 0, 1) := by decide +kernel
theorem dX4_pass_47 : decode cX4_pass 47 = .ok (.getfield 36, 3) := by decide +kernel
theorem dX4_pass_50 : decode cX4_pass 50 = .ok (.iload_n 1, 1) := by decide +kernel
theorem dX4_pass_51 : decode cX4_pass 51 = .ok (.lload_n 2, 1) := by decide +kernel
theorem dX4_pass_52 : decode cX4_pass 52 = .ok (.lastore, 1) := by decide +kernel
theorem dX4_pass_53 : decode cX4_pass 53 = .ok (.aload_n 0, 1) := by decide +kernel
theorem dX4_pass_54 : decode cX4_pass 54 = .ok (.iconst 0, 1) := by decide +kernel
theorem dX4_pass_55 : decode cX4_pass 55 = .ok (.putfield 69, 3) := by decide +kernel
theorem dX4_pass_58 : decode cX4_pass 58 = .ok (.aload_n 0, 1) := by decide +kernel
theorem dX4_pass_59 : decode cX4_pass 59 = .ok (.iload_n 1, 1) := by decide +kernel
theorem dX4_pass_60 : decode cX4_pass 60 = .ok (.iconst 0, 1) := by decide +kernel
theorem dX4_pass_61 : decode cX4_pass 61 = .ok (.lload_n 2, 1) := by decide +kernel
theorem dX4_pass_62 : decode cX4_pass 62 = .ok (.invokevirtual 110, 3) := by decide +kernel
theorem dX4_pass_65 : decode cX4_pass 65 = .ok (.istore 4, 2) := by decide +kernel
theorem dX4_pass_67 : decode cX4_pass 67 = .ok (.iload 4, 2) := by decide +kernel
theorem dX4_pass_69 : decode cX4_pass 69 = .ok (.ifCond .lt 193, 3) := by decide +kernel
theorem dX4_pass_72 : decode cX4_pass 72 = .ok (.aload_n 0, 1) := by decide +kernel
theorem dX4_pass_73 : decode cX4_pass 73 = .ok (.getfield 42, 3) := by decide +kernel
theorem dX4_pass_76 : decode cX4_pass 76 = .ok (.aload_n 0, 1) := by decide +kernel
theorem dX4_pass_77 : decode cX4_pass 77 = .ok (.getfield 69, 3) := by decide +kernel
theorem dX4_pass_80 : decode cX4_pass 80 = .ok (.aload_n 0, 1) := by decide +kernel
theorem dX4_pass_81 : decode cX4_pass 81 = .ok (.getfield 13, 3) := by decide +kernel
theorem dX4_pass_84 : decode cX4_pass 84 = .ok (.iload 4, 2) := by decide +kernel
theorem dX4_pass_86 : decode cX4_pass 86 = .ok (.baload, 1) := by decide +kernel
theorem dX4_pass_87 : decode cX4_pass 87 = .ok (.ifCond .eq 7, 3) := by decide +kernel
theorem dX4_pass_90 : decode cX4_pass 90 = .ok (.iconst 1, 1) := by decide +kernel
theorem dX4_pass_91 : decode cX4_pass 91 = .ok (.goto 4, 3) := by decide +kernel
theorem dX4_pass_94 : decode cX4_pass 94 = .ok (.iconst 0, 1) := by decide +kernel
theorem dX4_pass_95 : decode cX4_pass 95 = .ok (.iastore, 1) := by decide +kernel
theorem dX4_pass_96 : decode cX4_pass 96 = .ok (.aload_n 0, 1) := by decide +kernel
theorem dX4_pass_97 : decode cX4_pass 97 = .ok (.getfield 45, 3) := by decide +kernel
theorem dX4_pass_100 : decode cX4_pass 100 = .ok (.aload_n 0, 1) := by decide +kernel
theorem dX4_pass_101 : decode cX4_pass 101 = .ok (.getfield 69, 3) := by decide +kernel
theorem dX4_pass_104 : decode cX4_pass 104 = .ok (.aload_n 0, 1) := by decide +kernel
theorem dX4_pass_105 : decode cX4_pass 105 = .ok (.getfield 20, 3) := by decide +kernel
theorem dX4_pass_108 : decode cX4_pass 108 = .ok (.iload 4, 2) := by decide +kernel
theorem dX4_pass_110 : decode cX4_pass 110 = .ok (.iaload, 1) := by decide +kernel
theorem dX4_pass_111 : decode cX4_pass 111 = .ok (.iastore, 1) := by decide +kernel
theorem dX4_pass_112 : decode cX4_pass 112 = .ok (.aload_n 0, 1) := by decide +kernel
theorem dX4_pass_113 : decode cX4_pass 113 = .ok (.getfield 48, 3) := by decide +kernel
theorem dX4_pass_116 : decode cX4_pass 116 = .ok (.aload_n 0, 1) := by decide +kernel
theorem dX4_pass_117 : decode cX4_pass 117 = .ok (.getfield 69, 3) := by decide +kernel
theorem dX4_pass_120 : decode cX4_pass 120 = .ok (.aload_n 0, 1) := by decide +kernel
theorem dX4_pass_121 : decode cX4_pass 121 = .ok (.getfield 23, 3) := by decide +kernel
theorem dX4_pass_124 : decode cX4_pass 124 = .ok (.iload 4, 2) := by decide +kernel
theorem dX4_pass_126 : decode cX4_pass 126 = .ok (.laload, 1) := by decide +kernel
theorem dX4_pass_127 : decode cX4_pass 127 = .ok (.lastore, 1) := by decide +kernel
theorem dX4_pass_128 : decode cX4_pass 128 = .ok (.aload_n 0, 1) := by decide +kernel
theorem dX4_pass_129 : decode cX4_pass 129 = .ok (.getfield 51, 3) := by decide +kernel
theorem dX4_pass_132 : decode cX4_pass 132 = .ok (.aload_n 0, 1) := by decide +kernel
theorem dX4_pass_133 : decode cX4_pass 133 = .ok (.getfield 69, 3) := by decide +kernel
theorem dX4_pass_136 : decode cX4_pass 136 = .ok (.aload_n 0, 1) := by decide +kernel
theorem dX4_pass_137 : decode cX4_pass 137 = .ok (.getfield 27, 3) := by decide +kernel
theorem dX4_pass_140 : decode cX4_pass 140 = .ok (.iload 4, 2) := by decide +kernel
theorem dX4_pass_142 : decode cX4_pass 142 = .ok (.laload, 1) := by decide +kernel
theorem dX4_pass_143 : decode cX4_pass 143 = .ok (.lastore, 1) := by decide +kernel
theorem dX4_pass_144 : decode cX4_pass 144 = .ok (.aload_n 0, 1) := by decide +kernel
theorem dX4_pass_145 : decode cX4_pass 145 = .ok (.getfield 54, 3) := by decide +kernel
theorem dX4_pass_148 : decode cX4_pass 148 = .ok (.aload_n 0, 1) := by decide +kernel
theorem dX4_pass_149 : decode cX4_pass 149 = .ok (.getfield 69, 3) := by decide +kernel
theorem dX4_pass_152 : decode cX4_pass 152 = .ok (.aload_n 0, 1) := by decide +kernel
theorem dX4_pass_153 : decode cX4_pass 153 = .ok (.getfield 33, 3) := by decide +kernel
theorem dX4_pass_156 : decode cX4_pass 156 = .ok (.iload 4, 2) := by decide +kernel
theorem dX4_pass_158 : decode cX4_pass 158 = .ok (.iaload, 1) := by decide +kernel
theorem dX4_pass_159 : decode cX4_pass 159 = .ok (.iastore, 1) := by decide +kernel
theorem dX4_pass_160 : decode cX4_pass 160 = .ok (.aload_n 0, 1) := by decide +kernel
theorem dX4_pass_161 : decode cX4_pass 161 = .ok (.dup, 1) := by decide +kernel
theorem dX4_pass_162 : decode cX4_pass 162 = .ok (.getfield 69, 3) := by decide +kernel
theorem dX4_pass_165 : decode cX4_pass 165 = .ok (.iconst 1, 1) := by decide +kernel
theorem dX4_pass_166 : decode cX4_pass 166 = .ok (.iadd, 1) := by decide +kernel
theorem dX4_pass_167 : decode cX4_pass 167 = .ok (.putfield 69, 3) := by decide +kernel
theorem dX4_pass_170 : decode cX4_pass 170 = .ok (.aload_n 0, 1) := by decide +kernel
theorem dX4_pass_171 : decode cX4_pass 171 = .ok (.getfield 13, 3) := by decide +kernel
theorem dX4_pass_174 : decode cX4_pass 174 = .ok (.iload 4, 2) := by decide +kernel
theorem dX4_pass_176 : decode cX4_pass 176 = .ok (.baload, 1) := by decide +kernel
theorem dX4_pass_177 : decode cX4_pass 177 = .ok (.ifCond .eq 67, 3) := by decide +kernel
theorem dX4_pass_180 : decode cX4_pass 180 = .ok (.aload_n 0, 1) := by decide +kernel
theorem dX4_pass_181 : decode cX4_pass 181 = .ok (.getfield 33, 3) := by decide +kernel
theorem dX4_pass_184 : decode cX4_pass 184 = .ok (.iload 4, 2) := by decide +kernel
theorem dX4_pass_186 : decode cX4_pass 186 = .ok (.iaload, 1) := by decide +kernel
theorem dX4_pass_187 : decode cX4_pass 187 = .ok (.ifCond .le 57, 3) := by decide +kernel
theorem dX4_pass_190 : decode cX4_pass 190 = .ok (.aload_n 0, 1) := by decide +kernel
theorem dX4_pass_191 : decode cX4_pass 191 = .ok (.getfield 20, 3) := by decide +kernel
theorem dX4_pass_194 : decode cX4_pass 194 = .ok (.iload 4, 2) := by decide +kernel
theorem dX4_pass_196 : decode cX4_pass 196 = .ok (.aload_n 0, 1) := by decide +kernel
theorem dX4_pass_197 : decode cX4_pass 197 = .ok (.getfield 39, 3) := by decide +kernel
theorem dX4_pass_200 : decode cX4_pass 200 = .ok (.iconst 0, 1) := by decide +kernel
theorem dX4_pass_201 : decode cX4_pass 201 = .ok (.iaload, 1) := by decide +kernel
theorem dX4_pass_202 : decode cX4_pass 202 = .ok (.iastore, 1) := by decide +kernel
theorem dX4_pass_203 : decode cX4_pass 203 = .ok (.aload_n 0, 1) := by decide +kernel
theorem dX4_pass_204 : decode cX4_pass 204 = .ok (.getfield 39, 3) := by decide +kernel
theorem dX4_pass_207 : decode cX4_pass 207 = .ok (.iconst 0, 1) := by decide +kernel
theorem dX4_pass_208 : decode cX4_pass 208 = .ok (.dup2, 1) := by decide +kernel
theorem dX4_pass_209 : decode cX4_pass 209 = .ok (.iaload, 1) := by decide +kernel
theorem dX4_pass_210 : decode cX4_pass 210 = .ok (.iconst 1, 1) := by decide +kernel
theorem dX4_pass_211 : decode cX4_pass 211 = .ok (.iadd, 1) := by decide +kernel
theorem dX4_pass_212 : decode cX4_pass 212 = .ok (.iastore, 1) := by decide +kernel
theorem dX4_pass_213 : decode cX4_pass 213 = .ok (.aload_n 0, 1) := by decide +kernel
theorem dX4_pass_214 : decode cX4_pass 214 = .ok (.getfield 27, 3) := by decide +kernel
theorem dX4_pass_217 : decode cX4_pass 217 = .ok (.iload 4, 2) := by decide +kernel
theorem dX4_pass_219 : decode cX4_pass 219 = .ok (.dup2, 1) := by decide +kernel
theorem dX4_pass_220 : decode cX4_pass 220 = .ok (.laload, 1) := by decide +kernel
theorem dX4_pass_221 : decode cX4_pass 221 = .ok (.aload_n 0, 1) := by decide +kernel
theorem dX4_pass_222 : decode cX4_pass 222 = .ok (.getfield 30, 3) := by decide +kernel
theorem dX4_pass_225 : decode cX4_pass 225 = .ok (.iload 4, 2) := by decide +kernel
theorem dX4_pass_227 : decode cX4_pass 227 = .ok (.laload, 1) := by decide +kernel
theorem dX4_pass_228 : decode cX4_pass 228 = .ok (.ladd, 1) := by decide +kernel
theorem dX4_pass_229 : decode cX4_pass 229 = .ok (.lastore, 1) := by decide +kernel
theorem dX4_pass_230 : decode cX4_pass 230 = .ok (.aload_n 0, 1) := by decide +kernel
theorem dX4_pass_231 : decode cX4_pass 231 = .ok (.getfield 33, 3) := by decide +kernel
theorem dX4_pass_234 : decode cX4_pass 234 = .ok (.iload 4, 2) := by decide +kernel
theorem dX4_pass_236 : decode cX4_pass 236 = .ok (.dup2, 1) := by decide +kernel
theorem dX4_pass_237 : decode cX4_pass 237 = .ok (.iaload, 1) := by decide +kernel
theorem dX4_pass_238 : decode cX4_pass 238 = .ok (.iconst 1, 1) := by decide +kernel
theorem dX4_pass_239 : decode cX4_pass 239 = .ok (.isub, 1) := by decide +kernel
theorem dX4_pass_240 : decode cX4_pass 240 = .ok (.iastore, 1) := by decide +kernel
theorem dX4_pass_241 : decode cX4_pass 241 = .ok (.goto 9, 3) := by decide +kernel
theorem dX4_pass_244 : decode cX4_pass 244 = .ok (.aload_n 0, 1) := by decide +kernel
theorem dX4_pass_245 : decode cX4_pass 245 = .ok (.iload 4, 2) := by decide +kernel
theorem dX4_pass_247 : decode cX4_pass 247 = .ok (.invokevirtual 102, 3) := by decide +kernel
theorem dX4_pass_250 : decode cX4_pass 250 = .ok (.aload_n 0, 1) := by decide +kernel
theorem dX4_pass_251 : decode cX4_pass 251 = .ok (.iload_n 1, 1) := by decide +kernel
theorem dX4_pass_252 : decode cX4_pass 252 = .ok (.iconst 0, 1) := by decide +kernel
theorem dX4_pass_253 : decode cX4_pass 253 = .ok (.lload_n 2, 1) := by decide +kernel
theorem dX4_pass_254 : decode cX4_pass 254 = .ok (.invokevirtual 110, 3) := by decide +kernel
theorem dX4_pass_257 : decode cX4_pass 257 = .ok (.istore 4, 2) := by decide +kernel
theorem dX4_pass_259 : decode cX4_pass 259 = .ok (.goto (-192), 3) := by decide +kernel
theorem dX4_pass_262 : decode cX4_pass 262 = .ok (.aload_n 0, 1) := by decide +kernel
theorem dX4_pass_263 : decode cX4_pass 263 = .ok (.getfield 69, 3) := by decide +kernel
theorem dX4_pass_266 : decode cX4_pass 266 = .ok (.ireturn, 1) := by decide +kernel
set_option maxRecDepth 20000 in
theorem ggX4_done_X4_isIn : GoodIn wsX4_done wsX4_isIn := goodIn_r _ [11] (by decide +kernel) (by decide +kernel)
set_option maxRecDepth 20000 in
theorem gX4_done_X4_isIn : GoodIn wsX4_done (va_wsS RX4 76 yX4_isIn wsX4_isIn) := goodIn_app (goodIn_of _ (by decide +kernel)) ggX4_done_X4_isIn
set_option maxRecDepth 20000 in
theorem ggX4_done_X4_isGood : GoodIn wsX4_done wsX4_isGood := goodIn_r _ [15, 16, 17, 18, 19, 20, 21, 22, 23, 24, 25, 26, 27, 28, 29, 30, 31, 32, 33, 34] (by decide +kernel) (by decide +kernel)
set_option maxRecDepth 20000 in
theorem gX4_done_X4_isGood : GoodIn wsX4_done (wsV RX4 90 RX4 yX4_isGood wsX4_isGood) := goodIn_app (goodIn_of _ (by decide +kernel)) ggX4_done_X4_isGood
theorem dX4_done_0 : decode cX4_done 0 = .ok (.aload_n 0, 1) := by decide +kernel
theorem dX4_done_1 : decode cX4_done 1 = .ok (.iload_n 2, 1) := by decide +kernel
theorem dX4_done_2 : decode cX4_done 2 = .ok (.i2l, 1) := by decide +kernel
theorem dX4_done_3 : decode cX4_done 3 = .ok (.lconst 0, 1) := by decide +kernel
theorem dX4_done_4 : decode cX4_done 4 = .ok (.ldc2_w 114, 3) := by decide +kernel
theorem dX4_done_7 : decode cX4_done 7 = .ok (.invokestatic 76, 3) := by decide +kernel
theorem dX4_done_10 : decode cX4_done 10 = .ok (.ifCond .ne 7, 3) := by decide +kernel
theorem dX4_done_13 : decode cX4_done 13 = .ok (.iconst 1, 1) := by decide +kernel
theorem dX4_done_14 : decode cX4_done 14 = .ok (.goto 24, 3) := by decide +kernel
theorem dX4_done_17 : decode cX4_done 17 = .ok (.iload_n 1, 1) := by decide +kernel
theorem dX4_done_18 : decode cX4_done 18 = .ok (.i2l, 1) := by decide +kernel
theorem dX4_done_19 : decode cX4_done 19 = .ok (.lconst 0, 1) := by decide +kernel
theorem dX4_done_20 : decode cX4_done 20 = .ok (.aload_n 0, 1) := by decide +kernel
theorem dX4_done_21 : decode cX4_done 21 = .ok (.getfield 69, 3) := by decide +kernel
theorem dX4_done_24 : decode cX4_done 24 = .ok (.iconst 1, 1) := by decide +kernel
theorem dX4_done_25 : decode cX4_done 25 = .ok (.isub, 1) := by decide +kernel
theorem dX4_done_26 : decode cX4_done 26 = .ok (.i2l, 1) := by decide +kernel
theorem dX4_done_27 : decode cX4_done 27 = .ok (.invokestatic 76, 3) := by decide +kernel
theorem dX4_done_30 : decode cX4_done 30 = .ok (.ifCond .ne 7, 3) := by decide +kernel
theorem dX4_done_33 : decode cX4_done 33 = .ok (.iconst 2, 1) := by decide +kernel
theorem dX4_done_34 : decode cX4_done 34 = .ok (.goto 4, 3) := by decide +kernel
theorem dX4_done_37 : decode cX4_done 37 = .ok (.iconst 0, 1) := by decide +kernel
theorem dX4_done_38 : decode cX4_done 38 = .ok (.invokevirtual 90, 3) := by decide +kernel
theorem dX4_done_41 : decode cX4_done 41 = .ok (.ifCond .ne 5, 3) := by decide +kernel
theorem dX4_done_44 : decode cX4_done 44 = .ok (.lconst 0, 1) := by decide +kernel
theorem dX4_done_45 : decode cX4_done 45 = .ok (.lreturn, 1) := by decide +kernel
theorem dX4_done_46 : decode cX4_done 46 = .ok (.iload_n 2, 1) := by decide +kernel
theorem dX4_done_47 : decode cX4_done 47 = .ok (.tableswitch 59 0 3 #[29, 37, 45, 52], 29) := by decide +kernel
theorem dX4_done_76 : decode cX4_done 76 = .ok (.aload_n 0, 1) := by decide +kernel
theorem dX4_done_77 : decode cX4_done 77 = .ok (.getfield 42, 3) := by decide +kernel
theorem dX4_done_80 : decode cX4_done 80 = .ok (.iload_n 1, 1) := by decide +kernel
theorem dX4_done_81 : decode cX4_done 81 = .ok (.iaload, 1) := by decide +kernel
theorem dX4_done_82 : decode cX4_done 82 = .ok (.i2l, 1) := by decide +kernel
theorem dX4_done_83 : decode cX4_done 83 = .ok (.lreturn, 1) := by decide +kernel
theorem dX4_done_84 : decode cX4_done 84 = .ok (.aload_n 0, 1) := by decide +kernel
theorem dX4_done_85 : decode cX4_done 85 = .ok (.getfield 45, 3) := by decide +kernel
theorem dX4_done_88 : decode cX4_done 88 = .ok (.iload_n 1, 1) := by decide +kernel
theorem dX4_done_89 : decode cX4_done 89 = .ok (.iaload, 1) := by decide +kernel
theorem dX4_done_90 : decode cX4_done 90 = .ok (.i2l, 1) := by decide +kernel
theorem dX4_done_91 : decode cX4_done 91 = .ok (.lreturn, 1) := by decide +kernel
theorem dX4_done_92 : decode cX4_done 92 = .ok (.aload_n 0, 1) := by decide +kernel
theorem dX4_done_93 : decode cX4_done 93 = .ok (.getfield 48, 3) := by decide +kernel
theorem dX4_done_96 : decode cX4_done 96 = .ok (.iload_n 1, 1) := by decide +kernel
theorem dX4_done_97 : decode cX4_done 97 = .ok (.laload, 1) := by decide +kernel
theorem dX4_done_98 : decode cX4_done 98 = .ok (.lreturn, 1) := by decide +kernel
theorem dX4_done_99 : decode cX4_done 99 = .ok (.aload_n 0, 1) := by decide +kernel
theorem dX4_done_100 : decode cX4_done 100 = .ok (.getfield 51, 3) := by decide +kernel
theorem dX4_done_103 : decode cX4_done 103 = .ok (.iload_n 1, 1) := by decide +kernel
theorem dX4_done_104 : decode cX4_done 104 = .ok (.laload, 1) := by decide +kernel
theorem dX4_done_105 : decode cX4_done 105 = .ok (.lreturn, 1) := by decide +kernel
theorem dX4_done_106 : decode cX4_done 106 = .ok (.aload_n 0, 1) := by decide +kernel
theorem dX4_done_107 : decode cX4_done 107 = .ok (.getfield 54, 3) := by decide +kernel
theorem dX4_done_110 : decode cX4_done 110 = .ok (.iload_n 1, 1) := by decide +kernel
theorem dX4_done_111 : decode cX4_done 111 = .ok (.iaload, 1) := by decide +kernel
theorem dX4_done_112 : decode cX4_done 112 = .ok (.i2l, 1) := by decide +kernel
theorem dX4_done_113 : decode cX4_done 113 = .ok (.lreturn, 1) := by decide +kernel
set_option maxRecDepth 20000 in
theorem ggX4_told_X4_find : GoodIn wsX4_told wsX4_find := goodIn_r _ [11, 12, 13, 14, 23, 24, 25, 26, 27, 28, 29, 30, 31, 32, 33, 34, 35, 36, 37, 38, 39, 40] (by decide +kernel) (by decide +kernel)
set_option maxRecDepth 20000 in
theorem gX4_told_X4_find : GoodIn wsX4_told (wsV RX4 98 RX4 yX4_find wsX4_find) := goodIn_app (goodIn_of _ (by decide +kernel)) ggX4_told_X4_find
set_option maxRecDepth 20000 in
theorem ggX4_told_X4_isIn : GoodIn wsX4_told wsX4_isIn := goodIn_r _ [17] (by decide +kernel) (by decide +kernel)
set_option maxRecDepth 20000 in
theorem gX4_told_X4_isIn : GoodIn wsX4_told (va_wsS RX4 76 yX4_isIn wsX4_isIn) := goodIn_app (goodIn_of _ (by decide +kernel)) ggX4_told_X4_isIn
set_option maxRecDepth 20000 in
theorem ggX4_told_X4_isGood : GoodIn wsX4_told wsX4_isGood := goodIn_r _ [21, 22, 23, 24, 25, 26, 27, 28, 29, 30, 31, 32, 33, 34, 35, 36, 37, 38, 39, 40] (by decide +kernel) (by decide +kernel)
set_option maxRecDepth 20000 in
theorem gX4_told_X4_isGood : GoodIn wsX4_told (wsV RX4 90 RX4 yX4_isGood wsX4_isGood) := goodIn_app (goodIn_of _ (by decide +kernel)) ggX4_told_X4_isGood
theorem dX4_told_0 : decode cX4_told 0 = .ok (.aload_n 0, 1) := by decide +kernel
theorem dX4_told_1 : decode cX4_told 1 = .ok (.iload_n 1, 1) := by decide +kernel
theorem dX4_told_2 : decode cX4_told 2 = .ok (.invokevirtual 98, 3) := by decide +kernel
theorem dX4_told_5 : decode cX4_told 5 = .ok (.istore_n 3, 1) := by decide +kernel
theorem dX4_told_6 : decode cX4_told 6 = .ok (.aload_n 0, 1) := by decide +kernel
theorem dX4_told_7 : decode cX4_told 7 = .ok (.iload_n 2, 1) := by decide +kernel
theorem dX4_told_8 : decode cX4_told 8 = .ok (.i2l, 1) := by decide +kernel
theorem dX4_told_9 : decode cX4_told 9 = .ok (.lconst 0, 1) := by decide +kernel
theorem dX4_told_10 : decode cX4_told 10 = .ok (.ldc2_w 114, 3) := by decide +kernel
theorem dX4_told_13 : decode cX4_told 13 = .ok (.invokestatic 76, 3) := by decide +kernel
theorem dX4_told_16 : decode cX4_told 16 = .ok (.ifCond .ne 7, 3) := by decide +kernel
theorem dX4_told_19 : decode cX4_told 19 = .ok (.iconst 1, 1) := by decide +kernel
theorem dX4_told_20 : decode cX4_told 20 = .ok (.goto 12, 3) := by decide +kernel
theorem dX4_told_23 : decode cX4_told 23 = .ok (.iload_n 3, 1) := by decide +kernel
theorem dX4_told_24 : decode cX4_told 24 = .ok (.ifCond .ge 7, 3) := by decide +kernel
theorem dX4_told_27 : decode cX4_told 27 = .ok (.iconst 2, 1) := by decide +kernel
theorem dX4_told_28 : decode cX4_told 28 = .ok (.goto 4, 3) := by decide +kernel
theorem dX4_told_31 : decode cX4_told 31 = .ok (.iconst 0, 1) := by decide +kernel
theorem dX4_told_32 : decode cX4_told 32 = .ok (.invokevirtual 90, 3) := by decide +kernel
theorem dX4_told_35 : decode cX4_told 35 = .ok (.ifCond .ne 5, 3) := by decide +kernel
theorem dX4_told_38 : decode cX4_told 38 = .ok (.lconst 0, 1) := by decide +kernel
theorem dX4_told_39 : decode cX4_told 39 = .ok (.lreturn, 1) := by decide +kernel
theorem dX4_told_40 : decode cX4_told 40 = .ok (.iload_n 2, 1) := by decide +kernel
theorem dX4_told_41 : decode cX4_told 41 = .ok (.tableswitch 60 0 3 #[31, 39, 46, 53], 31) := by decide +kernel
theorem dX4_told_72 : decode cX4_told 72 = .ok (.aload_n 0, 1) := by decide +kernel
theorem dX4_told_73 : decode cX4_told 73 = .ok (.getfield 17, 3) := by decide +kernel
theorem dX4_told_76 : decode cX4_told 76 = .ok (.iload_n 3, 1) := by decide +kernel
theorem dX4_told_77 : decode cX4_told 77 = .ok (.iaload, 1) := by decide +kernel
theorem dX4_told_78 : decode cX4_told 78 = .ok (.i2l, 1) := by decide +kernel
theorem dX4_told_79 : decode cX4_told 79 = .ok (.lreturn, 1) := by decide +kernel
theorem dX4_told_80 : decode cX4_told 80 = .ok (.aload_n 0, 1) := by decide +kernel
theorem dX4_told_81 : decode cX4_told 81 = .ok (.getfield 23, 3) := by decide +kernel
theorem dX4_told_84 : decode cX4_told 84 = .ok (.iload_n 3, 1) := by decide +kernel
theorem dX4_told_85 : decode cX4_told 85 = .ok (.laload, 1) := by decide +kernel
theorem dX4_told_86 : decode cX4_told 86 = .ok (.lreturn, 1) := by decide +kernel
theorem dX4_told_87 : decode cX4_told 87 = .ok (.aload_n 0, 1) := by decide +kernel
theorem dX4_told_88 : decode cX4_told 88 = .ok (.getfield 27, 3) := by decide +kernel
theorem dX4_told_91 : decode cX4_told 91 = .ok (.iload_n 3, 1) := by decide +kernel
theorem dX4_told_92 : decode cX4_told 92 = .ok (.laload, 1) := by decide +kernel
theorem dX4_told_93 : decode cX4_told 93 = .ok (.lreturn, 1) := by decide +kernel
theorem dX4_told_94 : decode cX4_told 94 = .ok (.aload_n 0, 1) := by decide +kernel
theorem dX4_told_95 : decode cX4_told 95 = .ok (.getfield 30, 3) := by decide +kernel
theorem dX4_told_98 : decode cX4_told 98 = .ok (.iload_n 3, 1) := by decide +kernel
theorem dX4_told_99 : decode cX4_told 99 = .ok (.laload, 1) := by decide +kernel
theorem dX4_told_100 : decode cX4_told 100 = .ok (.lreturn, 1) := by decide +kernel
theorem dX4_told_101 : decode cX4_told 101 = .ok (.aload_n 0, 1) := by decide +kernel
theorem dX4_told_102 : decode cX4_told 102 = .ok (.getfield 33, 3) := by decide +kernel
theorem dX4_told_105 : decode cX4_told 105 = .ok (.iload_n 3, 1) := by decide +kernel
theorem dX4_told_106 : decode cX4_told 106 = .ok (.iaload, 1) := by decide +kernel
theorem dX4_told_107 : decode cX4_told 107 = .ok (.i2l, 1) := by decide +kernel
theorem dX4_told_108 : decode cX4_told 108 = .ok (.lreturn, 1) := by decide +kernel
set_option maxRecDepth 20000 in
theorem ggX4_next_X4_isIn : GoodIn wsX4_next wsX4_isIn := goodIn_r _ [6] (by decide +kernel) (by decide +kernel)
set_option maxRecDepth 20000 in
theorem gX4_next_X4_isIn : GoodIn wsX4_next (va_wsS RX4 76 yX4_isIn wsX4_isIn) := goodIn_app (goodIn_of _ (by decide +kernel)) ggX4_next_X4_isIn
set_option maxRecDepth 20000 in
theorem ggX4_next_X4_isGood : GoodIn wsX4_next wsX4_isGood := goodIn_r _ [10, 11, 26, 27, 28, 29, 30, 31, 32, 33, 34, 35, 36, 37, 38, 39, 40, 41, 42, 43] (by decide +kernel) (by decide +kernel)
set_option maxRecDepth 20000 in
theorem gX4_next_X4_isGood : GoodIn wsX4_next (wsV RX4 90 RX4 yX4_isGood wsX4_isGood) := goodIn_app (goodIn_of _ (by decide +kernel)) ggX4_next_X4_isGood
set_option maxRecDepth 20000 in
theorem ggX4_next_X4_leastOf : GoodIn wsX4_next wsX4_leastOf := goodIn_r _ [15, 16, 17, 18, 19, 20, 21, 22, 5, 23, 24, 25, 2, 26, 27, 28, 29, 30, 31, 32, 33, 34, 35, 36, 37, 38, 39, 40, 41, 42, 43] (by decide +kernel) (by decide +kernel)
set_option maxRecDepth 20000 in
theorem gX4_next_X4_leastOf : GoodIn wsX4_next (wsV RX4 110 RX4 yX4_leastOf wsX4_leastOf) := goodIn_app (goodIn_of _ (by decide +kernel)) ggX4_next_X4_leastOf
theorem dX4_next_0 : decode cX4_next 0 = .ok (.aload_n 0, 1) := by decide +kernel
theorem dX4_next_1 : decode cX4_next 1 = .ok (.iload_n 1, 1) := by decide +kernel
theorem dX4_next_2 : decode cX4_next 2 = .ok (.i2l, 1) := by decide +kernel
theorem dX4_next_3 : decode cX4_next 3 = .ok (.lconst 0, 1) := by decide +kernel
theorem dX4_next_4 : decode cX4_next 4 = .ok (.lconst 1, 1) := by decide +kernel
theorem dX4_next_5 : decode cX4_next 5 = .ok (.invokestatic 76, 3) := by decide +kernel
theorem dX4_next_8 : decode cX4_next 8 = .ok (.ifCond .eq 7, 3) := by decide +kernel
theorem dX4_next_11 : decode cX4_next 11 = .ok (.iconst 0, 1) := by decide +kernel
theorem dX4_next_12 : decode cX4_next 12 = .ok (.goto 4, 3) := by decide +kernel
theorem dX4_next_15 : decode cX4_next 15 = .ok (.iconst 1, 1) := by decide +kernel
theorem dX4_next_16 : decode cX4_next 16 = .ok (.invokevirtual 90, 3) := by decide +kernel
theorem dX4_next_19 : decode cX4_next 19 = .ok (.ifCond .ne 5, 3) := by decide +kernel
theorem dX4_next_22 : decode cX4_next 22 = .ok (.iconst 0, 1) := by decide +kernel
theorem dX4_next_23 : decode cX4_next 23 = .ok (.ireturn, 1) := by decide +kernel
theorem dX4_next_24 : decode cX4_next 24 = .ok (.aload_n 0, 1) := by decide +kernel
theorem dX4_next_25 : decode cX4_next 25 = .ok (.iload_n 1, 1) := by decide +kernel
theorem dX4_next_26 : decode cX4_next 26 = .ok (.iconst 1, 1) := by decide +kernel
theorem dX4_next_27 : decode cX4_next 27 = .ok (.ldc2_w 116, 3) := by decide +kernel
theorem dX4_next_30 : decode cX4_next 30 = .ok (.invokevirtual 110, 3) := by decide +kernel
theorem dX4_next_33 : decode cX4_next 33 = .ok (.istore_n 2, 1) := by decide +kernel
theorem dX4_next_34 : decode cX4_next 34 = .ok (.iload_n 2, 1) := by decide +kernel
theorem dX4_next_35 : decode cX4_next 35 = .ok (.ifCond .ge 7, 3) := by decide +kernel
theorem dX4_next_38 : decode cX4_next 38 = .ok (.iconst (-1), 1) := by decide +kernel
theorem dX4_next_39 : decode cX4_next 39 = .ok (.goto 9, 3) := by decide +kernel
theorem dX4_next_42 : decode cX4_next 42 = .ok (.aload_n 0, 1) := by decide +kernel
theorem dX4_next_43 : decode cX4_next 43 = .ok (.getfield 20, 3) := by decide +kernel
theorem dX4_next_46 : decode cX4_next 46 = .ok (.iload_n 2, 1) := by decide +kernel
theorem dX4_next_47 : decode cX4_next 47 = .ok (.iaload, 1) := by decide +kernel
theorem dX4_next_48 : decode cX4_next 48 = .ok (.ireturn, 1) := by decide +kernel
set_option maxRecDepth 20000 in
theorem ggX4_waiting_X4_isIn : GoodIn wsX4_waiting wsX4_isIn := goodIn_r _ [9] (by decide +kernel) (by decide +kernel)
set_option maxRecDepth 20000 in
theorem gX4_waiting_X4_isIn : GoodIn wsX4_waiting (va_wsS RX4 76 yX4_isIn wsX4_isIn) := goodIn_app (goodIn_of _ (by decide +kernel)) ggX4_waiting_X4_isIn
set_option maxRecDepth 20000 in
theorem ggX4_waiting_X4_isGood : GoodIn wsX4_waiting wsX4_isGood := goodIn_r _ [13, 14, 15, 16, 17, 18, 19, 20, 21, 22, 23, 24, 25, 26, 27, 28, 29, 30, 31, 32] (by decide +kernel) (by decide +kernel)
set_option maxRecDepth 20000 in
theorem gX4_waiting_X4_isGood : GoodIn wsX4_waiting (wsV RX4 90 RX4 yX4_isGood wsX4_isGood) := goodIn_app (goodIn_of _ (by decide +kernel)) ggX4_waiting_X4_isGood
theorem dX4_waiting_0 : decode cX4_waiting 0 = .ok (.aload_n 0, 1) := by decide +kernel
theorem dX4_waiting_1 : decode cX4_waiting 1 = .ok (.iload_n 1, 1) := by decide +kernel
theorem dX4_waiting_2 : decode cX4_waiting 2 = .ok (.i2l, 1) := by decide +kernel
theorem dX4_waiting_3 : decode cX4_waiting 3 = .ok (.lconst 0, 1) := by decide +kernel
theorem dX4_waiting_4 : decode cX4_waiting 4 = .ok (.lconst 1, 1) := by decide +kernel
theorem dX4_waiting_5 : decode cX4_waiting 5 = .ok (.invokestatic 76, 3) := by decide +kernel
theorem dX4_waiting_8 : decode cX4_waiting 8 = .ok (.ifCond .eq 15, 3) := by decide +kernel
theorem dX4_waiting_11 : decode cX4_waiting 11 = .ok (.lload 4, 2) := by decide +kernel
theorem dX4_waiting_13 : decode cX4_waiting 13 = .ok (.lload 6, 2) := by decide +kernel
theorem dX4_waiting_15 : decode cX4_waiting 15 = .ok (.lcmp, 1) := by decide +kernel
theorem dX4_waiting_16 : decode cX4_waiting 16 = .ok (.ifCond .gt 7, 3) := by decide +kernel
theorem dX4_waiting_19 : decode cX4_waiting 19 = .ok (.iconst 0, 1) := by decide +kernel
theorem dX4_waiting_20 : decode cX4_waiting 20 = .ok (.goto 4, 3) := by decide +kernel
theorem dX4_waiting_23 : decode cX4_waiting 23 = .ok (.iconst 1, 1) := by decide +kernel
theorem dX4_waiting_24 : decode cX4_waiting 24 = .ok (.invokevirtual 90, 3) := by decide +kernel
theorem dX4_waiting_27 : decode cX4_waiting 27 = .ok (.ifCond .ne 5, 3) := by decide +kernel
theorem dX4_waiting_30 : decode cX4_waiting 30 = .ok (.iconst 0, 1) := by decide +kernel
theorem dX4_waiting_31 : decode cX4_waiting 31 = .ok (.ireturn, 1) := by decide +kernel
theorem dX4_waiting_32 : decode cX4_waiting 32 = .ok (.iconst 0, 1) := by decide +kernel
theorem dX4_waiting_33 : decode cX4_waiting 33 = .ok (.istore 8, 2) := by decide +kernel
theorem dX4_waiting_35 : decode cX4_waiting 35 = .ok (.iconst 0, 1) := by decide +kernel
theorem dX4_waiting_36 : decode cX4_waiting 36 = .ok (.istore 9, 2) := by decide +kernel
theorem dX4_waiting_38 : decode cX4_waiting 38 = .ok (.iload 9, 2) := by decide +kernel
theorem dX4_waiting_40 : decode cX4_waiting 40 = .ok (.aload_n 0, 1) := by decide +kernel
theorem dX4_waiting_41 : decode cX4_waiting 41 = .ok (.getfield 7, 3) := by decide +kernel
theorem dX4_waiting_44 : decode cX4_waiting 44 = .ok (.iconst 0, 1) := by decide +kernel
theorem dX4_waiting_45 : decode cX4_waiting 45 = .ok (.iaload, 1) := by decide +kernel
theorem dX4_waiting_46 : decode cX4_waiting 46 = .ok (.if_icmp .ge 69, 3) := by decide +kernel
theorem dX4_waiting_49 : decode cX4_waiting 49 = .ok (.iload 8, 2) := by decide +kernel
theorem dX4_waiting_51 : decode cX4_waiting 51 = .ok (.aload_n 0, 1) := by decide +kernel
theorem dX4_waiting_52 : decode cX4_waiting 52 = .ok (.getfield 13, 3) := by decide +kernel
theorem dX4_waiting_55 : decode cX4_waiting 55 = .ok (.iload 9, 2) := by decide +kernel
theorem dX4_waiting_57 : decode cX4_waiting 57 = .ok (.baload, 1) := by decide +kernel
theorem dX4_waiting_58 : decode cX4_waiting 58 = .ok (.ifCond .eq 47, 3) := by decide +kernel
theorem dX4_waiting_61 : decode cX4_waiting 61 = .ok (.aload_n 0, 1) := by decide +kernel
theorem dX4_waiting_62 : decode cX4_waiting 62 = .ok (.getfield 17, 3) := by decide +kernel
theorem dX4_waiting_65 : decode cX4_waiting 65 = .ok (.iload 9, 2) := by decide +kernel
theorem dX4_waiting_67 : decode cX4_waiting 67 = .ok (.iaload, 1) := by decide +kernel
theorem dX4_waiting_68 : decode cX4_waiting 68 = .ok (.iload_n 1, 1) := by decide +kernel
theorem dX4_waiting_69 : decode cX4_waiting 69 = .ok (.if_icmp .ne 36, 3) := by decide +kernel
theorem dX4_waiting_72 : decode cX4_waiting 72 = .ok (.aload_n 0, 1) := by decide +kernel
theorem dX4_waiting_73 : decode cX4_waiting 73 = .ok (.getfield 23, 3) := by decide +kernel
theorem dX4_waiting_76 : decode cX4_waiting 76 = .ok (.iload 9, 2) := by decide +kernel
theorem dX4_waiting_78 : decode cX4_waiting 78 = .ok (.laload, 1) := by decide +kernel
theorem dX4_waiting_79 : decode cX4_waiting 79 = .ok (.lload_n 2, 1) := by decide +kernel
theorem dX4_waiting_80 : decode cX4_waiting 80 = .ok (.lcmp, 1) := by decide +kernel
theorem dX4_waiting_81 : decode cX4_waiting 81 = .ok (.ifCond .ne 24, 3) := by decide +kernel
theorem dX4_waiting_84 : decode cX4_waiting 84 = .ok (.aload_n 0, 1) := by decide +kernel
theorem dX4_waiting_85 : decode cX4_waiting 85 = .ok (.getfield 27, 3) := by decide +kernel
theorem dX4_waiting_88 : decode cX4_waiting 88 = .ok (.iload 9, 2) := by decide +kernel
theorem dX4_waiting_90 : decode cX4_waiting 90 = .ok (.laload, 1) := by decide +kernel
theorem dX4_waiting_91 : decode cX4_waiting 91 = .ok (.lload 4, 2) := by decide +kernel
theorem dX4_waiting_93 : decode cX4_waiting 93 = .ok (.lload 6, 2) := by decide +kernel
theorem dX4_waiting_95 : decode cX4_waiting 95 = .ok (.invokestatic 76, 3) := by decide +kernel
theorem dX4_waiting_98 : decode cX4_waiting 98 = .ok (.ifCond .eq 7, 3) := by decide +kernel
theorem dX4_waiting_101 : decode cX4_waiting 101 = .ok (.iconst 1, 1) := by decide +kernel
theorem dX4_waiting_102 : decode cX4_waiting 102 = .ok (.goto 4, 3) := by decide +kernel
theorem dX4_waiting_105 : decode cX4_waiting 105 = .ok (.iconst 0, 1) := by decide +kernel
theorem dX4_waiting_106 : decode cX4_waiting 106 = .ok (.iadd, 1) := by decide +kernel
theorem dX4_waiting_107 : decode cX4_waiting 107 = .ok (.istore 8, 2) := by decide +kernel
theorem dX4_waiting_109 : decode cX4_waiting 109 = .ok (.iinc 9 1, 3) := by decide +kernel
theorem dX4_waiting_112 : decode cX4_waiting 112 = .ok (.goto (-74), 3) := by decide +kernel
theorem dX4_waiting_115 : decode cX4_waiting 115 = .ok (.iload 8, 2) := by decide +kernel
theorem dX4_waiting_117 : decode cX4_waiting 117 = .ok (.ireturn, 1) := by decide +kernel
set_option maxRecDepth 20000 in
theorem ggX4_lay_X4_copy : GoodIn wsX4_lay wsX4_copy := goodIn_r _ [8, 9, 10, 11, 12, 13, 14, 15, 16, 17, 18, 19, 20, 21, 22, 23, 24, 25, 26, 27, 28, 29, 30, 31, 32, 33] (by decide +kernel) (by decide +kernel)
set_option maxRecDepth 20000 in
theorem gX4_lay_X4_copy : GoodIn wsX4_lay (wsV RX4 72 RX4 yX4_copy wsX4_copy) := goodIn_app (goodIn_of _ (by decide +kernel)) ggX4_lay_X4_copy
theorem dX4_lay_0 : decode cX4_lay 0 = .ok (.aload_n 0, 1) := by decide +kernel
theorem dX4_lay_1 : decode cX4_lay 1 = .ok (.getfield 7, 3) := by decide +kernel
theorem dX4_lay_4 : decode cX4_lay 4 = .ok (.iload_n 2, 1) := by decide +kernel
theorem dX4_lay_5 : decode cX4_lay 5 = .ok (.aload_n 0, 1) := by decide +kernel
theorem dX4_lay_6 : decode cX4_lay 6 = .ok (.getfield 7, 3) := by decide +kernel
theorem dX4_lay_9 : decode cX4_lay 9 = .ok (.iload_n 1, 1) := by decide +kernel
theorem dX4_lay_10 : decode cX4_lay 10 = .ok (.iaload, 1) := by decide +kernel
theorem dX4_lay_11 : decode cX4_lay 11 = .ok (.iastore, 1) := by decide +kernel
theorem dX4_lay_12 : decode cX4_lay 12 = .ok (.iconst 0, 1) := by decide +kernel
theorem dX4_lay_13 : decode cX4_lay 13 = .ok (.istore_n 3, 1) := by decide +kernel
theorem dX4_lay_14 : decode cX4_lay 14 = .ok (.iload_n 3, 1) := by decide +kernel
theorem dX4_lay_15 : decode cX4_lay 15 = .ok (.aload_n 0, 1) := by decide +kernel
theorem dX4_lay_16 : decode cX4_lay 16 = .ok (.getfield 7, 3) := by decide +kernel
theorem dX4_lay_19 : decode cX4_lay 19 = .ok (.iload_n 1, 1) := by decide +kernel
theorem dX4_lay_20 : decode cX4_lay 20 = .ok (.iaload, 1) := by decide +kernel
theorem dX4_lay_21 : decode cX4_lay 21 = .ok (.if_icmp .ge 25, 3) := by decide +kernel
theorem dX4_lay_24 : decode cX4_lay 24 = .ok (.aload_n 0, 1) := by decide +kernel
theorem dX4_lay_25 : decode cX4_lay 25 = .ok (.bipush 80, 2) := by decide +kernel
theorem dX4_lay_27 : decode cX4_lay 27 = .ok (.iload_n 1, 1) := by decide +kernel
theorem dX4_lay_28 : decode cX4_lay 28 = .ok (.imul, 1) := by decide +kernel
theorem dX4_lay_29 : decode cX4_lay 29 = .ok (.iload_n 3, 1) := by decide +kernel
theorem dX4_lay_30 : decode cX4_lay 30 = .ok (.iadd, 1) := by decide +kernel
theorem dX4_lay_31 : decode cX4_lay 31 = .ok (.bipush 80, 2) := by decide +kernel
theorem dX4_lay_33 : decode cX4_lay 33 = .ok (.iload_n 2, 1) := by decide +kernel
theorem dX4_lay_34 : decode cX4_lay 34 = .ok (.imul, 1) := by decide +kernel
theorem dX4_lay_35 : decode cX4_lay 35 = .ok (.iload_n 3, 1) := by decide +kernel
theorem dX4_lay_36 : decode cX4_lay 36 = .ok (.iadd, 1) := by decide +kernel
theorem dX4_lay_37 : decode cX4_lay 37 = .ok (.invokevirtual 72, 3) := by decide +kernel
theorem dX4_lay_40 : decode cX4_lay 40 = .ok (.iinc 3 1, 3) := by decide +kernel
theorem dX4_lay_43 : decode cX4_lay 43 = .ok (.goto (-29), 3) := by decide +kernel
theorem dX4_lay_46 : decode cX4_lay 46 = .ok (.aload_n 0, 1) := by decide +kernel
theorem dX4_lay_47 : decode cX4_lay 47 = .ok (.getfield 36, 3) := by decide +kernel
theorem dX4_lay_50 : decode cX4_lay 50 = .ok (.iconst 2, 1) := by decide +kernel
theorem dX4_lay_51 : decode cX4_lay 51 = .ok (.iload_n 2, 1) := by decide +kernel
theorem dX4_lay_52 : decode cX4_lay 52 = .ok (.imul, 1) := by decide +kernel
theorem dX4_lay_53 : decode cX4_lay 53 = .ok (.aload_n 0, 1) := by decide +kernel
theorem dX4_lay_54 : decode cX4_lay 54 = .ok (.getfield 36, 3) := by decide +kernel
theorem dX4_lay_57 : decode cX4_lay 57 = .ok (.iconst 2, 1) := by decide +kernel
theorem dX4_lay_58 : decode cX4_lay 58 = .ok (.iload_n 1, 1) := by decide +kernel
theorem dX4_lay_59 : decode cX4_lay 59 = .ok (.imul, 1) := by decide +kernel
theorem dX4_lay_60 : decode cX4_lay 60 = .ok (.laload, 1) := by decide +kernel
theorem dX4_lay_61 : decode cX4_lay 61 = .ok (.lastore, 1) := by decide +kernel
theorem dX4_lay_62 : decode cX4_lay 62 = .ok (.aload_n 0, 1) := by decide +kernel
theorem dX4_lay_63 : decode cX4_lay 63 = .ok (.getfield 36, 3) := by decide +kernel
theorem dX4_lay_66 : decode cX4_lay 66 = .ok (.iconst 2, 1) := by decide +kernel
theorem dX4_lay_67 : decode cX4_lay 67 = .ok (.iload_n 2, 1) := by decide +kernel
theorem dX4_lay_68 : decode cX4_lay 68 = .ok (.imul, 1) := by decide +kernel
theorem dX4_lay_69 : decode cX4_lay 69 = .ok (.iconst 1, 1) := by decide +kernel
theorem dX4_lay_70 : decode cX4_lay 70 = .ok (.iadd, 1) := by decide +kernel
theorem dX4_lay_71 : decode cX4_lay 71 = .ok (.aload_n 0, 1) := by decide +kernel
theorem dX4_lay_72 : decode cX4_lay 72 = .ok (.getfield 36, 3) := by decide +kernel
theorem dX4_lay_75 : decode cX4_lay 75 = .ok (.iconst 2, 1) := by decide +kernel
theorem dX4_lay_76 : decode cX4_lay 76 = .ok (.iload_n 1, 1) := by decide +kernel
theorem dX4_lay_77 : decode cX4_lay 77 = .ok (.imul, 1) := by decide +kernel
theorem dX4_lay_78 : decode cX4_lay 78 = .ok (.iconst 1, 1) := by decide +kernel
theorem dX4_lay_79 : decode cX4_lay 79 = .ok (.iadd, 1) := by decide +kernel
theorem dX4_lay_80 : decode cX4_lay 80 = .ok (.laload, 1) := by decide +kernel
theorem dX4_lay_81 : decode cX4_lay 81 = .ok (.lastore, 1) := by decide +kernel
theorem dX4_lay_82 : decode cX4_lay 82 = .ok (.iconst 0, 1) := by decide +kernel
theorem dX4_lay_83 : decode cX4_lay 83 = .ok (.istore_n 3, 1) := by decide +kernel
theorem dX4_lay_84 : decode cX4_lay 84 = .ok (.iload_n 3, 1) := by decide +kernel
theorem dX4_lay_85 : decode cX4_lay 85 = .ok (.iconst 4, 1) := by decide +kernel
theorem dX4_lay_86 : decode cX4_lay 86 = .ok (.if_icmp .ge 29, 3) := by decide +kernel
theorem dX4_lay_89 : decode cX4_lay 89 = .ok (.aload_n 0, 1) := by decide +kernel
theorem dX4_lay_90 : decode cX4_lay 90 = .ok (.getfield 39, 3) := by decide +kernel
theorem dX4_lay_93 : decode cX4_lay 93 = .ok (.iconst 4, 1) := by decide +kernel
theorem dX4_lay_94 : decode cX4_lay 94 = .ok (.iload_n 2, 1) := by decide +kernel
theorem dX4_lay_95 : decode cX4_lay 95 = .ok (.imul, 1) := by decide +kernel
theorem dX4_lay_96 : decode cX4_lay 96 = .ok (.iload_n 3, 1) := by decide +kernel
theorem dX4_lay_97 : decode cX4_lay 97 = .ok (.iadd, 1) := by decide +kernel
theorem dX4_lay_98 : decode cX4_lay 98 = .ok (.aload_n 0, 1) := by decide +kernel
theorem dX4_lay_99 : decode cX4_lay 99 = .ok (.getfield 39, 3) := by decide +kernel
theorem dX4_lay_102 : decode cX4_lay 102 = .ok (.iconst 4, 1) := by decide +kernel
theorem dX4_lay_103 : decode cX4_lay 103 = .ok (.iload_n 1, 1) := by decide +kernel
theorem dX4_lay_104 : decode cX4_lay 104 = .ok (.imul, 1) := by decide +kernel
theorem dX4_lay_105 : decode cX4_lay 105 = .ok (.iload_n 3, 1) := by decide +kernel
theorem dX4_lay_106 : decode cX4_lay 106 = .ok (.iadd, 1) := by decide +kernel
theorem dX4_lay_107 : decode cX4_lay 107 = .ok (.iaload, 1) := by decide +kernel
theorem dX4_lay_108 : decode cX4_lay 108 = .ok (.iastore, 1) := by decide +kernel
theorem dX4_lay_109 : decode cX4_lay 109 = .ok (.iinc 3 1, 3) := by decide +kernel
theorem dX4_lay_112 : decode cX4_lay 112 = .ok (.goto (-28), 3) := by decide +kernel
theorem dX4_lay_115 : decode cX4_lay 115 = .ok (.return_, 1) := by decide +kernel
set_option maxRecDepth 20000 in
theorem ggX4_keep_X4_isGood : GoodIn wsX4_keep wsX4_isGood := goodIn_r _ [6, 7, 26, 27, 28, 29, 30, 31, 32, 33, 34, 35, 36, 37, 38, 39, 40, 41, 42, 43] (by decide +kernel) (by decide +kernel)
set_option maxRecDepth 20000 in
theorem gX4_keep_X4_isGood : GoodIn wsX4_keep (wsV RX4 90 RX4 yX4_isGood wsX4_isGood) := goodIn_app (goodIn_of _ (by decide +kernel)) ggX4_keep_X4_isGood
set_option maxRecDepth 20000 in
theorem ggX4_keep_X4_lay : GoodIn wsX4_keep wsX4_lay := goodIn_r _ [11, 12, 13, 14, 15, 16, 17, 5, 18, 19, 20, 21, 22, 23, 24, 25, 26, 27, 28, 29, 30, 31, 32, 33, 34, 35, 36, 37, 38, 39, 40, 41, 42, 43] (by decide +kernel) (by decide +kernel)
set_option maxRecDepth 20000 in
theorem gX4_keep_X4_lay : GoodIn wsX4_keep (wsV RX4 118 RX4 yX4_lay wsX4_lay) := goodIn_app (goodIn_of _ (by decide +kernel)) ggX4_keep_X4_lay
theorem dX4_keep_0 : decode cX4_keep 0 = .ok (.aload_n 0, 1) := by decide +kernel
theorem dX4_keep_1 : decode cX4_keep 1 = .ok (.aload_n 0, 1) := by decide +kernel
theorem dX4_keep_2 : decode cX4_keep 2 = .ok (.getfield 66, 3) := by decide +kernel
theorem dX4_keep_5 : decode cX4_keep 5 = .ok (.iconst 3, 1) := by decide +kernel
theorem dX4_keep_6 : decode cX4_keep 6 = .ok (.if_icmp .ne 7, 3) := by decide +kernel
theorem dX4_keep_9 : decode cX4_keep 9 = .ok (.iconst 1, 1) := by decide +kernel
theorem dX4_keep_10 : decode cX4_keep 10 = .ok (.goto 4, 3) := by decide +kernel
theorem dX4_keep_13 : decode cX4_keep 13 = .ok (.iconst 0, 1) := by decide +kernel
theorem dX4_keep_14 : decode cX4_keep 14 = .ok (.invokevirtual 90, 3) := by decide +kernel
theorem dX4_keep_17 : decode cX4_keep 17 = .ok (.ifCond .ne 5, 3) := by decide +kernel
theorem dX4_keep_20 : decode cX4_keep 20 = .ok (.iconst 0, 1) := by decide +kernel
theorem dX4_keep_21 : decode cX4_keep 21 = .ok (.ireturn, 1) := by decide +kernel
theorem dX4_keep_22 : decode cX4_keep 22 = .ok (.aload_n 0, 1) := by decide +kernel
theorem dX4_keep_23 : decode cX4_keep 23 = .ok (.iconst 0, 1) := by decide +kernel
theorem dX4_keep_24 : decode cX4_keep 24 = .ok (.aload_n 0, 1) := by decide +kernel
theorem dX4_keep_25 : decode cX4_keep 25 = .ok (.getfield 66, 3) := by decide +kernel
theorem dX4_keep_28 : decode cX4_keep 28 = .ok (.iconst 1, 1) := by decide +kernel
theorem dX4_keep_29 : decode cX4_keep 29 = .ok (.iadd, 1) := by decide +kernel
theorem dX4_keep_30 : decode cX4_keep 30 = .ok (.invokevirtual 118, 3) := by decide +kernel
theorem dX4_keep_33 : decode cX4_keep 33 = .ok (.aload_n 0, 1) := by decide +kernel
theorem dX4_keep_34 : decode cX4_keep 34 = .ok (.dup, 1) := by decide +kernel
theorem dX4_keep_35 : decode cX4_keep 35 = .ok (.getfield 66, 3) := by decide +kernel
theorem dX4_keep_38 : decode cX4_keep 38 = .ok (.iconst 1, 1) := by decide +kernel
theorem dX4_keep_39 : decode cX4_keep 39 = .ok (.iadd, 1) := by decide +kernel
theorem dX4_keep_40 : decode cX4_keep 40 = .ok (.putfield 66, 3) := by decide +kernel
theorem dX4_keep_43 : decode cX4_keep 43 = .ok (.aload_n 0, 1) := by decide +kernel
theorem dX4_keep_44 : decode cX4_keep 44 = .ok (.getfield 66, 3) := by decide +kernel
theorem dX4_keep_47 : decode cX4_keep 47 = .ok (.iconst 1, 1) := by decide +kernel
theorem dX4_keep_48 : decode cX4_keep 48 = .ok (.isub, 1) := by decide +kernel
theorem dX4_keep_49 : decode cX4_keep 49 = .ok (.ireturn, 1) := by decide +kernel
set_option maxRecDepth 20000 in
theorem ggX4_back_X4_isIn : GoodIn wsX4_back wsX4_isIn := goodIn_r _ [5] (by decide +kernel) (by decide +kernel)
set_option maxRecDepth 20000 in
theorem gX4_back_X4_isIn : GoodIn wsX4_back (va_wsS RX4 76 yX4_isIn wsX4_isIn) := goodIn_app (goodIn_of _ (by decide +kernel)) ggX4_back_X4_isIn
set_option maxRecDepth 20000 in
theorem ggX4_back_X4_isGood : GoodIn wsX4_back wsX4_isGood := goodIn_r _ [9, 10, 33, 34, 35, 36, 37, 38, 39, 40, 41, 42, 43, 44, 45, 46, 47, 48, 49, 50] (by decide +kernel) (by decide +kernel)
set_option maxRecDepth 20000 in
theorem gX4_back_X4_isGood : GoodIn wsX4_back (wsV RX4 90 RX4 yX4_isGood wsX4_isGood) := goodIn_app (goodIn_of _ (by decide +kernel)) ggX4_back_X4_isGood
set_option maxRecDepth 20000 in
theorem ggX4_back_X4_lay : GoodIn wsX4_back wsX4_lay := goodIn_r _ [14, 15, 16, 17, 18, 19, 20, 4, 21, 22, 23, 24, 25, 26, 27, 28, 33, 34, 35, 36, 37, 38, 39, 40, 41, 42, 43, 44, 45, 46, 47, 48, 49, 50] (by decide +kernel) (by decide +kernel)
set_option maxRecDepth 20000 in
theorem gX4_back_X4_lay : GoodIn wsX4_back (wsV RX4 118 RX4 yX4_lay wsX4_lay) := goodIn_app (goodIn_of _ (by decide +kernel)) ggX4_back_X4_lay
set_option maxRecDepth 20000 in
theorem ggX4_back_X4_many : GoodIn wsX4_back wsX4_many := goodIn_r _ [32, 15, 22, 33, 34, 35, 36, 37, 38, 39, 40, 41, 42, 43, 44, 45, 46, 47, 48, 49, 50] (by decide +kernel) (by decide +kernel)
set_option maxRecDepth 20000 in
theorem gX4_back_X4_many : GoodIn wsX4_back (wsV RX4 86 RX4 yX4_many wsX4_many) := goodIn_app (goodIn_of _ (by decide +kernel)) ggX4_back_X4_many
theorem dX4_back_0 : decode cX4_back 0 = .ok (.aload_n 0, 1) := by decide +kernel
theorem dX4_back_1 : decode cX4_back 1 = .ok (.iload_n 1, 1) := by decide +kernel
theorem dX4_back_2 : decode cX4_back 2 = .ok (.i2l, 1) := by decide +kernel
theorem dX4_back_3 : decode cX4_back 3 = .ok (.lconst 0, 1) := by decide +kernel
theorem dX4_back_4 : decode cX4_back 4 = .ok (.aload_n 0, 1) := by decide +kernel
theorem dX4_back_5 : decode cX4_back 5 = .ok (.getfield 66, 3) := by decide +kernel
theorem dX4_back_8 : decode cX4_back 8 = .ok (.iconst 1, 1) := by decide +kernel
theorem dX4_back_9 : decode cX4_back 9 = .ok (.isub, 1) := by decide +kernel
theorem dX4_back_10 : decode cX4_back 10 = .ok (.i2l, 1) := by decide +kernel
theorem dX4_back_11 : decode cX4_back 11 = .ok (.invokestatic 76, 3) := by decide +kernel
theorem dX4_back_14 : decode cX4_back 14 = .ok (.ifCond .eq 7, 3) := by decide +kernel
theorem dX4_back_17 : decode cX4_back 17 = .ok (.iconst 0, 1) := by decide +kernel
theorem dX4_back_18 : decode cX4_back 18 = .ok (.goto 4, 3) := by decide +kernel
theorem dX4_back_21 : decode cX4_back 21 = .ok (.iconst 1, 1) := by decide +kernel
theorem dX4_back_22 : decode cX4_back 22 = .ok (.invokevirtual 90, 3) := by decide +kernel
theorem dX4_back_25 : decode cX4_back 25 = .ok (.ifCond .ne 5, 3) := by decide +kernel
theorem dX4_back_28 : decode cX4_back 28 = .ok (.iconst 0, 1) := by decide +kernel
theorem dX4_back_29 : decode cX4_back 29 = .ok (.ireturn, 1) := by decide +kernel
theorem dX4_back_30 : decode cX4_back 30 = .ok (.aload_n 0, 1) := by decide +kernel
theorem dX4_back_31 : decode cX4_back 31 = .ok (.iload_n 1, 1) := by decide +kernel
theorem dX4_back_32 : decode cX4_back 32 = .ok (.iconst 1, 1) := by decide +kernel
theorem dX4_back_33 : decode cX4_back 33 = .ok (.iadd, 1) := by decide +kernel
theorem dX4_back_34 : decode cX4_back 34 = .ok (.iconst 0, 1) := by decide +kernel
theorem dX4_back_35 : decode cX4_back 35 = .ok (.invokevirtual 118, 3) := by decide +kernel
theorem dX4_back_38 : decode cX4_back 38 = .ok (.aload_n 0, 1) := by decide +kernel
theorem dX4_back_39 : decode cX4_back 39 = .ok (.iconst 1, 1) := by decide +kernel
theorem dX4_back_40 : decode cX4_back 40 = .ok (.invokevirtual 86, 3) := by decide +kernel
theorem dX4_back_43 : decode cX4_back 43 = .ok (.ireturn, 1) := by decide +kernel
set_option maxRecDepth 20000 in
theorem ggX4_forget_X4_isGood : GoodIn wsX4_forget wsX4_isGood := goodIn_r _ [6, 7, 8, 9, 10, 11, 12, 13, 14, 15, 16, 17, 18, 19, 20, 21, 22, 23, 24, 25] (by decide +kernel) (by decide +kernel)
set_option maxRecDepth 20000 in
theorem gX4_forget_X4_isGood : GoodIn wsX4_forget (wsV RX4 90 RX4 yX4_isGood wsX4_isGood) := goodIn_app (goodIn_of _ (by decide +kernel)) ggX4_forget_X4_isGood
theorem dX4_forget_0 : decode cX4_forget 0 = .ok (.aload_n 0, 1) := by decide +kernel
theorem dX4_forget_1 : decode cX4_forget 1 = .ok (.aload_n 0, 1) := by decide +kernel
theorem dX4_forget_2 : decode cX4_forget 2 = .ok (.getfield 66, 3) := by decide +kernel
theorem dX4_forget_5 : decode cX4_forget 5 = .ok (.ifCond .ne 7, 3) := by decide +kernel
theorem dX4_forget_8 : decode cX4_forget 8 = .ok (.iconst 1, 1) := by decide +kernel
theorem dX4_forget_9 : decode cX4_forget 9 = .ok (.goto 4, 3) := by decide +kernel
theorem dX4_forget_12 : decode cX4_forget 12 = .ok (.iconst 0, 1) := by decide +kernel
theorem dX4_forget_13 : decode cX4_forget 13 = .ok (.invokevirtual 90, 3) := by decide +kernel
theorem dX4_forget_16 : decode cX4_forget 16 = .ok (.ifCond .ne 5, 3) := by decide +kernel
theorem dX4_forget_19 : decode cX4_forget 19 = .ok (.iconst 0, 1) := by decide +kernel
theorem dX4_forget_20 : decode cX4_forget 20 = .ok (.ireturn, 1) := by decide +kernel
theorem dX4_forget_21 : decode cX4_forget 21 = .ok (.aload_n 0, 1) := by decide +kernel
theorem dX4_forget_22 : decode cX4_forget 22 = .ok (.dup, 1) := by decide +kernel
theorem dX4_forget_23 : decode cX4_forget 23 = .ok (.getfield 66, 3) := by decide +kernel
theorem dX4_forget_26 : decode cX4_forget 26 = .ok (.iconst 1, 1) := by decide +kernel
theorem dX4_forget_27 : decode cX4_forget 27 = .ok (.isub, 1) := by decide +kernel
theorem dX4_forget_28 : decode cX4_forget 28 = .ok (.putfield 66, 3) := by decide +kernel
theorem dX4_forget_31 : decode cX4_forget 31 = .ok (.aload_n 0, 1) := by decide +kernel
theorem dX4_forget_32 : decode cX4_forget 32 = .ok (.getfield 66, 3) := by decide +kernel
theorem dX4_forget_35 : decode cX4_forget 35 = .ok (.ireturn, 1) := by decide +kernel
theorem dX4_taskOf_0 : decode cX4_taskOf 0 = .ok (.lload_n 0, 1) := by decide +kernel
theorem dX4_taskOf_1 : decode cX4_taskOf 1 = .ok (.ldc2_w 121, 3) := by decide +kernel
theorem dX4_taskOf_4 : decode cX4_taskOf 4 = .ok (.lrem, 1) := by decide +kernel
theorem dX4_taskOf_5 : decode cX4_taskOf 5 = .ok (.l2i, 1) := by decide +kernel
theorem dX4_taskOf_6 : decode cX4_taskOf 6 = .ok (.istore_n 3, 1) := by decide +kernel
theorem dX4_taskOf_7 : decode cX4_taskOf 7 = .ok (.iload_n 3, 1) := by decide +kernel
theorem dX4_taskOf_8 : decode cX4_taskOf 8 = .ok (.ifCond .ge 11, 3) := by decide +kernel
theorem dX4_taskOf_11 : decode cX4_taskOf 11 = .ok (.iload_n 3, 1) := by decide +kernel
theorem dX4_taskOf_12 : decode cX4_taskOf 12 = .ok (.sipush 128, 3) := by decide +kernel
theorem dX4_taskOf_15 : decode cX4_taskOf 15 = .ok (.iadd, 1) := by decide +kernel
theorem dX4_taskOf_16 : decode cX4_taskOf 16 = .ok (.goto 4, 3) := by decide +kernel
theorem dX4_taskOf_19 : decode cX4_taskOf 19 = .ok (.iload_n 3, 1) := by decide +kernel
theorem dX4_taskOf_20 : decode cX4_taskOf 20 = .ok (.iload_n 2, 1) := by decide +kernel
theorem dX4_taskOf_21 : decode cX4_taskOf 21 = .ok (.imul, 1) := by decide +kernel
theorem dX4_taskOf_22 : decode cX4_taskOf 22 = .ok (.sipush 128, 3) := by decide +kernel
theorem dX4_taskOf_25 : decode cX4_taskOf 25 = .ok (.idiv, 1) := by decide +kernel
theorem dX4_taskOf_26 : decode cX4_taskOf 26 = .ok (.ireturn, 1) := by decide +kernel
set_option maxRecDepth 20000 in
theorem ggX4_task_X4_isIn : GoodIn wsX4_task wsX4_isIn := goodIn_r _ [5] (by decide +kernel) (by decide +kernel)
set_option maxRecDepth 20000 in
theorem gX4_task_X4_isIn : GoodIn wsX4_task (va_wsS RX4 76 yX4_isIn wsX4_isIn) := goodIn_app (goodIn_of _ (by decide +kernel)) ggX4_task_X4_isIn
set_option maxRecDepth 20000 in
theorem ggX4_task_X4_isGood : GoodIn wsX4_task wsX4_isGood := goodIn_r _ [9, 10, 14, 15, 16, 17, 18, 19, 20, 21, 22, 23, 24, 25, 26, 27, 28, 29, 30, 31] (by decide +kernel) (by decide +kernel)
set_option maxRecDepth 20000 in
theorem gX4_task_X4_isGood : GoodIn wsX4_task (wsV RX4 90 RX4 yX4_isGood wsX4_isGood) := goodIn_app (goodIn_of _ (by decide +kernel)) ggX4_task_X4_isGood
set_option maxRecDepth 20000 in
theorem ggX4_task_X4_taskOf : GoodIn wsX4_task wsX4_taskOf := goodIn_r _ [13, 1] (by decide +kernel) (by decide +kernel)
set_option maxRecDepth 20000 in
theorem gX4_task_X4_taskOf : GoodIn wsX4_task (va_wsS RX4 123 yX4_taskOf wsX4_taskOf) := goodIn_app (goodIn_of _ (by decide +kernel)) ggX4_task_X4_taskOf
theorem dX4_task_0 : decode cX4_task 0 = .ok (.aload_n 0, 1) := by decide +kernel
theorem dX4_task_1 : decode cX4_task 1 = .ok (.iload_n 3, 1) := by decide +kernel
theorem dX4_task_2 : decode cX4_task 2 = .ok (.i2l, 1) := by decide +kernel
theorem dX4_task_3 : decode cX4_task 3 = .ok (.lconst 1, 1) := by decide +kernel
theorem dX4_task_4 : decode cX4_task 4 = .ok (.ldc2_w 121, 3) := by decide +kernel
theorem dX4_task_7 : decode cX4_task 7 = .ok (.invokestatic 76, 3) := by decide +kernel
theorem dX4_task_10 : decode cX4_task 10 = .ok (.ifCond .eq 7, 3) := by decide +kernel
theorem dX4_task_13 : decode cX4_task 13 = .ok (.iconst 0, 1) := by decide +kernel
theorem dX4_task_14 : decode cX4_task 14 = .ok (.goto 4, 3) := by decide +kernel
theorem dX4_task_17 : decode cX4_task 17 = .ok (.iconst 1, 1) := by decide +kernel
theorem dX4_task_18 : decode cX4_task 18 = .ok (.invokevirtual 90, 3) := by decide +kernel
theorem dX4_task_21 : decode cX4_task 21 = .ok (.ifCond .eq 11, 3) := by decide +kernel
theorem dX4_task_24 : decode cX4_task 24 = .ok (.lload_n 1, 1) := by decide +kernel
theorem dX4_task_25 : decode cX4_task 25 = .ok (.iload_n 3, 1) := by decide +kernel
theorem dX4_task_26 : decode cX4_task 26 = .ok (.invokestatic 123, 3) := by decide +kernel
theorem dX4_task_29 : decode cX4_task 29 = .ok (.goto 4, 3) := by decide +kernel
theorem dX4_task_32 : decode cX4_task 32 = .ok (.iconst 0, 1) := by decide +kernel
theorem dX4_task_33 : decode cX4_task 33 = .ok (.ireturn, 1) := by decide +kernel
set_option maxRecDepth 20000 in
theorem ggX4_load_X4_isIn : GoodIn wsX4_load wsX4_isIn := goodIn_r _ [7] (by decide +kernel) (by decide +kernel)
set_option maxRecDepth 20000 in
theorem gX4_load_X4_isIn : GoodIn wsX4_load (va_wsS RX4 76 yX4_isIn wsX4_isIn) := goodIn_app (goodIn_of _ (by decide +kernel)) ggX4_load_X4_isIn
set_option maxRecDepth 20000 in
theorem ggX4_load_X4_isGood : GoodIn wsX4_load wsX4_isGood := goodIn_r _ [11, 12, 16, 17, 18, 19, 20, 21, 22, 23, 24, 25, 26, 27, 28, 29, 30, 31, 32, 33] (by decide +kernel) (by decide +kernel)
set_option maxRecDepth 20000 in
theorem gX4_load_X4_isGood : GoodIn wsX4_load (wsV RX4 90 RX4 yX4_isGood wsX4_isGood) := goodIn_app (goodIn_of _ (by decide +kernel)) ggX4_load_X4_isGood
set_option maxRecDepth 20000 in
theorem ggX4_load_X4_taskOf : GoodIn wsX4_load wsX4_taskOf := goodIn_r _ [15, 1] (by decide +kernel) (by decide +kernel)
set_option maxRecDepth 20000 in
theorem gX4_load_X4_taskOf : GoodIn wsX4_load (va_wsS RX4 123 yX4_taskOf wsX4_taskOf) := goodIn_app (goodIn_of _ (by decide +kernel)) ggX4_load_X4_taskOf
theorem dX4_load_0 : decode cX4_load 0 = .ok (.aload_n 0, 1) := by decide +kernel
theorem dX4_load_1 : decode cX4_load 1 = .ok (.iload_n 2, 1) := by decide +kernel
theorem dX4_load_2 : decode cX4_load 2 = .ok (.i2l, 1) := by decide +kernel
theorem dX4_load_3 : decode cX4_load 3 = .ok (.lconst 1, 1) := by decide +kernel
theorem dX4_load_4 : decode cX4_load 4 = .ok (.ldc2_w 121, 3) := by decide +kernel
theorem dX4_load_7 : decode cX4_load 7 = .ok (.invokestatic 76, 3) := by decide +kernel
theorem dX4_load_10 : decode cX4_load 10 = .ok (.ifCond .eq 20, 3) := by decide +kernel
theorem dX4_load_13 : decode cX4_load 13 = .ok (.iload_n 1, 1) := by decide +kernel
theorem dX4_load_14 : decode cX4_load 14 = .ok (.i2l, 1) := by decide +kernel
theorem dX4_load_15 : decode cX4_load 15 = .ok (.lconst 0, 1) := by decide +kernel
theorem dX4_load_16 : decode cX4_load 16 = .ok (.iload_n 2, 1) := by decide +kernel
theorem dX4_load_17 : decode cX4_load 17 = .ok (.iconst 1, 1) := by decide +kernel
theorem dX4_load_18 : decode cX4_load 18 = .ok (.isub, 1) := by decide +kernel
theorem dX4_load_19 : decode cX4_load 19 = .ok (.i2l, 1) := by decide +kernel
theorem dX4_load_20 : decode cX4_load 20 = .ok (.invokestatic 76, 3) := by decide +kernel
theorem dX4_load_23 : decode cX4_load 23 = .ok (.ifCond .eq 7, 3) := by decide +kernel
theorem dX4_load_26 : decode cX4_load 26 = .ok (.iconst 0, 1) := by decide +kernel
theorem dX4_load_27 : decode cX4_load 27 = .ok (.goto 4, 3) := by decide +kernel
theorem dX4_load_30 : decode cX4_load 30 = .ok (.iconst 1, 1) := by decide +kernel
theorem dX4_load_31 : decode cX4_load 31 = .ok (.invokevirtual 90, 3) := by decide +kernel
theorem dX4_load_34 : decode cX4_load 34 = .ok (.ifCond .ne 5, 3) := by decide +kernel
theorem dX4_load_37 : decode cX4_load 37 = .ok (.iconst 0, 1) := by decide +kernel
theorem dX4_load_38 : decode cX4_load 38 = .ok (.ireturn, 1) := by decide +kernel
theorem dX4_load_39 : decode cX4_load 39 = .ok (.iconst 0, 1) := by decide +kernel
theorem dX4_load_40 : decode cX4_load 40 = .ok (.istore_n 3, 1) := by decide +kernel
theorem dX4_load_41 : decode cX4_load 41 = .ok (.iconst 0, 1) := by decide +kernel
theorem dX4_load_42 : decode cX4_load 42 = .ok (.istore 4, 2) := by decide +kernel
theorem dX4_load_44 : decode cX4_load 44 = .ok (.iload 4, 2) := by decide +kernel
theorem dX4_load_46 : decode cX4_load 46 = .ok (.aload_n 0, 1) := by decide +kernel
theorem dX4_load_47 : decode cX4_load 47 = .ok (.getfield 7, 3) := by decide +kernel
theorem dX4_load_50 : decode cX4_load 50 = .ok (.iconst 0, 1) := by decide +kernel
theorem dX4_load_51 : decode cX4_load 51 = .ok (.iaload, 1) := by decide +kernel
theorem dX4_load_52 : decode cX4_load 52 = .ok (.if_icmp .ge 32, 3) := by decide +kernel
theorem dX4_load_55 : decode cX4_load 55 = .ok (.iload_n 3, 1) := by decide +kernel
theorem dX4_load_56 : decode cX4_load 56 = .ok (.aload_n 0, 1) := by decide +kernel
theorem dX4_load_57 : decode cX4_load 57 = .ok (.getfield 23, 3) := by decide +kernel
theorem dX4_load_60 : decode cX4_load 60 = .ok (.iload 4, 2) := by decide +kernel
theorem dX4_load_62 : decode cX4_load 62 = .ok (.laload, 1) := by decide +kernel
theorem dX4_load_63 : decode cX4_load 63 = .ok (.iload_n 2, 1) := by decide +kernel
theorem dX4_load_64 : decode cX4_load 64 = .ok (.invokestatic 123, 3) := by decide +kernel
theorem dX4_load_67 : decode cX4_load 67 = .ok (.iload_n 1, 1) := by decide +kernel
theorem dX4_load_68 : decode cX4_load 68 = .ok (.if_icmp .ne 7, 3) := by decide +kernel
theorem dX4_load_71 : decode cX4_load 71 = .ok (.iconst 1, 1) := by decide +kernel
theorem dX4_load_72 : decode cX4_load 72 = .ok (.goto 4, 3) := by decide +kernel
theorem dX4_load_75 : decode cX4_load 75 = .ok (.iconst 0, 1) := by decide +kernel
theorem dX4_load_76 : decode cX4_load 76 = .ok (.iadd, 1) := by decide +kernel
theorem dX4_load_77 : decode cX4_load 77 = .ok (.istore_n 3, 1) := by decide +kernel
theorem dX4_load_78 : decode cX4_load 78 = .ok (.iinc 4 1, 3) := by decide +kernel
theorem dX4_load_81 : decode cX4_load 81 = .ok (.goto (-37), 3) := by decide +kernel
theorem dX4_load_84 : decode cX4_load 84 = .ok (.iload_n 3, 1) := by decide +kernel
theorem dX4_load_85 : decode cX4_load 85 = .ok (.ireturn, 1) := by decide +kernel
set_option maxRecDepth 20000 in
theorem ggX4_of_X4_isIn : GoodIn wsX4_of wsX4_isIn := goodIn_r _ [8] (by decide +kernel) (by decide +kernel)
set_option maxRecDepth 20000 in
theorem gX4_of_X4_isIn : GoodIn wsX4_of (va_wsS RX4 76 yX4_isIn wsX4_isIn) := goodIn_app (goodIn_of _ (by decide +kernel)) ggX4_of_X4_isIn
set_option maxRecDepth 20000 in
theorem ggX4_of_X4_isGood : GoodIn wsX4_of wsX4_isGood := goodIn_r _ [12, 13, 20, 21, 22, 23, 24, 25, 26, 27, 28, 29, 30, 31, 32, 33, 34, 35, 36, 37] (by decide +kernel) (by decide +kernel)
set_option maxRecDepth 20000 in
theorem gX4_of_X4_isGood : GoodIn wsX4_of (wsV RX4 90 RX4 yX4_isGood wsX4_isGood) := goodIn_app (goodIn_of _ (by decide +kernel)) ggX4_of_X4_isGood
set_option maxRecDepth 20000 in
theorem ggX4_of_X4_many : GoodIn wsX4_of wsX4_many := goodIn_r _ [17, 18, 19, 20, 21, 22, 23, 24, 25, 26, 27, 28, 29, 30, 31, 32, 33, 34, 35, 36, 37] (by decide +kernel) (by decide +kernel)
set_option maxRecDepth 20000 in
theorem gX4_of_X4_many : GoodIn wsX4_of (wsV RX4 86 RX4 yX4_many wsX4_many) := goodIn_app (goodIn_of _ (by decide +kernel)) ggX4_of_X4_many
theorem dX4_of_0 : decode cX4_of 0 = .ok (.aload_n 0, 1) := by decide +kernel
theorem dX4_of_1 : decode cX4_of 1 = .ok (.iload_n 1, 1) := by decide +kernel
theorem dX4_of_2 : decode cX4_of 2 = .ok (.i2l, 1) := by decide +kernel
theorem dX4_of_3 : decode cX4_of 3 = .ok (.lconst 0, 1) := by decide +kernel
theorem dX4_of_4 : decode cX4_of 4 = .ok (.ldc2_w 127, 3) := by decide +kernel
theorem dX4_of_7 : decode cX4_of 7 = .ok (.invokestatic 76, 3) := by decide +kernel
theorem dX4_of_10 : decode cX4_of 10 = .ok (.ifCond .eq 7, 3) := by decide +kernel
theorem dX4_of_13 : decode cX4_of 13 = .ok (.iconst 0, 1) := by decide +kernel
theorem dX4_of_14 : decode cX4_of 14 = .ok (.goto 4, 3) := by decide +kernel
theorem dX4_of_17 : decode cX4_of 17 = .ok (.iconst 1, 1) := by decide +kernel
theorem dX4_of_18 : decode cX4_of 18 = .ok (.invokevirtual 90, 3) := by decide +kernel
theorem dX4_of_21 : decode cX4_of 21 = .ok (.ifCond .ne 5, 3) := by decide +kernel
theorem dX4_of_24 : decode cX4_of 24 = .ok (.iconst 0, 1) := by decide +kernel
theorem dX4_of_25 : decode cX4_of 25 = .ok (.ireturn, 1) := by decide +kernel
theorem dX4_of_26 : decode cX4_of 26 = .ok (.iload_n 1, 1) := by decide +kernel
theorem dX4_of_27 : decode cX4_of 27 = .ok (.iconst 2, 1) := by decide +kernel
theorem dX4_of_28 : decode cX4_of 28 = .ok (.if_icmp .ge 17, 3) := by decide +kernel
theorem dX4_of_31 : decode cX4_of 31 = .ok (.aload_n 0, 1) := by decide +kernel
theorem dX4_of_32 : decode cX4_of 32 = .ok (.iload_n 1, 1) := by decide +kernel
theorem dX4_of_33 : decode cX4_of 33 = .ok (.ifCond .ne 7, 3) := by decide +kernel
theorem dX4_of_36 : decode cX4_of 36 = .ok (.iconst 1, 1) := by decide +kernel
theorem dX4_of_37 : decode cX4_of 37 = .ok (.goto 4, 3) := by decide +kernel
theorem dX4_of_40 : decode cX4_of 40 = .ok (.iconst 0, 1) := by decide +kernel
theorem dX4_of_41 : decode cX4_of 41 = .ok (.invokevirtual 86, 3) := by decide +kernel
theorem dX4_of_44 : decode cX4_of 44 = .ok (.ireturn, 1) := by decide +kernel
theorem dX4_of_45 : decode cX4_of 45 = .ok (.iload_n 1, 1) := by decide +kernel
end
section
theorem dX4_of_46 : decode cX4_of 46 = .ok (.iconst 5, 1) := by decide +kernel
theorem dX4_of_47 : decode cX4_of 47 = .ok (.if_icmp .ge 14, 3) := by decide +kernel
theorem dX4_of_50 : decode cX4_of 50 = .ok (.aload_n 0, 1) := by decide +kernel
theorem dX4_of_51 : decode cX4_of 51 = .ok (.getfield 39, 3) := by decide +kernel
theorem dX4_of_54 : decode cX4_of 54 = .ok (.iload_n 1, 1) := by decide +kernel
theorem dX4_of_55 : decode cX4_of 55 = .ok (.iconst 2, 1) := by decide +kernel
theorem dX4_of_56 : decode cX4_of 56 = .ok (.isub, 1) := by decide +kernel
theorem dX4_of_57 : decode cX4_of 57 = .ok (.iaload, 1) := by decide +kernel
theorem dX4_of_58 : decode cX4_of 58 = .ok (.goto 19, 3) := by decide +kernel
theorem dX4_of_61 : decode cX4_of 61 = .ok (.iload_n 1, 1) := by decide +kernel
theorem dX4_of_62 : decode cX4_of 62 = .ok (.iconst 5, 1) := by decide +kernel
theorem dX4_of_63 : decode cX4_of 63 = .ok (.if_icmp .ne 10, 3) := by decide +kernel
theorem dX4_of_66 : decode cX4_of 66 = .ok (.aload_n 0, 1) := by decide +kernel
theorem dX4_of_67 : decode cX4_of 67 = .ok (.getfield 66, 3) := by decide +kernel
theorem dX4_of_70 : decode cX4_of 70 = .ok (.goto 7, 3) := by decide +kernel
theorem dX4_of_73 : decode cX4_of 73 = .ok (.aload_n 0, 1) := by decide +kernel
theorem dX4_of_74 : decode cX4_of 74 = .ok (.getfield 69, 3) := by decide +kernel
theorem dX4_of_77 : decode cX4_of 77 = .ok (.ireturn, 1) := by decide +kernel
set_option maxRecDepth 20000 in
theorem ggX4_now_X4_isIn : GoodIn wsX4_now wsX4_isIn := goodIn_r _ [5] (by decide +kernel) (by decide +kernel)
set_option maxRecDepth 20000 in
theorem gX4_now_X4_isIn : GoodIn wsX4_now (va_wsS RX4 76 yX4_isIn wsX4_isIn) := goodIn_app (goodIn_of _ (by decide +kernel)) ggX4_now_X4_isIn
set_option maxRecDepth 20000 in
theorem ggX4_now_X4_isGood : GoodIn wsX4_now wsX4_isGood := goodIn_r _ [9, 10, 11, 12, 13, 14, 15, 16, 17, 18, 19, 20, 21, 22, 23, 24, 25, 26, 27, 28] (by decide +kernel) (by decide +kernel)
set_option maxRecDepth 20000 in
theorem gX4_now_X4_isGood : GoodIn wsX4_now (wsV RX4 90 RX4 yX4_isGood wsX4_isGood) := goodIn_app (goodIn_of _ (by decide +kernel)) ggX4_now_X4_isGood
theorem dX4_now_0 : decode cX4_now 0 = .ok (.aload_n 0, 1) := by decide +kernel
theorem dX4_now_1 : decode cX4_now 1 = .ok (.iload_n 1, 1) := by decide +kernel
theorem dX4_now_2 : decode cX4_now 2 = .ok (.i2l, 1) := by decide +kernel
theorem dX4_now_3 : decode cX4_now 3 = .ok (.lconst 0, 1) := by decide +kernel
theorem dX4_now_4 : decode cX4_now 4 = .ok (.lconst 1, 1) := by decide +kernel
theorem dX4_now_5 : decode cX4_now 5 = .ok (.invokestatic 76, 3) := by decide +kernel
theorem dX4_now_8 : decode cX4_now 8 = .ok (.ifCond .eq 7, 3) := by decide +kernel
theorem dX4_now_11 : decode cX4_now 11 = .ok (.iconst 0, 1) := by decide +kernel
theorem dX4_now_12 : decode cX4_now 12 = .ok (.goto 4, 3) := by decide +kernel
theorem dX4_now_15 : decode cX4_now 15 = .ok (.iconst 1, 1) := by decide +kernel
theorem dX4_now_16 : decode cX4_now 16 = .ok (.invokevirtual 90, 3) := by decide +kernel
theorem dX4_now_19 : decode cX4_now 19 = .ok (.ifCond .eq 12, 3) := by decide +kernel
theorem dX4_now_22 : decode cX4_now 22 = .ok (.aload_n 0, 1) := by decide +kernel
theorem dX4_now_23 : decode cX4_now 23 = .ok (.getfield 36, 3) := by decide +kernel
theorem dX4_now_26 : decode cX4_now 26 = .ok (.iload_n 1, 1) := by decide +kernel
theorem dX4_now_27 : decode cX4_now 27 = .ok (.laload, 1) := by decide +kernel
theorem dX4_now_28 : decode cX4_now 28 = .ok (.goto 4, 3) := by decide +kernel
theorem dX4_now_31 : decode cX4_now 31 = .ok (.lconst 0, 1) := by decide +kernel
theorem dX4_now_32 : decode cX4_now 32 = .ok (.lreturn, 1) := by decide +kernel
theorem dJ9_floorMod_f86c9_0 : decode cJ9_floorMod_f86c9 0 = .ok (.lload_n 0, 1) := by decide +kernel
theorem dJ9_floorMod_f86c9_1 : decode cJ9_floorMod_f86c9 1 = .ok (.lload_n 2, 1) := by decide +kernel
theorem dJ9_floorMod_f86c9_2 : decode cJ9_floorMod_f86c9 2 = .ok (.lrem, 1) := by decide +kernel
theorem dJ9_floorMod_f86c9_3 : decode cJ9_floorMod_f86c9 3 = .ok (.lstore 4, 2) := by decide +kernel
theorem dJ9_floorMod_f86c9_5 : decode cJ9_floorMod_f86c9 5 = .ok (.lload_n 0, 1) := by decide +kernel
theorem dJ9_floorMod_f86c9_6 : decode cJ9_floorMod_f86c9 6 = .ok (.lload_n 2, 1) := by decide +kernel
theorem dJ9_floorMod_f86c9_7 : decode cJ9_floorMod_f86c9 7 = .ok (.lxor, 1) := by decide +kernel
theorem dJ9_floorMod_f86c9_8 : decode cJ9_floorMod_f86c9 8 = .ok (.lconst 0, 1) := by decide +kernel
theorem dJ9_floorMod_f86c9_9 : decode cJ9_floorMod_f86c9 9 = .ok (.lcmp, 1) := by decide +kernel
theorem dJ9_floorMod_f86c9_10 : decode cJ9_floorMod_f86c9 10 = .ok (.ifCond .ge 15, 3) := by decide +kernel
theorem dJ9_floorMod_f86c9_13 : decode cJ9_floorMod_f86c9 13 = .ok (.lload 4, 2) := by decide +kernel
theorem dJ9_floorMod_f86c9_15 : decode cJ9_floorMod_f86c9 15 = .ok (.lconst 0, 1) := by decide +kernel
theorem dJ9_floorMod_f86c9_16 : decode cJ9_floorMod_f86c9 16 = .ok (.lcmp, 1) := by decide +kernel
theorem dJ9_floorMod_f86c9_17 : decode cJ9_floorMod_f86c9 17 = .ok (.ifCond .eq 8, 3) := by decide +kernel
theorem dJ9_floorMod_f86c9_20 : decode cJ9_floorMod_f86c9 20 = .ok (.lload 4, 2) := by decide +kernel
theorem dJ9_floorMod_f86c9_22 : decode cJ9_floorMod_f86c9 22 = .ok (.lload_n 2, 1) := by decide +kernel
theorem dJ9_floorMod_f86c9_23 : decode cJ9_floorMod_f86c9 23 = .ok (.ladd, 1) := by decide +kernel
theorem dJ9_floorMod_f86c9_24 : decode cJ9_floorMod_f86c9 24 = .ok (.lreturn, 1) := by decide +kernel
theorem dJ9_floorMod_f86c9_25 : decode cJ9_floorMod_f86c9 25 = .ok (.lload 4, 2) := by decide +kernel
theorem dJ9_floorMod_f86c9_27 : decode cJ9_floorMod_f86c9 27 = .ok (.lreturn, 1) := by decide +kernel
theorem dJ9_min_7cf53_0 : decode cJ9_min_7cf53 0 = .ok (.iload_n 0, 1) := by decide +kernel
theorem dJ9_min_7cf53_1 : decode cJ9_min_7cf53 1 = .ok (.iload_n 1, 1) := by decide +kernel
theorem dJ9_min_7cf53_2 : decode cJ9_min_7cf53 2 = .ok (.if_icmp .gt 7, 3) := by decide +kernel
theorem dJ9_min_7cf53_5 : decode cJ9_min_7cf53 5 = .ok (.iload_n 0, 1) := by decide +kernel
theorem dJ9_min_7cf53_6 : decode cJ9_min_7cf53 6 = .ok (.goto 4, 3) := by decide +kernel
theorem dJ9_min_7cf53_9 : decode cJ9_min_7cf53 9 = .ok (.iload_n 1, 1) := by decide +kernel
theorem dJ9_min_7cf53_10 : decode cJ9_min_7cf53 10 = .ok (.ireturn, 1) := by decide +kernel
theorem dJ7_fill_d0a16_0 : decode cJ7_fill_d0a16 0 = .ok (.iconst 0, 1) := by decide +kernel
theorem dJ7_fill_d0a16_1 : decode cJ7_fill_d0a16 1 = .ok (.istore_n 3, 1) := by decide +kernel
theorem dJ7_fill_d0a16_2 : decode cJ7_fill_d0a16 2 = .ok (.aload_n 0, 1) := by decide +kernel
theorem dJ7_fill_d0a16_3 : decode cJ7_fill_d0a16 3 = .ok (.arraylength, 1) := by decide +kernel
theorem dJ7_fill_d0a16_4 : decode cJ7_fill_d0a16 4 = .ok (.istore 4, 2) := by decide +kernel
theorem dJ7_fill_d0a16_6 : decode cJ7_fill_d0a16 6 = .ok (.iload_n 3, 1) := by decide +kernel
theorem dJ7_fill_d0a16_7 : decode cJ7_fill_d0a16 7 = .ok (.iload 4, 2) := by decide +kernel
theorem dJ7_fill_d0a16_9 : decode cJ7_fill_d0a16 9 = .ok (.if_icmp .ge 13, 3) := by decide +kernel
theorem dJ7_fill_d0a16_12 : decode cJ7_fill_d0a16 12 = .ok (.aload_n 0, 1) := by decide +kernel
theorem dJ7_fill_d0a16_13 : decode cJ7_fill_d0a16 13 = .ok (.iload_n 3, 1) := by decide +kernel
theorem dJ7_fill_d0a16_14 : decode cJ7_fill_d0a16 14 = .ok (.lload_n 1, 1) := by decide +kernel
theorem dJ7_fill_d0a16_15 : decode cJ7_fill_d0a16 15 = .ok (.lastore, 1) := by decide +kernel
theorem dJ7_fill_d0a16_16 : decode cJ7_fill_d0a16 16 = .ok (.iinc 3 1, 3) := by decide +kernel
theorem dJ7_fill_d0a16_19 : decode cJ7_fill_d0a16 19 = .ok (.goto (-13), 3) := by decide +kernel
theorem dJ7_fill_d0a16_22 : decode cJ7_fill_d0a16 22 = .ok (.return_, 1) := by decide +kernel
theorem dJ7_copyOf_59c91_0 : decode cJ7_copyOf_59c91 0 = .ok (.iload_n 1, 1) := by decide +kernel
theorem dJ7_copyOf_59c91_1 : decode cJ7_copyOf_59c91 1 = .ok (.aload_n 0, 1) := by decide +kernel
theorem dJ7_copyOf_59c91_2 : decode cJ7_copyOf_59c91 2 = .ok (.arraylength, 1) := by decide +kernel
theorem dJ7_copyOf_59c91_3 : decode cJ7_copyOf_59c91 3 = .ok (.if_icmp .ne 11, 3) := by decide +kernel
theorem dJ7_copyOf_59c91_6 : decode cJ7_copyOf_59c91 6 = .ok (.aload_n 0, 1) := by decide +kernel
theorem dJ7_copyOf_59c91_7 : decode cJ7_copyOf_59c91 7 = .ok (.invokevirtual 316, 3) := by decide +kernel
theorem dJ7_copyOf_59c91_10 : decode cJ7_copyOf_59c91 10 = .ok (.checkcast 317, 3) := by decide +kernel
theorem dJ7_copyOf_59c91_13 : decode cJ7_copyOf_59c91 13 = .ok (.areturn, 1) := by decide +kernel
theorem dJ7_copyOf_59c91_14 : decode cJ7_copyOf_59c91 14 = .ok (.iload_n 1, 1) := by decide +kernel
theorem dJ7_copyOf_59c91_15 : decode cJ7_copyOf_59c91 15 = .ok (.newarray .int, 2) := by decide +kernel
theorem dJ7_copyOf_59c91_17 : decode cJ7_copyOf_59c91 17 = .ok (.astore_n 2, 1) := by decide +kernel
theorem dJ7_copyOf_59c91_18 : decode cJ7_copyOf_59c91 18 = .ok (.aload_n 0, 1) := by decide +kernel
theorem dJ7_copyOf_59c91_19 : decode cJ7_copyOf_59c91 19 = .ok (.iconst 0, 1) := by decide +kernel
theorem dJ7_copyOf_59c91_20 : decode cJ7_copyOf_59c91 20 = .ok (.aload_n 2, 1) := by decide +kernel
theorem dJ7_copyOf_59c91_21 : decode cJ7_copyOf_59c91 21 = .ok (.iconst 0, 1) := by decide +kernel
theorem dJ7_copyOf_59c91_22 : decode cJ7_copyOf_59c91 22 = .ok (.aload_n 0, 1) := by decide +kernel
theorem dJ7_copyOf_59c91_23 : decode cJ7_copyOf_59c91 23 = .ok (.arraylength, 1) := by decide +kernel
theorem dJ7_copyOf_59c91_24 : decode cJ7_copyOf_59c91 24 = .ok (.iload_n 1, 1) := by decide +kernel
theorem dJ7_copyOf_59c91_25 : decode cJ7_copyOf_59c91 25 = .ok (.invokestatic 304, 3) := by decide +kernel
theorem dJ7_copyOf_59c91_28 : decode cJ7_copyOf_59c91 28 = .ok (.invokestatic 150, 3) := by decide +kernel
theorem dJ7_copyOf_59c91_31 : decode cJ7_copyOf_59c91 31 = .ok (.aload_n 2, 1) := by decide +kernel
theorem dJ7_copyOf_59c91_32 : decode cJ7_copyOf_59c91 32 = .ok (.areturn, 1) := by decide +kernel
theorem dJ7_copyOf_c38d5_0 : decode cJ7_copyOf_c38d5 0 = .ok (.iload_n 1, 1) := by decide +kernel
theorem dJ7_copyOf_c38d5_1 : decode cJ7_copyOf_c38d5 1 = .ok (.aload_n 0, 1) := by decide +kernel
theorem dJ7_copyOf_c38d5_2 : decode cJ7_copyOf_c38d5 2 = .ok (.arraylength, 1) := by decide +kernel
theorem dJ7_copyOf_c38d5_3 : decode cJ7_copyOf_c38d5 3 = .ok (.if_icmp .ne 11, 3) := by decide +kernel
theorem dJ7_copyOf_c38d5_6 : decode cJ7_copyOf_c38d5 6 = .ok (.aload_n 0, 1) := by decide +kernel
theorem dJ7_copyOf_c38d5_7 : decode cJ7_copyOf_c38d5 7 = .ok (.invokevirtual 319, 3) := by decide +kernel
theorem dJ7_copyOf_c38d5_10 : decode cJ7_copyOf_c38d5 10 = .ok (.checkcast 320, 3) := by decide +kernel
theorem dJ7_copyOf_c38d5_13 : decode cJ7_copyOf_c38d5 13 = .ok (.areturn, 1) := by decide +kernel
theorem dJ7_copyOf_c38d5_14 : decode cJ7_copyOf_c38d5 14 = .ok (.iload_n 1, 1) := by decide +kernel
theorem dJ7_copyOf_c38d5_15 : decode cJ7_copyOf_c38d5 15 = .ok (.newarray .long, 2) := by decide +kernel
theorem dJ7_copyOf_c38d5_17 : decode cJ7_copyOf_c38d5 17 = .ok (.astore_n 2, 1) := by decide +kernel
theorem dJ7_copyOf_c38d5_18 : decode cJ7_copyOf_c38d5 18 = .ok (.aload_n 0, 1) := by decide +kernel
theorem dJ7_copyOf_c38d5_19 : decode cJ7_copyOf_c38d5 19 = .ok (.iconst 0, 1) := by decide +kernel
theorem dJ7_copyOf_c38d5_20 : decode cJ7_copyOf_c38d5 20 = .ok (.aload_n 2, 1) := by decide +kernel
theorem dJ7_copyOf_c38d5_21 : decode cJ7_copyOf_c38d5 21 = .ok (.iconst 0, 1) := by decide +kernel
theorem dJ7_copyOf_c38d5_22 : decode cJ7_copyOf_c38d5 22 = .ok (.aload_n 0, 1) := by decide +kernel
theorem dJ7_copyOf_c38d5_23 : decode cJ7_copyOf_c38d5 23 = .ok (.arraylength, 1) := by decide +kernel
theorem dJ7_copyOf_c38d5_24 : decode cJ7_copyOf_c38d5 24 = .ok (.iload_n 1, 1) := by decide +kernel
theorem dJ7_copyOf_c38d5_25 : decode cJ7_copyOf_c38d5 25 = .ok (.invokestatic 304, 3) := by decide +kernel
theorem dJ7_copyOf_c38d5_28 : decode cJ7_copyOf_c38d5 28 = .ok (.invokestatic 150, 3) := by decide +kernel
theorem dJ7_copyOf_c38d5_31 : decode cJ7_copyOf_c38d5 31 = .ok (.aload_n 2, 1) := by decide +kernel
theorem dJ7_copyOf_c38d5_32 : decode cJ7_copyOf_c38d5 32 = .ok (.areturn, 1) := by decide +kernel
set_option maxRecDepth 20000 in
theorem ggL_set_X3_set : GoodIn wsL_set wsX3_set := goodIn_ca (goodIn_ca (goodIn_r _ [7, 8, 9, 10, 11, 12, 13, 14, 15, 16, 6, 17, 18, 19, 20, 21, 22, 23, 24, 25, 26, 27, 28, 29, 30, 31, 32, 33, 34, 35, 36, 37, 38, 39, 40, 41, 42, 43, 44, 45, 46, 47, 48, 49, 50, 51, 52, 53, 54, 55, 56, 57, 58, 59, 60, 61, 62, 63, 64, 65, 66, 67, 68, 69, 70, 71, 72, 73, 74, 75, 76, 77, 78, 79] (by decide +kernel) (by decide +kernel)) (goodIn_sub (fun _ h => List.mem_cons_of_mem _ (List.mem_append_left _ (List.mem_append_right _ h))) (by decide +kernel))) (goodIn_sub (fun _ h => List.mem_cons_of_mem _ (List.mem_append_right _ h)) (by decide +kernel))
set_option maxRecDepth 20000 in
theorem gL_set_X3_set : GoodIn wsL_set (wsV RL 7 RX3 yX3_set wsX3_set) := goodIn_app (goodIn_of _ (by decide +kernel)) ggL_set_X3_set
theorem dL_set_0 : decode cL_set 0 = .ok (.aload 9, 2) := by decide +kernel
theorem dL_set_2 : decode cL_set 2 = .ok (.iconst 0, 1) := by decide +kernel
theorem dL_set_3 : decode cL_set 3 = .ok (.aload_n 0, 1) := by decide +kernel
theorem dL_set_4 : decode cL_set 4 = .ok (.iload_n 1, 1) := by decide +kernel
theorem dL_set_5 : decode cL_set 5 = .ok (.lload_n 2, 1) := by decide +kernel
theorem dL_set_6 : decode cL_set 6 = .ok (.lload 4, 2) := by decide +kernel
theorem dL_set_8 : decode cL_set 8 = .ok (.lload 6, 2) := by decide +kernel
theorem dL_set_10 : decode cL_set 10 = .ok (.iload 8, 2) := by decide +kernel
theorem dL_set_12 : decode cL_set 12 = .ok (.invokevirtual 7, 3) := by decide +kernel
theorem dL_set_15 : decode cL_set 15 = .ok (.i2l, 1) := by decide +kernel
theorem dL_set_16 : decode cL_set 16 = .ok (.lastore, 1) := by decide +kernel
theorem dL_set_17 : decode cL_set 17 = .ok (.goto 11, 3) := by decide +kernel
theorem dL_set_20 : decode cL_set 20 = .ok (.astore 10, 2) := by decide +kernel
theorem dL_set_22 : decode cL_set 22 = .ok (.iconst 1, 1) := by decide +kernel
theorem dL_set_23 : decode cL_set 23 = .ok (.ireturn, 1) := by decide +kernel
theorem dL_set_24 : decode cL_set 24 = .ok (.astore 10, 2) := by decide +kernel
theorem dL_set_26 : decode cL_set 26 = .ok (.iconst 2, 1) := by decide +kernel
theorem dL_set_27 : decode cL_set 27 = .ok (.ireturn, 1) := by decide +kernel
theorem dL_set_28 : decode cL_set 28 = .ok (.iconst 0, 1) := by decide +kernel
theorem dL_set_29 : decode cL_set 29 = .ok (.ireturn, 1) := by decide +kernel
set_option maxRecDepth 20000 in
theorem ggL_move_X3_move : GoodIn wsL_move wsX3_move := goodIn_ca (goodIn_ca (goodIn_r _ [7, 8, 9, 10, 11, 6, 12, 13, 14, 15, 16, 17, 18, 19, 20, 21, 22, 23, 24, 25, 26, 27, 28, 29, 30, 31, 32, 33, 34, 35, 36, 37, 38, 39, 40, 41, 42, 43, 44, 45, 46, 47, 48, 49, 50, 51, 52, 53, 54, 55, 56, 57, 58, 59, 60, 61, 62, 63, 64, 65, 66, 67, 68, 69, 70, 71, 72, 73, 74, 75, 76, 77, 78] (by decide +kernel) (by decide +kernel)) (goodIn_sub (fun _ h => List.mem_cons_of_mem _ (List.mem_append_left _ (List.mem_append_right _ h))) (by decide +kernel))) (goodIn_sub (fun _ h => List.mem_cons_of_mem _ (List.mem_append_right _ h)) (by decide +kernel))
set_option maxRecDepth 20000 in
theorem gL_move_X3_move : GoodIn wsL_move (wsV RL 17 RX3 yX3_move wsX3_move) := goodIn_app (goodIn_of _ (by decide +kernel)) ggL_move_X3_move
theorem dL_move_0 : decode cL_move 0 = .ok (.aload 4, 2) := by decide +kernel
theorem dL_move_2 : decode cL_move 2 = .ok (.iconst 0, 1) := by decide +kernel
theorem dL_move_3 : decode cL_move 3 = .ok (.aload_n 0, 1) := by decide +kernel
theorem dL_move_4 : decode cL_move 4 = .ok (.iload_n 1, 1) := by decide +kernel
theorem dL_move_5 : decode cL_move 5 = .ok (.lload_n 2, 1) := by decide +kernel
theorem dL_move_6 : decode cL_move 6 = .ok (.invokevirtual 17, 3) := by decide +kernel
theorem dL_move_9 : decode cL_move 9 = .ok (.lastore, 1) := by decide +kernel
theorem dL_move_10 : decode cL_move 10 = .ok (.goto 11, 3) := by decide +kernel
theorem dL_move_13 : decode cL_move 13 = .ok (.astore 5, 2) := by decide +kernel
theorem dL_move_15 : decode cL_move 15 = .ok (.iconst 1, 1) := by decide +kernel
theorem dL_move_16 : decode cL_move 16 = .ok (.ireturn, 1) := by decide +kernel
theorem dL_move_17 : decode cL_move 17 = .ok (.astore 5, 2) := by decide +kernel
theorem dL_move_19 : decode cL_move 19 = .ok (.iconst 2, 1) := by decide +kernel
theorem dL_move_20 : decode cL_move 20 = .ok (.ireturn, 1) := by decide +kernel
theorem dL_move_21 : decode cL_move 21 = .ok (.iconst 0, 1) := by decide +kernel
theorem dL_move_22 : decode cL_move 22 = .ok (.ireturn, 1) := by decide +kernel
set_option maxRecDepth 20000 in
theorem ggL_row_X3_row : GoodIn wsL_row wsX3_row := goodIn_ca (goodIn_ca (goodIn_r _ [7, 8, 9, 10, 11, 12, 13, 14, 15, 16, 6, 17, 18, 19, 20, 21, 22, 23, 24, 25, 26, 27, 28, 29, 30, 31, 32, 33, 34, 35, 36, 37, 38, 39, 40, 41, 42, 43, 44, 45, 46, 47, 48, 49, 50, 51, 52, 53, 54, 55, 56, 57, 58, 59, 60, 61, 62, 63, 64, 65, 66, 67, 68, 69, 70, 71, 72] (by decide +kernel) (by decide +kernel)) (goodIn_sub (fun _ h => List.mem_cons_of_mem _ (List.mem_append_left _ (List.mem_append_right _ h))) (by decide +kernel))) (goodIn_sub (fun _ h => List.mem_cons_of_mem _ (List.mem_append_right _ h)) (by decide +kernel))
set_option maxRecDepth 20000 in
theorem gL_row_X3_row : GoodIn wsL_row (wsV RL 23 RX3 yX3_row wsX3_row) := goodIn_app (goodIn_of _ (by decide +kernel)) ggL_row_X3_row
theorem dL_row_0 : decode cL_row 0 = .ok (.aload 5, 2) := by decide +kernel
theorem dL_row_2 : decode cL_row 2 = .ok (.iconst 0, 1) := by decide +kernel
theorem dL_row_3 : decode cL_row 3 = .ok (.aload_n 0, 1) := by decide +kernel
theorem dL_row_4 : decode cL_row 4 = .ok (.lload_n 1, 1) := by decide +kernel
theorem dL_row_5 : decode cL_row 5 = .ok (.lload_n 3, 1) := by decide +kernel
theorem dL_row_6 : decode cL_row 6 = .ok (.invokevirtual 23, 3) := by decide +kernel
theorem dL_row_9 : decode cL_row 9 = .ok (.i2l, 1) := by decide +kernel
theorem dL_row_10 : decode cL_row 10 = .ok (.lastore, 1) := by decide +kernel
theorem dL_row_11 : decode cL_row 11 = .ok (.goto 11, 3) := by decide +kernel
theorem dL_row_14 : decode cL_row 14 = .ok (.astore 6, 2) := by decide +kernel
theorem dL_row_16 : decode cL_row 16 = .ok (.iconst 1, 1) := by decide +kernel
theorem dL_row_17 : decode cL_row 17 = .ok (.ireturn, 1) := by decide +kernel
theorem dL_row_18 : decode cL_row 18 = .ok (.astore 6, 2) := by decide +kernel
theorem dL_row_20 : decode cL_row 20 = .ok (.iconst 2, 1) := by decide +kernel
theorem dL_row_21 : decode cL_row 21 = .ok (.ireturn, 1) := by decide +kernel
theorem dL_row_22 : decode cL_row 22 = .ok (.iconst 0, 1) := by decide +kernel
theorem dL_row_23 : decode cL_row 23 = .ok (.ireturn, 1) := by decide +kernel
set_option maxRecDepth 20000 in
theorem ggL_pass_X3_pass : GoodIn wsL_pass wsX3_pass := goodIn_ca (goodIn_r _ [6, 7, 8, 9, 10, 11, 12, 13, 14, 5, 15, 16, 17, 18, 19, 20, 21, 22, 23, 24, 25, 26, 27, 28, 29, 30, 31, 32, 33, 34, 35, 36, 37, 38, 39, 40, 41, 42, 43, 44, 45, 46, 47, 48, 49, 50, 51, 52, 53, 54, 55, 56, 57, 58, 59, 60, 61, 62, 63, 64, 65, 66, 67, 68, 69, 70, 71, 72, 73, 74, 75, 76, 77, 78, 79, 80, 81, 82, 83, 84, 85, 86, 87, 88, 89, 90, 91, 92, 93, 94, 95, 96, 97, 98, 99, 100, 101, 102, 103, 104, 105, 106, 107, 108, 109, 110, 111, 112, 113, 114, 115, 116, 117, 118, 119, 120, 121, 122, 123, 124, 125, 126, 127, 128, 129, 130, 131, 132, 133, 134, 135, 136, 137, 138, 139, 140, 141, 142, 143, 144, 145, 146, 147, 148, 149, 150, 151, 152, 153, 154, 155, 156, 157, 158, 159, 160, 161] (by decide +kernel) (by decide +kernel)) (goodIn_sub (fun _ h => List.mem_cons_of_mem _ (List.mem_append_right _ h)) (by decide +kernel))
set_option maxRecDepth 20000 in
theorem gL_pass_X3_pass : GoodIn wsL_pass (wsV RL 27 RX3 yX3_pass wsX3_pass) := goodIn_app (goodIn_of _ (by decide +kernel)) ggL_pass_X3_pass
theorem dL_pass_0 : decode cL_pass 0 = .ok (.aload 4, 2) := by decide +kernel
theorem dL_pass_2 : decode cL_pass 2 = .ok (.iconst 0, 1) := by decide +kernel
theorem dL_pass_3 : decode cL_pass 3 = .ok (.aload_n 0, 1) := by decide +kernel
theorem dL_pass_4 : decode cL_pass 4 = .ok (.iload_n 1, 1) := by decide +kernel
theorem dL_pass_5 : decode cL_pass 5 = .ok (.lload_n 2, 1) := by decide +kernel
theorem dL_pass_6 : decode cL_pass 6 = .ok (.invokevirtual 27, 3) := by decide +kernel
theorem dL_pass_9 : decode cL_pass 9 = .ok (.i2l, 1) := by decide +kernel
theorem dL_pass_10 : decode cL_pass 10 = .ok (.lastore, 1) := by decide +kernel
theorem dL_pass_11 : decode cL_pass 11 = .ok (.goto 7, 3) := by decide +kernel
theorem dL_pass_14 : decode cL_pass 14 = .ok (.astore 5, 2) := by decide +kernel
theorem dL_pass_16 : decode cL_pass 16 = .ok (.iconst 1, 1) := by decide +kernel
theorem dL_pass_17 : decode cL_pass 17 = .ok (.ireturn, 1) := by decide +kernel
theorem dL_pass_18 : decode cL_pass 18 = .ok (.iconst 0, 1) := by decide +kernel
theorem dL_pass_19 : decode cL_pass 19 = .ok (.ireturn, 1) := by decide +kernel
set_option maxRecDepth 20000 in
theorem ggL_done_X3_done : GoodIn wsL_done wsX3_done := goodIn_ca (goodIn_ca (goodIn_r _ [7, 8, 9, 10, 11, 12, 13, 14, 15, 16, 17, 18, 6, 19, 20, 21, 22, 23, 24, 25, 26, 27, 28, 29, 30, 31] (by decide +kernel) (by decide +kernel)) (goodIn_sub (fun _ h => List.mem_cons_of_mem _ (List.mem_append_left _ (List.mem_append_right _ h))) (by decide +kernel))) (goodIn_sub (fun _ h => List.mem_cons_of_mem _ (List.mem_append_right _ h)) (by decide +kernel))
set_option maxRecDepth 20000 in
theorem gL_done_X3_done : GoodIn wsL_done (wsV RL 31 RX3 yX3_done wsX3_done) := goodIn_app (goodIn_of _ (by decide +kernel)) ggL_done_X3_done
theorem dL_done_0 : decode cL_done 0 = .ok (.aload_n 3, 1) := by decide +kernel
theorem dL_done_1 : decode cL_done 1 = .ok (.iconst 0, 1) := by decide +kernel
theorem dL_done_2 : decode cL_done 2 = .ok (.aload_n 0, 1) := by decide +kernel
theorem dL_done_3 : decode cL_done 3 = .ok (.iload_n 1, 1) := by decide +kernel
theorem dL_done_4 : decode cL_done 4 = .ok (.iload_n 2, 1) := by decide +kernel
theorem dL_done_5 : decode cL_done 5 = .ok (.invokevirtual 31, 3) := by decide +kernel
theorem dL_done_8 : decode cL_done 8 = .ok (.lastore, 1) := by decide +kernel
theorem dL_done_9 : decode cL_done 9 = .ok (.goto 11, 3) := by decide +kernel
theorem dL_done_12 : decode cL_done 12 = .ok (.astore 4, 2) := by decide +kernel
theorem dL_done_14 : decode cL_done 14 = .ok (.iconst 1, 1) := by decide +kernel
theorem dL_done_15 : decode cL_done 15 = .ok (.ireturn, 1) := by decide +kernel
theorem dL_done_16 : decode cL_done 16 = .ok (.astore 4, 2) := by decide +kernel
theorem dL_done_18 : decode cL_done 18 = .ok (.iconst 2, 1) := by decide +kernel
theorem dL_done_19 : decode cL_done 19 = .ok (.ireturn, 1) := by decide +kernel
theorem dL_done_20 : decode cL_done 20 = .ok (.iconst 0, 1) := by decide +kernel
theorem dL_done_21 : decode cL_done 21 = .ok (.ireturn, 1) := by decide +kernel
set_option maxRecDepth 20000 in
theorem ggL_told_X3_told : GoodIn wsL_told wsX3_told := goodIn_ca (goodIn_ca (goodIn_r _ [7, 8, 9, 10, 11, 12, 13, 14, 15, 16, 17, 6, 18, 19, 20, 21, 22, 23, 24, 25, 26, 27, 28, 29, 30, 31, 32, 33, 34, 35, 36, 37, 38, 39, 40, 41, 42, 43, 44, 45, 46, 47, 48, 49, 50, 51, 52, 53] (by decide +kernel) (by decide +kernel)) (goodIn_sub (fun _ h => List.mem_cons_of_mem _ (List.mem_append_left _ (List.mem_append_right _ h))) (by decide +kernel))) (goodIn_sub (fun _ h => List.mem_cons_of_mem _ (List.mem_append_right _ h)) (by decide +kernel))
set_option maxRecDepth 20000 in
theorem gL_told_X3_told : GoodIn wsL_told (wsV RL 35 RX3 yX3_told wsX3_told) := goodIn_app (goodIn_of _ (by decide +kernel)) ggL_told_X3_told
theorem dL_told_0 : decode cL_told 0 = .ok (.aload_n 3, 1) := by decide +kernel
theorem dL_told_1 : decode cL_told 1 = .ok (.iconst 0, 1) := by decide +kernel
theorem dL_told_2 : decode cL_told 2 = .ok (.aload_n 0, 1) := by decide +kernel
theorem dL_told_3 : decode cL_told 3 = .ok (.iload_n 1, 1) := by decide +kernel
theorem dL_told_4 : decode cL_told 4 = .ok (.iload_n 2, 1) := by decide +kernel
theorem dL_told_5 : decode cL_told 5 = .ok (.invokevirtual 35, 3) := by decide +kernel
theorem dL_told_8 : decode cL_told 8 = .ok (.lastore, 1) := by decide +kernel
theorem dL_told_9 : decode cL_told 9 = .ok (.goto 11, 3) := by decide +kernel
theorem dL_told_12 : decode cL_told 12 = .ok (.astore 4, 2) := by decide +kernel
theorem dL_told_14 : decode cL_told 14 = .ok (.iconst 1, 1) := by decide +kernel
theorem dL_told_15 : decode cL_told 15 = .ok (.ireturn, 1) := by decide +kernel
theorem dL_told_16 : decode cL_told 16 = .ok (.astore 4, 2) := by decide +kernel
theorem dL_told_18 : decode cL_told 18 = .ok (.iconst 2, 1) := by decide +kernel
theorem dL_told_19 : decode cL_told 19 = .ok (.ireturn, 1) := by decide +kernel
theorem dL_told_20 : decode cL_told 20 = .ok (.iconst 0, 1) := by decide +kernel
theorem dL_told_21 : decode cL_told 21 = .ok (.ireturn, 1) := by decide +kernel
set_option maxRecDepth 20000 in
theorem ggL_next_X3_next : GoodIn wsL_next wsX3_next := goodIn_ca (goodIn_r _ [6, 7, 8, 9, 10, 11, 12, 5, 13, 14, 15, 16, 17, 18, 19, 20, 21, 22, 23, 24, 25, 26, 27, 28, 29, 30, 31, 32, 33, 34, 35, 36, 37, 38, 39, 40, 41, 42] (by decide +kernel) (by decide +kernel)) (goodIn_sub (fun _ h => List.mem_cons_of_mem _ (List.mem_append_right _ h)) (by decide +kernel))
set_option maxRecDepth 20000 in
theorem gL_next_X3_next : GoodIn wsL_next (wsV RL 38 RX3 yX3_next wsX3_next) := goodIn_app (goodIn_of _ (by decide +kernel)) ggL_next_X3_next
theorem dL_next_0 : decode cL_next 0 = .ok (.aload_n 2, 1) := by decide +kernel
theorem dL_next_1 : decode cL_next 1 = .ok (.iconst 0, 1) := by decide +kernel
theorem dL_next_2 : decode cL_next 2 = .ok (.aload_n 0, 1) := by decide +kernel
theorem dL_next_3 : decode cL_next 3 = .ok (.iload_n 1, 1) := by decide +kernel
theorem dL_next_4 : decode cL_next 4 = .ok (.invokevirtual 38, 3) := by decide +kernel
theorem dL_next_7 : decode cL_next 7 = .ok (.i2l, 1) := by decide +kernel
theorem dL_next_8 : decode cL_next 8 = .ok (.lastore, 1) := by decide +kernel
theorem dL_next_9 : decode cL_next 9 = .ok (.goto 6, 3) := by decide +kernel
theorem dL_next_12 : decode cL_next 12 = .ok (.astore_n 3, 1) := by decide +kernel
theorem dL_next_13 : decode cL_next 13 = .ok (.iconst 1, 1) := by decide +kernel
theorem dL_next_14 : decode cL_next 14 = .ok (.ireturn, 1) := by decide +kernel
theorem dL_next_15 : decode cL_next 15 = .ok (.iconst 0, 1) := by decide +kernel
theorem dL_next_16 : decode cL_next 16 = .ok (.ireturn, 1) := by decide +kernel
set_option maxRecDepth 20000 in
theorem ggL_waiting_X3_waiting : GoodIn wsL_waiting wsX3_waiting := goodIn_ca (goodIn_r _ [6, 7, 8, 9, 10, 11, 12, 5, 13, 14, 15, 16, 17, 18, 19, 20, 21, 22, 23, 24, 25, 26, 27, 28, 29, 30, 31, 32, 33, 34, 35, 36, 37, 38, 39, 40, 41, 42] (by decide +kernel) (by decide +kernel)) (goodIn_sub (fun _ h => List.mem_cons_of_mem _ (List.mem_append_right _ h)) (by decide +kernel))
set_option maxRecDepth 20000 in
theorem gL_waiting_X3_waiting : GoodIn wsL_waiting (wsV RL 42 RX3 yX3_waiting wsX3_waiting) := goodIn_app (goodIn_of _ (by decide +kernel)) ggL_waiting_X3_waiting
theorem dL_waiting_0 : decode cL_waiting 0 = .ok (.aload 8, 2) := by decide +kernel
theorem dL_waiting_2 : decode cL_waiting 2 = .ok (.iconst 0, 1) := by decide +kernel
theorem dL_waiting_3 : decode cL_waiting 3 = .ok (.aload_n 0, 1) := by decide +kernel
theorem dL_waiting_4 : decode cL_waiting 4 = .ok (.iload_n 1, 1) := by decide +kernel
theorem dL_waiting_5 : decode cL_waiting 5 = .ok (.lload_n 2, 1) := by decide +kernel
theorem dL_waiting_6 : decode cL_waiting 6 = .ok (.lload 4, 2) := by decide +kernel
theorem dL_waiting_8 : decode cL_waiting 8 = .ok (.lload 6, 2) := by decide +kernel
theorem dL_waiting_10 : decode cL_waiting 10 = .ok (.invokevirtual 42, 3) := by decide +kernel
theorem dL_waiting_13 : decode cL_waiting 13 = .ok (.i2l, 1) := by decide +kernel
theorem dL_waiting_14 : decode cL_waiting 14 = .ok (.lastore, 1) := by decide +kernel
theorem dL_waiting_15 : decode cL_waiting 15 = .ok (.goto 7, 3) := by decide +kernel
theorem dL_waiting_18 : decode cL_waiting 18 = .ok (.astore 9, 2) := by decide +kernel
theorem dL_waiting_20 : decode cL_waiting 20 = .ok (.iconst 1, 1) := by decide +kernel
theorem dL_waiting_21 : decode cL_waiting 21 = .ok (.ireturn, 1) := by decide +kernel
theorem dL_waiting_22 : decode cL_waiting 22 = .ok (.iconst 0, 1) := by decide +kernel
theorem dL_waiting_23 : decode cL_waiting 23 = .ok (.ireturn, 1) := by decide +kernel
set_option maxRecDepth 20000 in
theorem ggL_keep_X3_keep : GoodIn wsL_keep wsX3_keep := goodIn_ca (goodIn_r _ [6, 7, 8, 9, 10, 11, 12, 13, 14, 15, 16, 17, 18, 19, 20, 21, 22, 23, 24, 25, 26, 27, 28, 29, 30, 31, 32, 33, 34, 35, 36, 37, 38, 39, 40, 41, 42, 43, 44, 45, 46, 47, 48, 49, 50, 51, 52, 53, 54, 55, 56, 57, 58, 59, 60, 61, 62, 63, 64, 65, 66, 67, 68, 69, 70, 71, 72, 73, 74, 75, 76, 77, 78, 79, 80, 81, 82, 83, 84, 85, 86] (by decide +kernel) (by decide +kernel)) (goodIn_sub (fun _ h => List.mem_cons_of_mem _ (List.mem_append_right _ h)) (by decide +kernel))
set_option maxRecDepth 20000 in
theorem gL_keep_X3_keep : GoodIn wsL_keep (wsV RL 46 RX3 yX3_keep wsX3_keep) := goodIn_app (goodIn_of _ (by decide +kernel)) ggL_keep_X3_keep
theorem dL_keep_0 : decode cL_keep 0 = .ok (.aload_n 1, 1) := by decide +kernel
theorem dL_keep_1 : decode cL_keep 1 = .ok (.iconst 0, 1) := by decide +kernel
theorem dL_keep_2 : decode cL_keep 2 = .ok (.aload_n 0, 1) := by decide +kernel
theorem dL_keep_3 : decode cL_keep 3 = .ok (.invokevirtual 46, 3) := by decide +kernel
theorem dL_keep_6 : decode cL_keep 6 = .ok (.i2l, 1) := by decide +kernel
theorem dL_keep_7 : decode cL_keep 7 = .ok (.lastore, 1) := by decide +kernel
theorem dL_keep_8 : decode cL_keep 8 = .ok (.goto 6, 3) := by decide +kernel
theorem dL_keep_11 : decode cL_keep 11 = .ok (.astore_n 2, 1) := by decide +kernel
theorem dL_keep_12 : decode cL_keep 12 = .ok (.iconst 1, 1) := by decide +kernel
theorem dL_keep_13 : decode cL_keep 13 = .ok (.ireturn, 1) := by decide +kernel
theorem dL_keep_14 : decode cL_keep 14 = .ok (.iconst 0, 1) := by decide +kernel
theorem dL_keep_15 : decode cL_keep 15 = .ok (.ireturn, 1) := by decide +kernel
set_option maxRecDepth 20000 in
theorem ggL_back_X3_back : GoodIn wsL_back wsX3_back := goodIn_ca (goodIn_r _ [6, 7, 8, 9, 10, 11, 12, 13, 14, 15, 16, 17, 18, 19, 20, 21, 22, 23, 24, 25, 26, 27, 28, 29, 30, 31, 32, 33, 34, 35, 36, 37, 38, 39, 40, 41, 42, 43, 44, 45, 46, 47, 48, 49, 50, 51, 52, 53, 54, 55, 56, 57, 58, 59, 60, 61, 62] (by decide +kernel) (by decide +kernel)) (goodIn_sub (fun _ h => List.mem_cons_of_mem _ (List.mem_append_right _ h)) (by decide +kernel))
set_option maxRecDepth 20000 in
theorem gL_back_X3_back : GoodIn wsL_back (wsV RL 50 RX3 yX3_back wsX3_back) := goodIn_app (goodIn_of _ (by decide +kernel)) ggL_back_X3_back
theorem dL_back_0 : decode cL_back 0 = .ok (.aload_n 2, 1) := by decide +kernel
theorem dL_back_1 : decode cL_back 1 = .ok (.iconst 0, 1) := by decide +kernel
theorem dL_back_2 : decode cL_back 2 = .ok (.aload_n 0, 1) := by decide +kernel
theorem dL_back_3 : decode cL_back 3 = .ok (.iload_n 1, 1) := by decide +kernel
theorem dL_back_4 : decode cL_back 4 = .ok (.invokevirtual 50, 3) := by decide +kernel
theorem dL_back_7 : decode cL_back 7 = .ok (.i2l, 1) := by decide +kernel
theorem dL_back_8 : decode cL_back 8 = .ok (.lastore, 1) := by decide +kernel
theorem dL_back_9 : decode cL_back 9 = .ok (.goto 6, 3) := by decide +kernel
theorem dL_back_12 : decode cL_back 12 = .ok (.astore_n 3, 1) := by decide +kernel
theorem dL_back_13 : decode cL_back 13 = .ok (.iconst 1, 1) := by decide +kernel
theorem dL_back_14 : decode cL_back 14 = .ok (.ireturn, 1) := by decide +kernel
theorem dL_back_15 : decode cL_back 15 = .ok (.iconst 0, 1) := by decide +kernel
theorem dL_back_16 : decode cL_back 16 = .ok (.ireturn, 1) := by decide +kernel
set_option maxRecDepth 20000 in
theorem ggL_forget_X3_forget : GoodIn wsL_forget wsX3_forget := goodIn_ca (goodIn_r _ [6, 7, 8, 9, 10, 11, 12, 13] (by decide +kernel) (by decide +kernel)) (goodIn_sub (fun _ h => List.mem_cons_of_mem _ (List.mem_append_right _ h)) (by decide +kernel))
set_option maxRecDepth 20000 in
theorem gL_forget_X3_forget : GoodIn wsL_forget (wsV RL 53 RX3 yX3_forget wsX3_forget) := goodIn_app (goodIn_of _ (by decide +kernel)) ggL_forget_X3_forget
theorem dL_forget_0 : decode cL_forget 0 = .ok (.aload_n 1, 1) := by decide +kernel
theorem dL_forget_1 : decode cL_forget 1 = .ok (.iconst 0, 1) := by decide +kernel
theorem dL_forget_2 : decode cL_forget 2 = .ok (.aload_n 0, 1) := by decide +kernel
theorem dL_forget_3 : decode cL_forget 3 = .ok (.invokevirtual 53, 3) := by decide +kernel
theorem dL_forget_6 : decode cL_forget 6 = .ok (.i2l, 1) := by decide +kernel
theorem dL_forget_7 : decode cL_forget 7 = .ok (.lastore, 1) := by decide +kernel
theorem dL_forget_8 : decode cL_forget 8 = .ok (.goto 6, 3) := by decide +kernel
theorem dL_forget_11 : decode cL_forget 11 = .ok (.astore_n 2, 1) := by decide +kernel
theorem dL_forget_12 : decode cL_forget 12 = .ok (.iconst 1, 1) := by decide +kernel
theorem dL_forget_13 : decode cL_forget 13 = .ok (.ireturn, 1) := by decide +kernel
theorem dL_forget_14 : decode cL_forget 14 = .ok (.iconst 0, 1) := by decide +kernel
theorem dL_forget_15 : decode cL_forget 15 = .ok (.ireturn, 1) := by decide +kernel
set_option maxRecDepth 20000 in
theorem ggL_task_X3_task : GoodIn wsL_task wsX3_task := goodIn_ca (goodIn_r _ [6, 7, 8, 5, 9, 10, 11, 12, 13, 14, 15, 16, 17, 18, 19] (by decide +kernel) (by decide +kernel)) (goodIn_sub (fun _ h => List.mem_cons_of_mem _ (List.mem_append_right _ h)) (by decide +kernel))
set_option maxRecDepth 20000 in
theorem gL_task_X3_task : GoodIn wsL_task (wsV RL 56 RX3 yX3_task wsX3_task) := goodIn_app (goodIn_of _ (by decide +kernel)) ggL_task_X3_task
theorem dL_task_0 : decode cL_task 0 = .ok (.aload 4, 2) := by decide +kernel
theorem dL_task_2 : decode cL_task 2 = .ok (.iconst 0, 1) := by decide +kernel
theorem dL_task_3 : decode cL_task 3 = .ok (.aload_n 0, 1) := by decide +kernel
theorem dL_task_4 : decode cL_task 4 = .ok (.lload_n 1, 1) := by decide +kernel
theorem dL_task_5 : decode cL_task 5 = .ok (.iload_n 3, 1) := by decide +kernel
theorem dL_task_6 : decode cL_task 6 = .ok (.invokevirtual 56, 3) := by decide +kernel
theorem dL_task_9 : decode cL_task 9 = .ok (.i2l, 1) := by decide +kernel
theorem dL_task_10 : decode cL_task 10 = .ok (.lastore, 1) := by decide +kernel
theorem dL_task_11 : decode cL_task 11 = .ok (.goto 7, 3) := by decide +kernel
theorem dL_task_14 : decode cL_task 14 = .ok (.astore 5, 2) := by decide +kernel
theorem dL_task_16 : decode cL_task 16 = .ok (.iconst 1, 1) := by decide +kernel
theorem dL_task_17 : decode cL_task 17 = .ok (.ireturn, 1) := by decide +kernel
theorem dL_task_18 : decode cL_task 18 = .ok (.iconst 0, 1) := by decide +kernel
theorem dL_task_19 : decode cL_task 19 = .ok (.ireturn, 1) := by decide +kernel
set_option maxRecDepth 20000 in
theorem ggL_load_X3_load : GoodIn wsL_load wsX3_load := goodIn_ca (goodIn_r _ [6, 7, 8, 9, 10, 11, 12, 13, 5, 14, 15, 16, 17, 18, 19, 20, 21, 22, 23, 24, 25, 26, 27, 28, 29, 30, 31, 32, 33, 34, 35, 36, 37, 38, 39, 40, 41, 42, 43, 44, 45, 46, 47, 48] (by decide +kernel) (by decide +kernel)) (goodIn_sub (fun _ h => List.mem_cons_of_mem _ (List.mem_append_right _ h)) (by decide +kernel))
set_option maxRecDepth 20000 in
theorem gL_load_X3_load : GoodIn wsL_load (wsV RL 60 RX3 yX3_load wsX3_load) := goodIn_app (goodIn_of _ (by decide +kernel)) ggL_load_X3_load
theorem dL_load_0 : decode cL_load 0 = .ok (.aload_n 3, 1) := by decide +kernel
theorem dL_load_1 : decode cL_load 1 = .ok (.iconst 0, 1) := by decide +kernel
theorem dL_load_2 : decode cL_load 2 = .ok (.aload_n 0, 1) := by decide +kernel
theorem dL_load_3 : decode cL_load 3 = .ok (.iload_n 1, 1) := by decide +kernel
theorem dL_load_4 : decode cL_load 4 = .ok (.iload_n 2, 1) := by decide +kernel
theorem dL_load_5 : decode cL_load 5 = .ok (.invokevirtual 60, 3) := by decide +kernel
theorem dL_load_8 : decode cL_load 8 = .ok (.i2l, 1) := by decide +kernel
theorem dL_load_9 : decode cL_load 9 = .ok (.lastore, 1) := by decide +kernel
theorem dL_load_10 : decode cL_load 10 = .ok (.goto 7, 3) := by decide +kernel
theorem dL_load_13 : decode cL_load 13 = .ok (.astore 4, 2) := by decide +kernel
theorem dL_load_15 : decode cL_load 15 = .ok (.iconst 1, 1) := by decide +kernel
theorem dL_load_16 : decode cL_load 16 = .ok (.ireturn, 1) := by decide +kernel
theorem dL_load_17 : decode cL_load 17 = .ok (.iconst 0, 1) := by decide +kernel
theorem dL_load_18 : decode cL_load 18 = .ok (.ireturn, 1) := by decide +kernel
set_option maxRecDepth 20000 in
theorem ggL_of_X3_of : GoodIn wsL_of wsX3_of := goodIn_ca (goodIn_r _ [6, 7, 8, 9, 10, 11, 12, 13, 14, 15, 16, 17, 18, 5, 19, 20, 21, 22, 23, 24, 25, 26, 27, 28, 29, 30, 31, 32, 33, 34, 35, 36, 37, 38, 39, 40, 41, 42, 43, 44, 45, 46] (by decide +kernel) (by decide +kernel)) (goodIn_sub (fun _ h => List.mem_cons_of_mem _ (List.mem_append_right _ h)) (by decide +kernel))
set_option maxRecDepth 20000 in
theorem gL_of_X3_of : GoodIn wsL_of (wsV RL 64 RX3 yX3_of wsX3_of) := goodIn_app (goodIn_of _ (by decide +kernel)) ggL_of_X3_of
theorem dL_of_0 : decode cL_of 0 = .ok (.aload_n 2, 1) := by decide +kernel
theorem dL_of_1 : decode cL_of 1 = .ok (.iconst 0, 1) := by decide +kernel
theorem dL_of_2 : decode cL_of 2 = .ok (.aload_n 0, 1) := by decide +kernel
theorem dL_of_3 : decode cL_of 3 = .ok (.iload_n 1, 1) := by decide +kernel
theorem dL_of_4 : decode cL_of 4 = .ok (.invokevirtual 64, 3) := by decide +kernel
theorem dL_of_7 : decode cL_of 7 = .ok (.i2l, 1) := by decide +kernel
theorem dL_of_8 : decode cL_of 8 = .ok (.lastore, 1) := by decide +kernel
theorem dL_of_9 : decode cL_of 9 = .ok (.goto 6, 3) := by decide +kernel
theorem dL_of_12 : decode cL_of 12 = .ok (.astore_n 3, 1) := by decide +kernel
theorem dL_of_13 : decode cL_of 13 = .ok (.iconst 1, 1) := by decide +kernel
theorem dL_of_14 : decode cL_of 14 = .ok (.ireturn, 1) := by decide +kernel
theorem dL_of_15 : decode cL_of 15 = .ok (.iconst 0, 1) := by decide +kernel
theorem dL_of_16 : decode cL_of 16 = .ok (.ireturn, 1) := by decide +kernel
set_option maxRecDepth 20000 in
theorem ggL_now_X3_now : GoodIn wsL_now wsX3_now := goodIn_ca (goodIn_r _ [6, 7, 8, 9, 10, 5, 11, 12, 13, 14, 15, 16, 17, 18, 19, 20, 21, 22, 23, 24] (by decide +kernel) (by decide +kernel)) (goodIn_sub (fun _ h => List.mem_cons_of_mem _ (List.mem_append_right _ h)) (by decide +kernel))
set_option maxRecDepth 20000 in
theorem gL_now_X3_now : GoodIn wsL_now (wsV RL 67 RX3 yX3_now wsX3_now) := goodIn_app (goodIn_of _ (by decide +kernel)) ggL_now_X3_now
theorem dL_now_0 : decode cL_now 0 = .ok (.aload_n 2, 1) := by decide +kernel
theorem dL_now_1 : decode cL_now 1 = .ok (.iconst 0, 1) := by decide +kernel
theorem dL_now_2 : decode cL_now 2 = .ok (.aload_n 0, 1) := by decide +kernel
theorem dL_now_3 : decode cL_now 3 = .ok (.iload_n 1, 1) := by decide +kernel
theorem dL_now_4 : decode cL_now 4 = .ok (.invokevirtual 67, 3) := by decide +kernel
theorem dL_now_7 : decode cL_now 7 = .ok (.lastore, 1) := by decide +kernel
theorem dL_now_8 : decode cL_now 8 = .ok (.goto 6, 3) := by decide +kernel
theorem dL_now_11 : decode cL_now 11 = .ok (.astore_n 3, 1) := by decide +kernel
theorem dL_now_12 : decode cL_now 12 = .ok (.iconst 1, 1) := by decide +kernel
theorem dL_now_13 : decode cL_now 13 = .ok (.ireturn, 1) := by decide +kernel
theorem dL_now_14 : decode cL_now 14 = .ok (.iconst 0, 1) := by decide +kernel
theorem dL_now_15 : decode cL_now 15 = .ok (.ireturn, 1) := by decide +kernel
set_option maxRecDepth 20000 in
theorem ggL_law_X3_init : GoodIn wsL_law wsX3_init := goodIn_r _ [10, 11, 12, 13, 14, 15, 16, 17, 18, 19, 20, 21, 22, 23, 24, 25, 26, 27, 28, 29, 30, 31, 32, 6, 33, 34, 35, 36, 37, 38, 39, 40, 41, 42, 43, 44, 45, 46, 47, 48, 49, 50, 51, 52, 53, 54, 55, 56, 57, 58, 59, 60, 61, 62, 63, 64, 65, 66, 67, 68, 547, 548, 549, 550, 551, 552, 553, 525, 526, 527, 528, 554, 555, 556, 557, 558, 559, 560, 561, 562, 563, 564, 565, 566, 567] (by decide +kernel) (by decide +kernel)
set_option maxRecDepth 20000 in
theorem gL_law_X3_init : GoodIn wsL_law (wsX3_init) := ggL_law_X3_init
set_option maxRecDepth 20000 in
theorem ggL_law_X4_init : GoodIn wsL_law wsX4_init := goodIn_r _ [71, 72, 12, 13, 38, 73, 74, 75, 76, 77, 6, 78, 79, 80, 81, 82, 83, 84, 85, 86, 87, 88, 89, 90, 91, 5, 92, 93, 94, 95, 529, 530, 531, 532, 533, 534, 535, 536, 537, 538, 539, 540, 541, 542, 543, 544, 545, 546] (by decide +kernel) (by decide +kernel)
set_option maxRecDepth 20000 in
theorem gL_law_X4_init : GoodIn wsL_law (wsX4_init) := ggL_law_X4_init
set_option maxRecDepth 20000 in
theorem ggL_law_X3_clear : GoodIn wsL_law wsX3_clear := goodIn_r _ [99, 17, 100, 101, 102, 22, 103, 23, 104, 48, 49, 16, 50, 31, 51, 32, 33, 52, 53, 54, 55, 56, 57, 58, 59, 60, 525, 526, 527, 528, 547, 548, 549, 550, 551, 552, 553, 560, 561, 562, 563, 564, 565, 566, 567, 554, 555, 556, 557, 558, 559] (by decide +kernel) (by decide +kernel)
set_option maxRecDepth 20000 in
theorem gL_law_X3_clear : GoodIn wsL_law (wsV RL 75 RX3 yX3_clear wsX3_clear) := goodIn_app (goodIn_of _ (by decide +kernel)) ggL_law_X3_clear
set_option maxRecDepth 20000 in
theorem ggL_law_X4_clear : GoodIn wsL_law wsX4_clear := goodIn_r _ [108, 109, 73, 89, 90, 91, 5, 92, 82, 93, 83, 94, 95, 529, 530, 531, 532, 533, 534, 535, 536, 537, 538, 539, 540, 541, 542, 543, 544, 545, 546] (by decide +kernel) (by decide +kernel)
set_option maxRecDepth 20000 in
theorem gL_law_X4_clear : GoodIn wsL_law (wsV RL 78 RX4 yX4_clear wsX4_clear) := goodIn_app (goodIn_of _ (by decide +kernel)) ggL_law_X4_clear
set_option maxRecDepth 20000 in
theorem ggL_law_L_set : GoodIn wsL_law wsL_set := goodIn_ca (goodIn_ca (goodIn_r _ [113, 114, 115, 116, 117, 118, 2, 119, 120, 121, 122, 123, 124, 17, 100, 125, 126, 127, 128, 129, 130, 131, 132, 133, 134, 30, 135, 46, 136, 137, 138, 16, 139, 53, 140, 141, 142, 143, 39, 40, 41, 42, 43, 44, 45, 144, 145, 146, 147, 148, 149, 150, 151, 152, 153, 154, 155, 156, 157, 158, 159, 525, 526, 527, 528, 547, 548, 549, 550, 551, 552, 553, 560, 561, 562, 563, 564, 565, 566, 567] (by decide +kernel) (by decide +kernel)) (goodIn_sub (fun _ h => List.mem_append_left _ (List.mem_append_left _ (List.mem_append_right _ h))) (by decide +kernel))) (goodIn_sub (fun _ h => List.mem_append_left _ (List.mem_append_right _ h)) (by decide +kernel))
set_option maxRecDepth 20000 in
theorem gL_law_L_set : GoodIn wsL_law (va_wsS RL 81 yL_set wsL_set) := goodIn_app (goodIn_of _ (by decide +kernel)) ggL_law_L_set
set_option maxRecDepth 20000 in
theorem ggL_law_X4_set : GoodIn wsL_law wsX4_set := goodIn_r _ [163, 164, 165, 166, 83, 167, 168, 5, 169, 170, 171, 172, 173, 73, 75, 174, 175, 176, 177, 109, 178, 179, 180, 181, 76, 77, 78, 79, 80, 81, 529, 530, 531, 532, 533, 534, 535, 536, 537, 538, 539, 540, 541, 542, 543, 544, 545, 546] (by decide +kernel) (by decide +kernel)
set_option maxRecDepth 20000 in
theorem gL_law_X4_set : GoodIn wsL_law (wsV RL 86 RX4 yX4_set wsX4_set) := goodIn_app (goodIn_of _ (by decide +kernel)) ggL_law_X4_set
set_option maxRecDepth 20000 in
theorem ggL_law_X4_thrown : GoodIn wsL_law wsX4_thrown := goodIn_r _ [185, 109, 529, 530, 531, 532, 533, 534, 535, 536, 537, 538, 539, 540, 541, 542, 543, 544, 545, 546] (by decide +kernel) (by decide +kernel)
set_option maxRecDepth 20000 in
theorem gL_law_X4_thrown : GoodIn wsL_law (wsV RL 87 RX4 yX4_thrown wsX4_thrown) := goodIn_app (goodIn_of _ (by decide +kernel)) ggL_law_X4_thrown
set_option maxRecDepth 20000 in
theorem ggL_law_L_move : GoodIn wsL_law wsL_move := goodIn_ca (goodIn_ca (goodIn_r _ [188, 114, 189, 190, 191, 192, 2, 193, 17, 100, 128, 129, 130, 120, 121, 131, 194, 195, 196, 197, 198, 199, 200, 201, 202, 30, 203, 46, 40, 39, 204, 205, 206, 207, 43, 208, 209, 210, 211, 212, 213, 214, 215, 148, 149, 150, 151, 144, 145, 146, 147, 152, 153, 154, 155, 156, 157, 158, 159, 42, 525, 526, 527, 528, 547, 548, 549, 550, 551, 552, 553, 560, 561, 562, 563, 564, 565, 566, 567] (by decide +kernel) (by decide +kernel)) (goodIn_sub (fun _ h => List.mem_append_left _ (List.mem_append_left _ (List.mem_append_right _ h))) (by decide +kernel))) (goodIn_sub (fun _ h => List.mem_append_right _ h) (by decide +kernel))
set_option maxRecDepth 20000 in
theorem gL_law_L_move : GoodIn wsL_law (va_wsS RL 90 yL_move wsL_move) := goodIn_app (goodIn_of _ (by decide +kernel)) ggL_law_L_move
set_option maxRecDepth 20000 in
theorem ggL_law_X4_move : GoodIn wsL_law wsX4_move := goodIn_r _ [219, 164, 79, 220, 221, 222, 5, 223, 73, 75, 77, 167, 168, 169, 174, 175, 176, 177, 109, 529, 530, 531, 532, 533, 534, 535, 536, 537, 538, 539, 540, 541, 542, 543, 544, 545, 546] (by decide +kernel) (by decide +kernel)
set_option maxRecDepth 20000 in
theorem gL_law_X4_move : GoodIn wsL_law (wsV RL 93 RX4 yX4_move wsX4_move) := goodIn_app (goodIn_of _ (by decide +kernel)) ggL_law_X4_move
set_option maxRecDepth 20000 in
theorem ggL_law_X3_cancel : GoodIn wsL_law wsX3_cancel := goodIn_r _ [227, 17, 100, 200, 201, 202, 30, 203, 46, 40, 39, 228, 213, 214, 215, 148, 149, 150, 151, 525, 526, 527, 528, 547, 548, 549, 550, 551, 552, 553, 560, 561, 562, 563, 564, 565, 566, 567] (by decide +kernel) (by decide +kernel)
set_option maxRecDepth 20000 in
theorem gL_law_X3_cancel : GoodIn wsL_law (wsV RL 94 RX3 yX3_cancel wsX3_cancel) := goodIn_app (goodIn_of _ (by decide +kernel)) ggL_law_X3_cancel
set_option maxRecDepth 20000 in
theorem ggL_law_X4_cancel : GoodIn wsL_law wsX4_cancel := goodIn_r _ [232, 109, 220, 221, 222, 5, 223, 73, 75, 77, 233, 234, 235, 236, 237, 238, 239, 240, 76, 78, 79, 80, 81, 529, 530, 531, 532, 533, 534, 535, 536, 537, 538, 539, 540, 541, 542, 543, 544, 545, 546] (by decide +kernel) (by decide +kernel)
set_option maxRecDepth 20000 in
theorem gL_law_X4_cancel : GoodIn wsL_law (wsV RL 98 RX4 yX4_cancel wsX4_cancel) := goodIn_app (goodIn_of _ (by decide +kernel)) ggL_law_X4_cancel
set_option maxRecDepth 20000 in
theorem ggL_law_L_row : GoodIn wsL_law wsL_row := goodIn_ca (goodIn_ca (goodIn_r _ [243, 114, 115, 244, 245, 246, 2, 247, 122, 123, 17, 248, 249, 102, 250, 128, 129, 130, 120, 121, 131, 132, 133, 134, 30, 135, 46, 140, 141, 142, 143, 39, 40, 41, 42, 43, 44, 45, 144, 145, 146, 147, 148, 149, 150, 151, 152, 153, 154, 155, 156, 157, 158, 159, 525, 526, 527, 528, 547, 548, 549, 550, 551, 552, 553, 560, 561, 562, 563, 564, 565, 566, 567] (by decide +kernel) (by decide +kernel)) (goodIn_sub (fun _ h => List.mem_append_left _ (List.mem_append_right _ h)) (by decide +kernel))) (goodIn_sub (fun _ h => List.mem_append_left _ (List.mem_append_left _ (List.mem_append_right _ h))) (by decide +kernel))
set_option maxRecDepth 20000 in
theorem gL_law_L_row : GoodIn wsL_law (va_wsS RL 99 yL_row wsL_row) := goodIn_app (goodIn_of _ (by decide +kernel)) ggL_law_L_row
set_option maxRecDepth 20000 in
theorem ggL_law_X4_row : GoodIn wsL_law wsX4_row := goodIn_r _ [254, 164, 82, 83, 167, 168, 5, 169, 174, 175, 176, 177, 109, 170, 171, 172, 173, 73, 75, 178, 179, 180, 181, 76, 77, 78, 79, 80, 81, 529, 530, 531, 532, 533, 534, 535, 536, 537, 538, 539, 540, 541, 542, 543, 544, 545, 546] (by decide +kernel) (by decide +kernel)
set_option maxRecDepth 20000 in
theorem gL_law_X4_row : GoodIn wsL_law (wsV RL 102 RX4 yX4_row wsX4_row) := goodIn_app (goodIn_of _ (by decide +kernel)) ggL_law_X4_row
set_option maxRecDepth 20000 in
theorem ggL_law_X3_first : GoodIn wsL_law wsX3_first := goodIn_r _ [258, 17, 259, 525, 526, 527, 528, 547, 548, 549, 550, 551, 552, 553] (by decide +kernel) (by decide +kernel)
set_option maxRecDepth 20000 in
theorem gL_law_X3_first : GoodIn wsL_law (wsV RL 103 RX3 yX3_first wsX3_first) := goodIn_app (goodIn_of _ (by decide +kernel)) ggL_law_X3_first
set_option maxRecDepth 20000 in
theorem ggL_law_X4_first : GoodIn wsL_law wsX4_first := goodIn_r _ [263, 109, 83, 529, 530, 531, 532, 533, 534, 535, 536, 537, 538, 539, 540, 541, 542, 543, 544, 545, 546] (by decide +kernel) (by decide +kernel)
set_option maxRecDepth 20000 in
theorem gL_law_X4_first : GoodIn wsL_law (wsV RL 107 RX4 yX4_first wsX4_first) := goodIn_app (goodIn_of _ (by decide +kernel)) ggL_law_X4_first
set_option maxRecDepth 20000 in
theorem ggL_law_L_pass : GoodIn wsL_law wsL_pass := goodIn_ca (goodIn_r _ [266, 114, 267, 268, 269, 2, 270, 120, 121, 17, 248, 22, 103, 125, 126, 127, 128, 129, 130, 131, 271, 272, 273, 274, 100, 102, 275, 276, 277, 30, 278, 279, 280, 281, 282, 46, 41, 39, 283, 205, 206, 207, 43, 284, 285, 286, 16, 287, 32, 31, 56, 288, 289, 290, 291, 21, 292, 293, 64, 294, 65, 295, 66, 296, 67, 297, 68, 298, 299, 300, 301, 302, 303, 304, 59, 305, 306, 307, 308, 309, 310, 311, 38, 312, 313, 314, 315, 316, 149, 150, 151, 317, 318, 319, 320, 321, 322, 323, 6, 228, 213, 214, 215, 148, 324, 325, 326, 327, 328, 329, 330, 137, 138, 139, 53, 331, 332, 333, 334, 40, 44, 45, 212, 144, 145, 146, 147, 152, 153, 154, 155, 156, 157, 158, 159, 42, 335, 525, 526, 527, 528, 547, 548, 549, 550, 551, 552, 553, 554, 555, 556, 557, 558, 559, 560, 561, 562, 563, 564, 565, 566, 567] (by decide +kernel) (by decide +kernel)) (goodIn_sub (fun _ h => List.mem_append_left _ (List.mem_append_left _ (List.mem_append_right _ h))) (by decide +kernel))
set_option maxRecDepth 20000 in
theorem gL_law_L_pass : GoodIn wsL_law (va_wsS RL 108 yL_pass wsL_pass) := goodIn_app (goodIn_of _ (by decide +kernel)) ggL_law_L_pass
set_option maxRecDepth 20000 in
theorem ggL_law_X4_pass : GoodIn wsL_law wsX4_pass := goodIn_r _ [339, 164, 82, 95, 84, 75, 85, 77, 86, 78, 87, 79, 88, 81, 83, 80, 167, 168, 5, 169, 174, 175, 176, 177, 109, 340, 341, 342, 343, 73, 76, 344, 345, 346, 347, 233, 234, 235, 236, 237, 238, 239, 240, 529, 530, 531, 532, 533, 534, 535, 536, 537, 538, 539, 540, 541, 542, 543, 544, 545, 546] (by decide +kernel) (by decide +kernel)
set_option maxRecDepth 20000 in
theorem gL_law_X4_pass : GoodIn wsL_law (wsV RL 110 RX4 yX4_pass wsX4_pass) := goodIn_app (goodIn_of _ (by decide +kernel)) ggL_law_X4_pass
set_option maxRecDepth 20000 in
theorem ggL_law_L_done : GoodIn wsL_law wsL_done := goodIn_ca (goodIn_ca (goodIn_r _ [350, 114, 189, 351, 352, 353, 2, 354, 198, 199, 22, 103, 355, 356, 357, 358, 359, 360, 361, 362, 120, 121, 525, 526, 527, 528, 554, 555, 556, 557, 558, 559] (by decide +kernel) (by decide +kernel)) (goodIn_sub (fun _ h => List.mem_append_right _ h) (by decide +kernel))) (goodIn_sub (fun _ h => List.mem_append_left _ (List.mem_append_left _ (List.mem_append_right _ h))) (by decide +kernel))
set_option maxRecDepth 20000 in
theorem gL_law_L_done : GoodIn wsL_law (va_wsS RL 111 yL_done wsL_done) := goodIn_app (goodIn_of _ (by decide +kernel)) ggL_law_L_done
set_option maxRecDepth 20000 in
theorem ggL_law_X4_done : GoodIn wsL_law wsX4_done := goodIn_r _ [366, 367, 95, 84, 85, 86, 87, 88, 167, 168, 5, 169, 174, 175, 176, 177, 109, 529, 530, 531, 532, 533, 534, 535, 536, 537, 538, 539, 540, 541, 542, 543, 544, 545, 546] (by decide +kernel) (by decide +kernel)
set_option maxRecDepth 20000 in
theorem gL_law_X4_done : GoodIn wsL_law (wsV RL 114 RX4 yX4_done wsX4_done) := goodIn_app (goodIn_of _ (by decide +kernel)) ggL_law_X4_done
set_option maxRecDepth 20000 in
theorem ggL_law_L_told : GoodIn wsL_law wsL_told := goodIn_ca (goodIn_ca (goodIn_r _ [370, 114, 189, 371, 372, 373, 2, 374, 17, 100, 375, 376, 377, 378, 379, 380, 360, 361, 362, 120, 121, 194, 195, 196, 197, 198, 199, 200, 201, 202, 30, 203, 46, 40, 39, 525, 526, 527, 528, 547, 548, 549, 550, 551, 552, 553, 560, 561, 562, 563, 564, 565, 566, 567] (by decide +kernel) (by decide +kernel)) (goodIn_sub (fun _ h => List.mem_append_left _ (List.mem_append_left _ (List.mem_append_right _ h))) (by decide +kernel))) (goodIn_sub (fun _ h => List.mem_append_right _ h) (by decide +kernel))
set_option maxRecDepth 20000 in
theorem gL_law_L_told : GoodIn wsL_law (va_wsS RL 115 yL_told wsL_told) := goodIn_app (goodIn_of _ (by decide +kernel)) ggL_law_L_told
set_option maxRecDepth 20000 in
theorem ggL_law_X4_told : GoodIn wsL_law wsX4_told := goodIn_r _ [384, 367, 76, 78, 79, 80, 81, 220, 221, 222, 5, 223, 73, 75, 77, 167, 168, 169, 174, 175, 176, 177, 109, 529, 530, 531, 532, 533, 534, 535, 536, 537, 538, 539, 540, 541, 542, 543, 544, 545, 546] (by decide +kernel) (by decide +kernel)
set_option maxRecDepth 20000 in
theorem gL_law_X4_told : GoodIn wsL_law (wsV RL 117 RX4 yX4_told wsX4_told) := goodIn_app (goodIn_of _ (by decide +kernel)) ggL_law_X4_told
set_option maxRecDepth 20000 in
theorem ggL_law_L_next : GoodIn wsL_law wsL_next := goodIn_ca (goodIn_r _ [387, 114, 388, 389, 390, 2, 391, 17, 100, 392, 375, 125, 126, 127, 120, 121, 393, 280, 281, 30, 282, 46, 41, 39, 525, 526, 527, 528, 547, 548, 549, 550, 551, 552, 553, 560, 561, 562, 563, 564, 565, 566, 567] (by decide +kernel) (by decide +kernel)) (goodIn_sub (fun _ h => List.mem_append_left _ (List.mem_append_left _ (List.mem_append_right _ h))) (by decide +kernel))
set_option maxRecDepth 20000 in
theorem gL_law_L_next : GoodIn wsL_law (va_wsS RL 118 yL_next wsL_next) := goodIn_app (goodIn_of _ (by decide +kernel)) ggL_law_L_next
set_option maxRecDepth 20000 in
theorem ggL_law_X4_next : GoodIn wsL_law wsX4_next := goodIn_r _ [397, 398, 77, 167, 168, 5, 169, 174, 175, 176, 177, 109, 340, 341, 342, 343, 73, 76, 79, 75, 344, 345, 346, 347, 83, 78, 529, 530, 531, 532, 533, 534, 535, 536, 537, 538, 539, 540, 541, 542, 543, 544, 545, 546] (by decide +kernel) (by decide +kernel)
set_option maxRecDepth 20000 in
theorem gL_law_X4_next : GoodIn wsL_law (wsV RL 121 RX4 yX4_next wsX4_next) := goodIn_app (goodIn_of _ (by decide +kernel)) ggL_law_X4_next
set_option maxRecDepth 20000 in
theorem ggL_law_L_waiting : GoodIn wsL_law wsL_waiting := goodIn_ca (goodIn_r _ [401, 114, 402, 403, 404, 2, 405, 120, 121, 17, 100, 125, 126, 127, 406, 407, 408, 30, 409, 46, 39, 43, 41, 42, 525, 526, 527, 528, 547, 548, 549, 550, 551, 552, 553, 560, 561, 562, 563, 564, 565, 566, 567] (by decide +kernel) (by decide +kernel)) (goodIn_sub (fun _ h => List.mem_append_left _ (List.mem_append_left _ (List.mem_append_right _ h))) (by decide +kernel))
set_option maxRecDepth 20000 in
theorem gL_law_L_waiting : GoodIn wsL_law (va_wsS RL 122 yL_waiting wsL_waiting) := goodIn_app (goodIn_of _ (by decide +kernel)) ggL_law_L_waiting
set_option maxRecDepth 20000 in
theorem ggL_law_X4_waiting : GoodIn wsL_law wsX4_waiting := goodIn_r _ [413, 73, 75, 76, 78, 79, 167, 168, 5, 169, 174, 175, 176, 177, 109, 529, 530, 531, 532, 533, 534, 535, 536, 537, 538, 539, 540, 541, 542, 543, 544, 545, 546] (by decide +kernel) (by decide +kernel)
set_option maxRecDepth 20000 in
theorem gL_law_X4_waiting : GoodIn wsL_law (wsV RL 125 RX4 yX4_waiting wsX4_waiting) := goodIn_app (goodIn_of _ (by decide +kernel)) ggL_law_X4_waiting
set_option maxRecDepth 20000 in
theorem ggL_law_L_keep : GoodIn wsL_law wsL_keep := goodIn_ca (goodIn_r _ [416, 115, 417, 418, 419, 2, 420, 122, 123, 23, 18, 14, 15, 16, 17, 24, 25, 26, 27, 12, 13, 28, 29, 30, 31, 32, 6, 33, 34, 35, 36, 37, 38, 39, 40, 41, 42, 43, 44, 45, 46, 47, 48, 49, 50, 51, 52, 53, 54, 55, 56, 57, 58, 59, 60, 421, 422, 423, 424, 425, 149, 150, 151, 426, 427, 428, 429, 148, 525, 526, 527, 528, 547, 548, 549, 550, 551, 552, 553, 560, 561, 562, 563, 564, 565, 566, 567] (by decide +kernel) (by decide +kernel)) (goodIn_sub (fun _ h => List.mem_append_left _ (List.mem_append_right _ h)) (by decide +kernel))
set_option maxRecDepth 20000 in
theorem gL_law_L_keep : GoodIn wsL_law (va_wsS RL 126 yL_keep wsL_keep) := goodIn_app (goodIn_of _ (by decide +kernel)) ggL_law_L_keep
set_option maxRecDepth 20000 in
theorem ggL_law_X4_keep : GoodIn wsL_law wsX4_keep := goodIn_r _ [433, 94, 174, 175, 176, 5, 177, 109, 434, 435, 436, 437, 73, 82, 83, 237, 238, 239, 240, 75, 76, 77, 78, 79, 80, 81, 529, 530, 531, 532, 533, 534, 535, 536, 537, 538, 539, 540, 541, 542, 543, 544, 545, 546] (by decide +kernel) (by decide +kernel)
set_option maxRecDepth 20000 in
theorem gL_law_X4_keep : GoodIn wsL_law (wsV RL 129 RX4 yX4_keep wsX4_keep) := goodIn_app (goodIn_of _ (by decide +kernel)) ggL_law_X4_keep
set_option maxRecDepth 20000 in
theorem ggL_law_L_back : GoodIn wsL_law wsL_back := goodIn_ca (goodIn_r _ [440, 114, 441, 442, 443, 2, 444, 120, 121, 23, 18, 17, 100, 101, 421, 422, 423, 16, 424, 31, 32, 33, 425, 149, 150, 151, 53, 54, 55, 56, 426, 427, 428, 30, 429, 39, 148, 40, 41, 42, 43, 44, 45, 46, 525, 526, 527, 528, 547, 548, 549, 550, 551, 552, 553, 560, 561, 562, 563, 564, 565, 566, 567] (by decide +kernel) (by decide +kernel)) (goodIn_sub (fun _ h => List.mem_append_left _ (List.mem_append_left _ (List.mem_append_right _ h))) (by decide +kernel))
set_option maxRecDepth 20000 in
theorem gL_law_L_back : GoodIn wsL_law (va_wsS RL 130 yL_back wsL_back) := goodIn_app (goodIn_of _ (by decide +kernel)) ggL_law_L_back
set_option maxRecDepth 20000 in
theorem ggL_law_X4_back : GoodIn wsL_law wsX4_back := goodIn_r _ [448, 94, 167, 168, 5, 169, 174, 175, 176, 177, 109, 434, 435, 436, 437, 73, 82, 83, 237, 238, 239, 240, 75, 76, 77, 78, 79, 80, 81, 170, 171, 172, 173, 529, 530, 531, 532, 533, 534, 535, 536, 537, 538, 539, 540, 541, 542, 543, 544, 545, 546] (by decide +kernel) (by decide +kernel)
set_option maxRecDepth 20000 in
theorem gL_law_X4_back : GoodIn wsL_law (wsV RL 132 RX4 yX4_back wsX4_back) := goodIn_app (goodIn_of _ (by decide +kernel)) ggL_law_X4_back
set_option maxRecDepth 20000 in
theorem ggL_law_L_forget : GoodIn wsL_law wsL_forget := goodIn_ca (goodIn_r _ [451, 115, 452, 453, 454, 2, 455, 122, 123, 23, 525, 526, 527, 528] (by decide +kernel) (by decide +kernel)) (goodIn_sub (fun _ h => List.mem_append_left _ (List.mem_append_right _ h)) (by decide +kernel))
set_option maxRecDepth 20000 in
theorem gL_law_L_forget : GoodIn wsL_law (va_wsS RL 133 yL_forget wsL_forget) := goodIn_app (goodIn_of _ (by decide +kernel)) ggL_law_L_forget
set_option maxRecDepth 20000 in
theorem ggL_law_X4_forget : GoodIn wsL_law wsX4_forget := goodIn_r _ [459, 94, 174, 175, 176, 5, 177, 109, 529, 530, 531, 532, 533, 534, 535, 536, 537, 538, 539, 540, 541, 542, 543, 544, 545, 546] (by decide +kernel) (by decide +kernel)
set_option maxRecDepth 20000 in
theorem gL_law_X4_forget : GoodIn wsL_law (wsV RL 135 RX4 yX4_forget wsX4_forget) := goodIn_app (goodIn_of _ (by decide +kernel)) ggL_law_X4_forget
set_option maxRecDepth 20000 in
theorem ggL_law_L_task : GoodIn wsL_law wsL_task := goodIn_ca (goodIn_r _ [462, 114, 463, 464, 465, 2, 466, 467, 468, 469, 120, 121, 470, 471, 472, 473, 474, 475, 476, 477] (by decide +kernel) (by decide +kernel)) (goodIn_sub (fun _ h => List.mem_append_left _ (List.mem_append_left _ (List.mem_append_right _ h))) (by decide +kernel))
set_option maxRecDepth 20000 in
theorem gL_law_L_task : GoodIn wsL_law (va_wsS RL 136 yL_task wsL_task) := goodIn_app (goodIn_of _ (by decide +kernel)) ggL_law_L_task
set_option maxRecDepth 20000 in
theorem ggL_law_X4_task : GoodIn wsL_law wsX4_task := goodIn_r _ [481, 482, 167, 168, 5, 169, 174, 175, 176, 177, 109, 483, 484, 485, 529, 530, 531, 532, 533, 534, 535, 536, 537, 538, 539, 540, 541, 542, 543, 544, 545, 546] (by decide +kernel) (by decide +kernel)
set_option maxRecDepth 20000 in
theorem gL_law_X4_task : GoodIn wsL_law (wsV RL 139 RX4 yX4_task wsX4_task) := goodIn_app (goodIn_of _ (by decide +kernel)) ggL_law_X4_task
set_option maxRecDepth 20000 in
theorem ggL_law_L_load : GoodIn wsL_law wsL_load := goodIn_ca (goodIn_r _ [488, 114, 489, 490, 491, 2, 492, 120, 121, 17, 100, 102, 467, 468, 469, 493, 494, 495, 30, 496, 46, 42, 39, 471, 472, 473, 474, 475, 476, 477, 525, 526, 527, 528, 547, 548, 549, 550, 551, 552, 553, 560, 561, 562, 563, 564, 565, 566, 567] (by decide +kernel) (by decide +kernel)) (goodIn_sub (fun _ h => List.mem_append_left _ (List.mem_append_left _ (List.mem_append_right _ h))) (by decide +kernel))
set_option maxRecDepth 20000 in
theorem gL_law_L_load : GoodIn wsL_law (va_wsS RL 140 yL_load wsL_load) := goodIn_app (goodIn_of _ (by decide +kernel)) ggL_law_L_load
set_option maxRecDepth 20000 in
theorem ggL_law_X4_load : GoodIn wsL_law wsX4_load := goodIn_r _ [500, 482, 73, 78, 167, 168, 5, 169, 174, 175, 176, 177, 109, 483, 484, 485, 529, 530, 531, 532, 533, 534, 535, 536, 537, 538, 539, 540, 541, 542, 543, 544, 545, 546] (by decide +kernel) (by decide +kernel)
set_option maxRecDepth 20000 in
theorem gL_law_X4_load : GoodIn wsL_law (wsV RL 142 RX4 yX4_load wsX4_load) := goodIn_app (goodIn_of _ (by decide +kernel)) ggL_law_X4_load
set_option maxRecDepth 20000 in
theorem ggL_law_L_of : GoodIn wsL_law wsL_of := goodIn_ca (goodIn_r _ [503, 114, 504, 505, 506, 2, 507, 17, 100, 101, 102, 508, 250, 249, 23, 22, 103, 360, 361, 362, 120, 121, 525, 526, 527, 528, 547, 548, 549, 550, 551, 552, 553, 560, 561, 562, 563, 564, 565, 566, 567, 554, 555, 556, 557, 558, 559] (by decide +kernel) (by decide +kernel)) (goodIn_sub (fun _ h => List.mem_append_left _ (List.mem_append_left _ (List.mem_append_right _ h))) (by decide +kernel))
set_option maxRecDepth 20000 in
theorem gL_law_L_of : GoodIn wsL_law (va_wsS RL 143 yL_of wsL_of) := goodIn_app (goodIn_of _ (by decide +kernel)) ggL_law_L_of
set_option maxRecDepth 20000 in
theorem ggL_law_X4_of : GoodIn wsL_law wsX4_of := goodIn_r _ [512, 513, 83, 94, 95, 167, 168, 5, 169, 174, 175, 176, 177, 109, 170, 171, 172, 173, 73, 75, 529, 530, 531, 532, 533, 534, 535, 536, 537, 538, 539, 540, 541, 542, 543, 544, 545, 546] (by decide +kernel) (by decide +kernel)
set_option maxRecDepth 20000 in
theorem gL_law_X4_of : GoodIn wsL_law (wsV RL 145 RX4 yX4_of wsX4_of) := goodIn_app (goodIn_of _ (by decide +kernel)) ggL_law_X4_of
set_option maxRecDepth 20000 in
theorem ggL_law_L_now : GoodIn wsL_law wsL_now := goodIn_ca (goodIn_r _ [516, 114, 517, 518, 519, 2, 520, 17, 248, 125, 126, 127, 120, 121, 525, 526, 527, 528, 547, 548, 549, 550, 551, 552, 553] (by decide +kernel) (by decide +kernel)) (goodIn_sub (fun _ h => List.mem_append_left _ (List.mem_append_left _ (List.mem_append_right _ h))) (by decide +kernel))
set_option maxRecDepth 20000 in
theorem gL_law_L_now : GoodIn wsL_law (va_wsS RL 146 yL_now wsL_now) := goodIn_app (goodIn_of _ (by decide +kernel)) ggL_law_L_now
set_option maxRecDepth 20000 in
theorem ggL_law_X4_now : GoodIn wsL_law wsX4_now := goodIn_r _ [524, 82, 167, 168, 5, 169, 174, 175, 176, 177, 109, 529, 530, 531, 532, 533, 534, 535, 536, 537, 538, 539, 540, 541, 542, 543, 544, 545, 546] (by decide +kernel) (by decide +kernel)
set_option maxRecDepth 20000 in
theorem gL_law_X4_now : GoodIn wsL_law (wsV RL 148 RX4 yX4_now wsX4_now) := goodIn_app (goodIn_of _ (by decide +kernel)) ggL_law_X4_now
theorem dL_law_0 : decode cL_law 0 = .ok (.new 8, 3) := by decide +kernel
theorem dL_law_3 : decode cL_law 3 = .ok (.dup, 1) := by decide +kernel
theorem dL_law_4 : decode cL_law 4 = .ok (.invokespecial 71, 3) := by decide +kernel
theorem dL_law_7 : decode cL_law 7 = .ok (.astore_n 1, 1) := by decide +kernel
theorem dL_law_8 : decode cL_law 8 = .ok (.new 72, 3) := by decide +kernel
theorem dL_law_11 : decode cL_law 11 = .ok (.dup, 1) := by decide +kernel
theorem dL_law_12 : decode cL_law 12 = .ok (.invokespecial 74, 3) := by decide +kernel
theorem dL_law_15 : decode cL_law 15 = .ok (.astore_n 2, 1) := by decide +kernel
theorem dL_law_16 : decode cL_law 16 = .ok (.iconst 1, 1) := by decide +kernel
theorem dL_law_17 : decode cL_law 17 = .ok (.newarray .long, 2) := by decide +kernel
theorem dL_law_19 : decode cL_law 19 = .ok (.astore_n 3, 1) := by decide +kernel
theorem dL_law_20 : decode cL_law 20 = .ok (.iconst 0, 1) := by decide +kernel
theorem dL_law_21 : decode cL_law 21 = .ok (.istore 4, 2) := by decide +kernel
theorem dL_law_23 : decode cL_law 23 = .ok (.iload 4, 2) := by decide +kernel
theorem dL_law_25 : decode cL_law 25 = .ok (.aload_n 0, 1) := by decide +kernel
theorem dL_law_26 : decode cL_law 26 = .ok (.arraylength, 1) := by decide +kernel
theorem dL_law_27 : decode cL_law 27 = .ok (.bipush 9, 2) := by decide +kernel
theorem dL_law_29 : decode cL_law 29 = .ok (.isub, 1) := by decide +kernel
theorem dL_law_30 : decode cL_law 30 = .ok (.if_icmp .gt 1525, 3) := by decide +kernel
theorem dL_law_33 : decode cL_law 33 = .ok (.aload_n 0, 1) := by decide +kernel
theorem dL_law_34 : decode cL_law 34 = .ok (.iload 4, 2) := by decide +kernel
theorem dL_law_36 : decode cL_law 36 = .ok (.iaload, 1) := by decide +kernel
theorem dL_law_37 : decode cL_law 37 = .ok (.bipush 31, 2) := by decide +kernel
theorem dL_law_39 : decode cL_law 39 = .ok (.iand, 1) := by decide +kernel
theorem dL_law_40 : decode cL_law 40 = .ok (.tableswitch 1509 0 17 #[88, 101, 307, 406, 431, 563, 604, 704, 771, 838, 894, 1086, 1130, 1186, 1230, 1330, 1398, 1454], 88) := by decide +kernel
theorem dL_law_128 : decode cL_law 128 = .ok (.aload_n 1, 1) := by decide +kernel
theorem dL_law_129 : decode cL_law 129 = .ok (.invokevirtual 75, 3) := by decide +kernel
theorem dL_law_132 : decode cL_law 132 = .ok (.aload_n 2, 1) := by decide +kernel
theorem dL_law_133 : decode cL_law 133 = .ok (.invokevirtual 78, 3) := by decide +kernel
theorem dL_law_136 : decode cL_law 136 = .ok (.if_icmp .eq 1413, 3) := by decide +kernel
theorem dL_law_139 : decode cL_law 139 = .ok (.iconst 0, 1) := by decide +kernel
theorem dL_law_140 : decode cL_law 140 = .ok (.ireturn, 1) := by decide +kernel
theorem dL_law_141 : decode cL_law 141 = .ok (.aload_n 1, 1) := by decide +kernel
theorem dL_law_142 : decode cL_law 142 = .ok (.aload_n 0, 1) := by decide +kernel
theorem dL_law_143 : decode cL_law 143 = .ok (.iload 4, 2) := by decide +kernel
theorem dL_law_145 : decode cL_law 145 = .ok (.iconst 1, 1) := by decide +kernel
theorem dL_law_146 : decode cL_law 146 = .ok (.iadd, 1) := by decide +kernel
theorem dL_law_147 : decode cL_law 147 = .ok (.iaload, 1) := by decide +kernel
theorem dL_law_148 : decode cL_law 148 = .ok (.aload_n 0, 1) := by decide +kernel
theorem dL_law_149 : decode cL_law 149 = .ok (.iload 4, 2) := by decide +kernel
theorem dL_law_151 : decode cL_law 151 = .ok (.iconst 2, 1) := by decide +kernel
theorem dL_law_152 : decode cL_law 152 = .ok (.iadd, 1) := by decide +kernel
theorem dL_law_153 : decode cL_law 153 = .ok (.iaload, 1) := by decide +kernel
theorem dL_law_154 : decode cL_law 154 = .ok (.i2l, 1) := by decide +kernel
theorem dL_law_155 : decode cL_law 155 = .ok (.bipush 32, 2) := by decide +kernel
theorem dL_law_157 : decode cL_law 157 = .ok (.lshl, 1) := by decide +kernel
theorem dL_law_158 : decode cL_law 158 = .ok (.aload_n 0, 1) := by decide +kernel
theorem dL_law_159 : decode cL_law 159 = .ok (.iload 4, 2) := by decide +kernel
theorem dL_law_161 : decode cL_law 161 = .ok (.iconst 3, 1) := by decide +kernel
theorem dL_law_162 : decode cL_law 162 = .ok (.iadd, 1) := by decide +kernel
theorem dL_law_163 : decode cL_law 163 = .ok (.iaload, 1) := by decide +kernel
theorem dL_law_164 : decode cL_law 164 = .ok (.i2l, 1) := by decide +kernel
theorem dL_law_165 : decode cL_law 165 = .ok (.ldc2_w 79, 3) := by decide +kernel
theorem dL_law_168 : decode cL_law 168 = .ok (.land, 1) := by decide +kernel
theorem dL_law_169 : decode cL_law 169 = .ok (.lor, 1) := by decide +kernel
theorem dL_law_170 : decode cL_law 170 = .ok (.aload_n 0, 1) := by decide +kernel
theorem dL_law_171 : decode cL_law 171 = .ok (.iload 4, 2) := by decide +kernel
theorem dL_law_173 : decode cL_law 173 = .ok (.iconst 4, 1) := by decide +kernel
theorem dL_law_174 : decode cL_law 174 = .ok (.iadd, 1) := by decide +kernel
theorem dL_law_175 : decode cL_law 175 = .ok (.iaload, 1) := by decide +kernel
theorem dL_law_176 : decode cL_law 176 = .ok (.i2l, 1) := by decide +kernel
theorem dL_law_177 : decode cL_law 177 = .ok (.bipush 32, 2) := by decide +kernel
theorem dL_law_179 : decode cL_law 179 = .ok (.lshl, 1) := by decide +kernel
theorem dL_law_180 : decode cL_law 180 = .ok (.aload_n 0, 1) := by decide +kernel
theorem dL_law_181 : decode cL_law 181 = .ok (.iload 4, 2) := by decide +kernel
theorem dL_law_183 : decode cL_law 183 = .ok (.iconst 5, 1) := by decide +kernel
theorem dL_law_184 : decode cL_law 184 = .ok (.iadd, 1) := by decide +kernel
theorem dL_law_185 : decode cL_law 185 = .ok (.iaload, 1) := by decide +kernel
theorem dL_law_186 : decode cL_law 186 = .ok (.i2l, 1) := by decide +kernel
theorem dL_law_187 : decode cL_law 187 = .ok (.ldc2_w 79, 3) := by decide +kernel
theorem dL_law_190 : decode cL_law 190 = .ok (.land, 1) := by decide +kernel
theorem dL_law_191 : decode cL_law 191 = .ok (.lor, 1) := by decide +kernel
theorem dL_law_192 : decode cL_law 192 = .ok (.aload_n 0, 1) := by decide +kernel
theorem dL_law_193 : decode cL_law 193 = .ok (.iload 4, 2) := by decide +kernel
theorem dL_law_195 : decode cL_law 195 = .ok (.bipush 6, 2) := by decide +kernel
theorem dL_law_197 : decode cL_law 197 = .ok (.iadd, 1) := by decide +kernel
theorem dL_law_198 : decode cL_law 198 = .ok (.iaload, 1) := by decide +kernel
theorem dL_law_199 : decode cL_law 199 = .ok (.i2l, 1) := by decide +kernel
theorem dL_law_200 : decode cL_law 200 = .ok (.bipush 32, 2) := by decide +kernel
theorem dL_law_202 : decode cL_law 202 = .ok (.lshl, 1) := by decide +kernel
theorem dL_law_203 : decode cL_law 203 = .ok (.aload_n 0, 1) := by decide +kernel
theorem dL_law_204 : decode cL_law 204 = .ok (.iload 4, 2) := by decide +kernel
theorem dL_law_206 : decode cL_law 206 = .ok (.bipush 7, 2) := by decide +kernel
theorem dL_law_208 : decode cL_law 208 = .ok (.iadd, 1) := by decide +kernel
theorem dL_law_209 : decode cL_law 209 = .ok (.iaload, 1) := by decide +kernel
theorem dL_law_210 : decode cL_law 210 = .ok (.i2l, 1) := by decide +kernel
theorem dL_law_211 : decode cL_law 211 = .ok (.ldc2_w 79, 3) := by decide +kernel
theorem dL_law_214 : decode cL_law 214 = .ok (.land, 1) := by decide +kernel
theorem dL_law_215 : decode cL_law 215 = .ok (.lor, 1) := by decide +kernel
theorem dL_law_216 : decode cL_law 216 = .ok (.aload_n 0, 1) := by decide +kernel
theorem dL_law_217 : decode cL_law 217 = .ok (.iload 4, 2) := by decide +kernel
theorem dL_law_219 : decode cL_law 219 = .ok (.bipush 8, 2) := by decide +kernel
theorem dL_law_221 : decode cL_law 221 = .ok (.iadd, 1) := by decide +kernel
theorem dL_law_222 : decode cL_law 222 = .ok (.iaload, 1) := by decide +kernel
theorem dL_law_223 : decode cL_law 223 = .ok (.aload_n 3, 1) := by decide +kernel
theorem dL_law_224 : decode cL_law 224 = .ok (.invokestatic 81, 3) := by decide +kernel
theorem dL_law_227 : decode cL_law 227 = .ok (.istore 5, 2) := by decide +kernel
theorem dL_law_229 : decode cL_law 229 = .ok (.aload_n 2, 1) := by decide +kernel
theorem dL_law_230 : decode cL_law 230 = .ok (.aload_n 0, 1) := by decide +kernel
theorem dL_law_231 : decode cL_law 231 = .ok (.iload 4, 2) := by decide +kernel
theorem dL_law_233 : decode cL_law 233 = .ok (.iconst 1, 1) := by decide +kernel
theorem dL_law_234 : decode cL_law 234 = .ok (.iadd, 1) := by decide +kernel
theorem dL_law_235 : decode cL_law 235 = .ok (.iaload, 1) := by decide +kernel
theorem dL_law_236 : decode cL_law 236 = .ok (.aload_n 0, 1) := by decide +kernel
theorem dL_law_237 : decode cL_law 237 = .ok (.iload 4, 2) := by decide +kernel
theorem dL_law_239 : decode cL_law 239 = .ok (.iconst 2, 1) := by decide +kernel
theorem dL_law_240 : decode cL_law 240 = .ok (.iadd, 1) := by decide +kernel
theorem dL_law_241 : decode cL_law 241 = .ok (.iaload, 1) := by decide +kernel
theorem dL_law_242 : decode cL_law 242 = .ok (.i2l, 1) := by decide +kernel
theorem dL_law_243 : decode cL_law 243 = .ok (.bipush 32, 2) := by decide +kernel
theorem dL_law_245 : decode cL_law 245 = .ok (.lshl, 1) := by decide +kernel
theorem dL_law_246 : decode cL_law 246 = .ok (.aload_n 0, 1) := by decide +kernel
theorem dL_law_247 : decode cL_law 247 = .ok (.iload 4, 2) := by decide +kernel
theorem dL_law_249 : decode cL_law 249 = .ok (.iconst 3, 1) := by decide +kernel
theorem dL_law_250 : decode cL_law 250 = .ok (.iadd, 1) := by decide +kernel
theorem dL_law_251 : decode cL_law 251 = .ok (.iaload, 1) := by decide +kernel
theorem dL_law_252 : decode cL_law 252 = .ok (.i2l, 1) := by decide +kernel
theorem dL_law_253 : decode cL_law 253 = .ok (.ldc2_w 79, 3) := by decide +kernel
theorem dL_law_256 : decode cL_law 256 = .ok (.land, 1) := by decide +kernel
theorem dL_law_257 : decode cL_law 257 = .ok (.lor, 1) := by decide +kernel
theorem dL_law_258 : decode cL_law 258 = .ok (.aload_n 0, 1) := by decide +kernel
theorem dL_law_259 : decode cL_law 259 = .ok (.iload 4, 2) := by decide +kernel
theorem dL_law_261 : decode cL_law 261 = .ok (.iconst 4, 1) := by decide +kernel
theorem dL_law_262 : decode cL_law 262 = .ok (.iadd, 1) := by decide +kernel
theorem dL_law_263 : decode cL_law 263 = .ok (.iaload, 1) := by decide +kernel
theorem dL_law_264 : decode cL_law 264 = .ok (.i2l, 1) := by decide +kernel
theorem dL_law_265 : decode cL_law 265 = .ok (.bipush 32, 2) := by decide +kernel
theorem dL_law_267 : decode cL_law 267 = .ok (.lshl, 1) := by decide +kernel
theorem dL_law_268 : decode cL_law 268 = .ok (.aload_n 0, 1) := by decide +kernel
theorem dL_law_269 : decode cL_law 269 = .ok (.iload 4, 2) := by decide +kernel
theorem dL_law_271 : decode cL_law 271 = .ok (.iconst 5, 1) := by decide +kernel
theorem dL_law_272 : decode cL_law 272 = .ok (.iadd, 1) := by decide +kernel
theorem dL_law_273 : decode cL_law 273 = .ok (.iaload, 1) := by decide +kernel
theorem dL_law_274 : decode cL_law 274 = .ok (.i2l, 1) := by decide +kernel
theorem dL_law_275 : decode cL_law 275 = .ok (.ldc2_w 79, 3) := by decide +kernel
theorem dL_law_278 : decode cL_law 278 = .ok (.land, 1) := by decide +kernel
theorem dL_law_279 : decode cL_law 279 = .ok (.lor, 1) := by decide +kernel
theorem dL_law_280 : decode cL_law 280 = .ok (.aload_n 0, 1) := by decide +kernel
theorem dL_law_281 : decode cL_law 281 = .ok (.iload 4, 2) := by decide +kernel
theorem dL_law_283 : decode cL_law 283 = .ok (.bipush 6, 2) := by decide +kernel
theorem dL_law_285 : decode cL_law 285 = .ok (.iadd, 1) := by decide +kernel
theorem dL_law_286 : decode cL_law 286 = .ok (.iaload, 1) := by decide +kernel
theorem dL_law_287 : decode cL_law 287 = .ok (.i2l, 1) := by decide +kernel
theorem dL_law_288 : decode cL_law 288 = .ok (.bipush 32, 2) := by decide +kernel
theorem dL_law_290 : decode cL_law 290 = .ok (.lshl, 1) := by decide +kernel
theorem dL_law_291 : decode cL_law 291 = .ok (.aload_n 0, 1) := by decide +kernel
theorem dL_law_292 : decode cL_law 292 = .ok (.iload 4, 2) := by decide +kernel
theorem dL_law_294 : decode cL_law 294 = .ok (.bipush 7, 2) := by decide +kernel
theorem dL_law_296 : decode cL_law 296 = .ok (.iadd, 1) := by decide +kernel
theorem dL_law_297 : decode cL_law 297 = .ok (.iaload, 1) := by decide +kernel
theorem dL_law_298 : decode cL_law 298 = .ok (.i2l, 1) := by decide +kernel
theorem dL_law_299 : decode cL_law 299 = .ok (.ldc2_w 79, 3) := by decide +kernel
theorem dL_law_302 : decode cL_law 302 = .ok (.land, 1) := by decide +kernel
theorem dL_law_303 : decode cL_law 303 = .ok (.lor, 1) := by decide +kernel
theorem dL_law_304 : decode cL_law 304 = .ok (.aload_n 0, 1) := by decide +kernel
theorem dL_law_305 : decode cL_law 305 = .ok (.iload 4, 2) := by decide +kernel
theorem dL_law_307 : decode cL_law 307 = .ok (.bipush 8, 2) := by decide +kernel
theorem dL_law_309 : decode cL_law 309 = .ok (.iadd, 1) := by decide +kernel
theorem dL_law_310 : decode cL_law 310 = .ok (.iaload, 1) := by decide +kernel
theorem dL_law_311 : decode cL_law 311 = .ok (.invokevirtual 86, 3) := by decide +kernel
theorem dL_law_314 : decode cL_law 314 = .ok (.istore 6, 2) := by decide +kernel
theorem dL_law_316 : decode cL_law 316 = .ok (.aload_n 2, 1) := by decide +kernel
theorem dL_law_317 : decode cL_law 317 = .ok (.invokevirtual 87, 3) := by decide +kernel
theorem dL_law_320 : decode cL_law 320 = .ok (.iload 5, 2) := by decide +kernel
theorem dL_law_322 : decode cL_law 322 = .ok (.if_icmp .eq 5, 3) := by decide +kernel
theorem dL_law_325 : decode cL_law 325 = .ok (.iconst 0, 1) := by decide +kernel
theorem dL_law_326 : decode cL_law 326 = .ok (.ireturn, 1) := by decide +kernel
theorem dL_law_327 : decode cL_law 327 = .ok (.iload 5, 2) := by decide +kernel
theorem dL_law_329 : decode cL_law 329 = .ok (.ifCond .ne 15, 3) := by decide +kernel
theorem dL_law_332 : decode cL_law 332 = .ok (.aload_n 3, 1) := by decide +kernel
theorem dL_law_333 : decode cL_law 333 = .ok (.iconst 0, 1) := by decide +kernel
theorem dL_law_334 : decode cL_law 334 = .ok (.laload, 1) := by decide +kernel
theorem dL_law_335 : decode cL_law 335 = .ok (.iload 6, 2) := by decide +kernel
theorem dL_law_337 : decode cL_law 337 = .ok (.i2l, 1) := by decide +kernel
theorem dL_law_338 : decode cL_law 338 = .ok (.lcmp, 1) := by decide +kernel
theorem dL_law_339 : decode cL_law 339 = .ok (.ifCond .eq 5, 3) := by decide +kernel
theorem dL_law_342 : decode cL_law 342 = .ok (.iconst 0, 1) := by decide +kernel
theorem dL_law_343 : decode cL_law 343 = .ok (.ireturn, 1) := by decide +kernel
theorem dL_law_344 : decode cL_law 344 = .ok (.goto 1205, 3) := by decide +kernel
theorem dL_law_347 : decode cL_law 347 = .ok (.aload_n 1, 1) := by decide +kernel
theorem dL_law_348 : decode cL_law 348 = .ok (.aload_n 0, 1) := by decide +kernel
theorem dL_law_349 : decode cL_law 349 = .ok (.iload 4, 2) := by decide +kernel
theorem dL_law_351 : decode cL_law 351 = .ok (.iconst 1, 1) := by decide +kernel
theorem dL_law_352 : decode cL_law 352 = .ok (.iadd, 1) := by decide +kernel
theorem dL_law_353 : decode cL_law 353 = .ok (.iaload, 1) := by decide +kernel
theorem dL_law_354 : decode cL_law 354 = .ok (.aload_n 0, 1) := by decide +kernel
theorem dL_law_355 : decode cL_law 355 = .ok (.iload 4, 2) := by decide +kernel
theorem dL_law_357 : decode cL_law 357 = .ok (.iconst 2, 1) := by decide +kernel
theorem dL_law_358 : decode cL_law 358 = .ok (.iadd, 1) := by decide +kernel
theorem dL_law_359 : decode cL_law 359 = .ok (.iaload, 1) := by decide +kernel
theorem dL_law_360 : decode cL_law 360 = .ok (.i2l, 1) := by decide +kernel
theorem dL_law_361 : decode cL_law 361 = .ok (.bipush 32, 2) := by decide +kernel
theorem dL_law_363 : decode cL_law 363 = .ok (.lshl, 1) := by decide +kernel
theorem dL_law_364 : decode cL_law 364 = .ok (.aload_n 0, 1) := by decide +kernel
theorem dL_law_365 : decode cL_law 365 = .ok (.iload 4, 2) := by decide +kernel
theorem dL_law_367 : decode cL_law 367 = .ok (.iconst 3, 1) := by decide +kernel
theorem dL_law_368 : decode cL_law 368 = .ok (.iadd, 1) := by decide +kernel
theorem dL_law_369 : decode cL_law 369 = .ok (.iaload, 1) := by decide +kernel
theorem dL_law_370 : decode cL_law 370 = .ok (.i2l, 1) := by decide +kernel
theorem dL_law_371 : decode cL_law 371 = .ok (.ldc2_w 79, 3) := by decide +kernel
theorem dL_law_374 : decode cL_law 374 = .ok (.land, 1) := by decide +kernel
theorem dL_law_375 : decode cL_law 375 = .ok (.lor, 1) := by decide +kernel
theorem dL_law_376 : decode cL_law 376 = .ok (.aload_n 3, 1) := by decide +kernel
theorem dL_law_377 : decode cL_law 377 = .ok (.invokestatic 90, 3) := by decide +kernel
theorem dL_law_380 : decode cL_law 380 = .ok (.istore 5, 2) := by decide +kernel
theorem dL_law_382 : decode cL_law 382 = .ok (.aload_n 2, 1) := by decide +kernel
theorem dL_law_383 : decode cL_law 383 = .ok (.aload_n 0, 1) := by decide +kernel
theorem dL_law_384 : decode cL_law 384 = .ok (.iload 4, 2) := by decide +kernel
theorem dL_law_386 : decode cL_law 386 = .ok (.iconst 1, 1) := by decide +kernel
theorem dL_law_387 : decode cL_law 387 = .ok (.iadd, 1) := by decide +kernel
theorem dL_law_388 : decode cL_law 388 = .ok (.iaload, 1) := by decide +kernel
theorem dL_law_389 : decode cL_law 389 = .ok (.aload_n 0, 1) := by decide +kernel
theorem dL_law_390 : decode cL_law 390 = .ok (.iload 4, 2) := by decide +kernel
theorem dL_law_392 : decode cL_law 392 = .ok (.iconst 2, 1) := by decide +kernel
theorem dL_law_393 : decode cL_law 393 = .ok (.iadd, 1) := by decide +kernel
theorem dL_law_394 : decode cL_law 394 = .ok (.iaload, 1) := by decide +kernel
theorem dL_law_395 : decode cL_law 395 = .ok (.i2l, 1) := by decide +kernel
theorem dL_law_396 : decode cL_law 396 = .ok (.bipush 32, 2) := by decide +kernel
theorem dL_law_398 : decode cL_law 398 = .ok (.lshl, 1) := by decide +kernel
theorem dL_law_399 : decode cL_law 399 = .ok (.aload_n 0, 1) := by decide +kernel
theorem dL_law_400 : decode cL_law 400 = .ok (.iload 4, 2) := by decide +kernel
theorem dL_law_402 : decode cL_law 402 = .ok (.iconst 3, 1) := by decide +kernel
theorem dL_law_403 : decode cL_law 403 = .ok (.iadd, 1) := by decide +kernel
theorem dL_law_404 : decode cL_law 404 = .ok (.iaload, 1) := by decide +kernel
theorem dL_law_405 : decode cL_law 405 = .ok (.i2l, 1) := by decide +kernel
theorem dL_law_406 : decode cL_law 406 = .ok (.ldc2_w 79, 3) := by decide +kernel
theorem dL_law_409 : decode cL_law 409 = .ok (.land, 1) := by decide +kernel
theorem dL_law_410 : decode cL_law 410 = .ok (.lor, 1) := by decide +kernel
theorem dL_law_411 : decode cL_law 411 = .ok (.invokevirtual 93, 3) := by decide +kernel
theorem dL_law_414 : decode cL_law 414 = .ok (.lstore 6, 2) := by decide +kernel
theorem dL_law_416 : decode cL_law 416 = .ok (.aload_n 2, 1) := by decide +kernel
theorem dL_law_417 : decode cL_law 417 = .ok (.invokevirtual 87, 3) := by decide +kernel
theorem dL_law_420 : decode cL_law 420 = .ok (.iload 5, 2) := by decide +kernel
theorem dL_law_422 : decode cL_law 422 = .ok (.if_icmp .eq 5, 3) := by decide +kernel
theorem dL_law_425 : decode cL_law 425 = .ok (.iconst 0, 1) := by decide +kernel
end
section
theorem dL_law_426 : decode cL_law 426 = .ok (.ireturn, 1) := by decide +kernel
theorem dL_law_427 : decode cL_law 427 = .ok (.iload 5, 2) := by decide +kernel
theorem dL_law_429 : decode cL_law 429 = .ok (.ifCond .ne 14, 3) := by decide +kernel
theorem dL_law_432 : decode cL_law 432 = .ok (.aload_n 3, 1) := by decide +kernel
theorem dL_law_433 : decode cL_law 433 = .ok (.iconst 0, 1) := by decide +kernel
theorem dL_law_434 : decode cL_law 434 = .ok (.laload, 1) := by decide +kernel
theorem dL_law_435 : decode cL_law 435 = .ok (.lload 6, 2) := by decide +kernel
theorem dL_law_437 : decode cL_law 437 = .ok (.lcmp, 1) := by decide +kernel
theorem dL_law_438 : decode cL_law 438 = .ok (.ifCond .eq 5, 3) := by decide +kernel
theorem dL_law_441 : decode cL_law 441 = .ok (.iconst 0, 1) := by decide +kernel
theorem dL_law_442 : decode cL_law 442 = .ok (.ireturn, 1) := by decide +kernel
theorem dL_law_443 : decode cL_law 443 = .ok (.goto 1106, 3) := by decide +kernel
theorem dL_law_446 : decode cL_law 446 = .ok (.aload_n 1, 1) := by decide +kernel
theorem dL_law_447 : decode cL_law 447 = .ok (.aload_n 0, 1) := by decide +kernel
theorem dL_law_448 : decode cL_law 448 = .ok (.iload 4, 2) := by decide +kernel
theorem dL_law_450 : decode cL_law 450 = .ok (.iconst 1, 1) := by decide +kernel
theorem dL_law_451 : decode cL_law 451 = .ok (.iadd, 1) := by decide +kernel
theorem dL_law_452 : decode cL_law 452 = .ok (.iaload, 1) := by decide +kernel
theorem dL_law_453 : decode cL_law 453 = .ok (.invokevirtual 94, 3) := by decide +kernel
theorem dL_law_456 : decode cL_law 456 = .ok (.aload_n 2, 1) := by decide +kernel
theorem dL_law_457 : decode cL_law 457 = .ok (.aload_n 0, 1) := by decide +kernel
theorem dL_law_458 : decode cL_law 458 = .ok (.iload 4, 2) := by decide +kernel
theorem dL_law_460 : decode cL_law 460 = .ok (.iconst 1, 1) := by decide +kernel
theorem dL_law_461 : decode cL_law 461 = .ok (.iadd, 1) := by decide +kernel
theorem dL_law_462 : decode cL_law 462 = .ok (.iaload, 1) := by decide +kernel
theorem dL_law_463 : decode cL_law 463 = .ok (.invokevirtual 98, 3) := by decide +kernel
theorem dL_law_466 : decode cL_law 466 = .ok (.if_icmp .eq 1083, 3) := by decide +kernel
theorem dL_law_469 : decode cL_law 469 = .ok (.iconst 0, 1) := by decide +kernel
theorem dL_law_470 : decode cL_law 470 = .ok (.ireturn, 1) := by decide +kernel
theorem dL_law_471 : decode cL_law 471 = .ok (.aload_n 1, 1) := by decide +kernel
theorem dL_law_472 : decode cL_law 472 = .ok (.aload_n 0, 1) := by decide +kernel
theorem dL_law_473 : decode cL_law 473 = .ok (.iload 4, 2) := by decide +kernel
theorem dL_law_475 : decode cL_law 475 = .ok (.iconst 1, 1) := by decide +kernel
theorem dL_law_476 : decode cL_law 476 = .ok (.iadd, 1) := by decide +kernel
theorem dL_law_477 : decode cL_law 477 = .ok (.iaload, 1) := by decide +kernel
theorem dL_law_478 : decode cL_law 478 = .ok (.i2l, 1) := by decide +kernel
theorem dL_law_479 : decode cL_law 479 = .ok (.bipush 32, 2) := by decide +kernel
theorem dL_law_481 : decode cL_law 481 = .ok (.lshl, 1) := by decide +kernel
theorem dL_law_482 : decode cL_law 482 = .ok (.aload_n 0, 1) := by decide +kernel
theorem dL_law_483 : decode cL_law 483 = .ok (.iload 4, 2) := by decide +kernel
theorem dL_law_485 : decode cL_law 485 = .ok (.iconst 2, 1) := by decide +kernel
theorem dL_law_486 : decode cL_law 486 = .ok (.iadd, 1) := by decide +kernel
theorem dL_law_487 : decode cL_law 487 = .ok (.iaload, 1) := by decide +kernel
theorem dL_law_488 : decode cL_law 488 = .ok (.i2l, 1) := by decide +kernel
theorem dL_law_489 : decode cL_law 489 = .ok (.ldc2_w 79, 3) := by decide +kernel
theorem dL_law_492 : decode cL_law 492 = .ok (.land, 1) := by decide +kernel
theorem dL_law_493 : decode cL_law 493 = .ok (.lor, 1) := by decide +kernel
theorem dL_law_494 : decode cL_law 494 = .ok (.aload_n 0, 1) := by decide +kernel
theorem dL_law_495 : decode cL_law 495 = .ok (.iload 4, 2) := by decide +kernel
theorem dL_law_497 : decode cL_law 497 = .ok (.iconst 3, 1) := by decide +kernel
theorem dL_law_498 : decode cL_law 498 = .ok (.iadd, 1) := by decide +kernel
theorem dL_law_499 : decode cL_law 499 = .ok (.iaload, 1) := by decide +kernel
theorem dL_law_500 : decode cL_law 500 = .ok (.i2l, 1) := by decide +kernel
theorem dL_law_501 : decode cL_law 501 = .ok (.bipush 32, 2) := by decide +kernel
theorem dL_law_503 : decode cL_law 503 = .ok (.lshl, 1) := by decide +kernel
theorem dL_law_504 : decode cL_law 504 = .ok (.aload_n 0, 1) := by decide +kernel
theorem dL_law_505 : decode cL_law 505 = .ok (.iload 4, 2) := by decide +kernel
theorem dL_law_507 : decode cL_law 507 = .ok (.iconst 4, 1) := by decide +kernel
theorem dL_law_508 : decode cL_law 508 = .ok (.iadd, 1) := by decide +kernel
theorem dL_law_509 : decode cL_law 509 = .ok (.iaload, 1) := by decide +kernel
theorem dL_law_510 : decode cL_law 510 = .ok (.i2l, 1) := by decide +kernel
theorem dL_law_511 : decode cL_law 511 = .ok (.ldc2_w 79, 3) := by decide +kernel
theorem dL_law_514 : decode cL_law 514 = .ok (.land, 1) := by decide +kernel
theorem dL_law_515 : decode cL_law 515 = .ok (.lor, 1) := by decide +kernel
theorem dL_law_516 : decode cL_law 516 = .ok (.aload_n 3, 1) := by decide +kernel
theorem dL_law_517 : decode cL_law 517 = .ok (.invokestatic 99, 3) := by decide +kernel
theorem dL_law_520 : decode cL_law 520 = .ok (.istore 5, 2) := by decide +kernel
theorem dL_law_522 : decode cL_law 522 = .ok (.aload_n 2, 1) := by decide +kernel
theorem dL_law_523 : decode cL_law 523 = .ok (.aload_n 0, 1) := by decide +kernel
theorem dL_law_524 : decode cL_law 524 = .ok (.iload 4, 2) := by decide +kernel
theorem dL_law_526 : decode cL_law 526 = .ok (.iconst 1, 1) := by decide +kernel
theorem dL_law_527 : decode cL_law 527 = .ok (.iadd, 1) := by decide +kernel
theorem dL_law_528 : decode cL_law 528 = .ok (.iaload, 1) := by decide +kernel
theorem dL_law_529 : decode cL_law 529 = .ok (.i2l, 1) := by decide +kernel
theorem dL_law_530 : decode cL_law 530 = .ok (.bipush 32, 2) := by decide +kernel
theorem dL_law_532 : decode cL_law 532 = .ok (.lshl, 1) := by decide +kernel
theorem dL_law_533 : decode cL_law 533 = .ok (.aload_n 0, 1) := by decide +kernel
theorem dL_law_534 : decode cL_law 534 = .ok (.iload 4, 2) := by decide +kernel
theorem dL_law_536 : decode cL_law 536 = .ok (.iconst 2, 1) := by decide +kernel
theorem dL_law_537 : decode cL_law 537 = .ok (.iadd, 1) := by decide +kernel
theorem dL_law_538 : decode cL_law 538 = .ok (.iaload, 1) := by decide +kernel
theorem dL_law_539 : decode cL_law 539 = .ok (.i2l, 1) := by decide +kernel
theorem dL_law_540 : decode cL_law 540 = .ok (.ldc2_w 79, 3) := by decide +kernel
theorem dL_law_543 : decode cL_law 543 = .ok (.land, 1) := by decide +kernel
theorem dL_law_544 : decode cL_law 544 = .ok (.lor, 1) := by decide +kernel
theorem dL_law_545 : decode cL_law 545 = .ok (.aload_n 0, 1) := by decide +kernel
theorem dL_law_546 : decode cL_law 546 = .ok (.iload 4, 2) := by decide +kernel
theorem dL_law_548 : decode cL_law 548 = .ok (.iconst 3, 1) := by decide +kernel
theorem dL_law_549 : decode cL_law 549 = .ok (.iadd, 1) := by decide +kernel
theorem dL_law_550 : decode cL_law 550 = .ok (.iaload, 1) := by decide +kernel
theorem dL_law_551 : decode cL_law 551 = .ok (.i2l, 1) := by decide +kernel
theorem dL_law_552 : decode cL_law 552 = .ok (.bipush 32, 2) := by decide +kernel
theorem dL_law_554 : decode cL_law 554 = .ok (.lshl, 1) := by decide +kernel
theorem dL_law_555 : decode cL_law 555 = .ok (.aload_n 0, 1) := by decide +kernel
theorem dL_law_556 : decode cL_law 556 = .ok (.iload 4, 2) := by decide +kernel
theorem dL_law_558 : decode cL_law 558 = .ok (.iconst 4, 1) := by decide +kernel
theorem dL_law_559 : decode cL_law 559 = .ok (.iadd, 1) := by decide +kernel
theorem dL_law_560 : decode cL_law 560 = .ok (.iaload, 1) := by decide +kernel
theorem dL_law_561 : decode cL_law 561 = .ok (.i2l, 1) := by decide +kernel
theorem dL_law_562 : decode cL_law 562 = .ok (.ldc2_w 79, 3) := by decide +kernel
theorem dL_law_565 : decode cL_law 565 = .ok (.land, 1) := by decide +kernel
theorem dL_law_566 : decode cL_law 566 = .ok (.lor, 1) := by decide +kernel
theorem dL_law_567 : decode cL_law 567 = .ok (.invokevirtual 102, 3) := by decide +kernel
theorem dL_law_570 : decode cL_law 570 = .ok (.istore 6, 2) := by decide +kernel
theorem dL_law_572 : decode cL_law 572 = .ok (.aload_n 2, 1) := by decide +kernel
theorem dL_law_573 : decode cL_law 573 = .ok (.invokevirtual 87, 3) := by decide +kernel
theorem dL_law_576 : decode cL_law 576 = .ok (.iload 5, 2) := by decide +kernel
theorem dL_law_578 : decode cL_law 578 = .ok (.if_icmp .eq 5, 3) := by decide +kernel
theorem dL_law_581 : decode cL_law 581 = .ok (.iconst 0, 1) := by decide +kernel
theorem dL_law_582 : decode cL_law 582 = .ok (.ireturn, 1) := by decide +kernel
theorem dL_law_583 : decode cL_law 583 = .ok (.iload 5, 2) := by decide +kernel
theorem dL_law_585 : decode cL_law 585 = .ok (.ifCond .ne 15, 3) := by decide +kernel
theorem dL_law_588 : decode cL_law 588 = .ok (.aload_n 3, 1) := by decide +kernel
theorem dL_law_589 : decode cL_law 589 = .ok (.iconst 0, 1) := by decide +kernel
theorem dL_law_590 : decode cL_law 590 = .ok (.laload, 1) := by decide +kernel
theorem dL_law_591 : decode cL_law 591 = .ok (.iload 6, 2) := by decide +kernel
theorem dL_law_593 : decode cL_law 593 = .ok (.i2l, 1) := by decide +kernel
theorem dL_law_594 : decode cL_law 594 = .ok (.lcmp, 1) := by decide +kernel
theorem dL_law_595 : decode cL_law 595 = .ok (.ifCond .eq 5, 3) := by decide +kernel
theorem dL_law_598 : decode cL_law 598 = .ok (.iconst 0, 1) := by decide +kernel
theorem dL_law_599 : decode cL_law 599 = .ok (.ireturn, 1) := by decide +kernel
theorem dL_law_600 : decode cL_law 600 = .ok (.goto 949, 3) := by decide +kernel
theorem dL_law_603 : decode cL_law 603 = .ok (.aload_n 1, 1) := by decide +kernel
theorem dL_law_604 : decode cL_law 604 = .ok (.aload_n 0, 1) := by decide +kernel
theorem dL_law_605 : decode cL_law 605 = .ok (.iload 4, 2) := by decide +kernel
theorem dL_law_607 : decode cL_law 607 = .ok (.iconst 1, 1) := by decide +kernel
theorem dL_law_608 : decode cL_law 608 = .ok (.iadd, 1) := by decide +kernel
theorem dL_law_609 : decode cL_law 609 = .ok (.iaload, 1) := by decide +kernel
theorem dL_law_610 : decode cL_law 610 = .ok (.ifCond .eq 7, 3) := by decide +kernel
theorem dL_law_613 : decode cL_law 613 = .ok (.iconst 1, 1) := by decide +kernel
theorem dL_law_614 : decode cL_law 614 = .ok (.goto 4, 3) := by decide +kernel
theorem dL_law_617 : decode cL_law 617 = .ok (.iconst 0, 1) := by decide +kernel
theorem dL_law_618 : decode cL_law 618 = .ok (.invokevirtual 103, 3) := by decide +kernel
theorem dL_law_621 : decode cL_law 621 = .ok (.aload_n 2, 1) := by decide +kernel
theorem dL_law_622 : decode cL_law 622 = .ok (.aload_n 0, 1) := by decide +kernel
theorem dL_law_623 : decode cL_law 623 = .ok (.iload 4, 2) := by decide +kernel
theorem dL_law_625 : decode cL_law 625 = .ok (.iconst 1, 1) := by decide +kernel
theorem dL_law_626 : decode cL_law 626 = .ok (.iadd, 1) := by decide +kernel
theorem dL_law_627 : decode cL_law 627 = .ok (.iaload, 1) := by decide +kernel
theorem dL_law_628 : decode cL_law 628 = .ok (.ifCond .eq 7, 3) := by decide +kernel
theorem dL_law_631 : decode cL_law 631 = .ok (.iconst 1, 1) := by decide +kernel
theorem dL_law_632 : decode cL_law 632 = .ok (.goto 4, 3) := by decide +kernel
theorem dL_law_635 : decode cL_law 635 = .ok (.iconst 0, 1) := by decide +kernel
theorem dL_law_636 : decode cL_law 636 = .ok (.invokevirtual 107, 3) := by decide +kernel
theorem dL_law_639 : decode cL_law 639 = .ok (.if_icmp .eq 910, 3) := by decide +kernel
theorem dL_law_642 : decode cL_law 642 = .ok (.iconst 0, 1) := by decide +kernel
theorem dL_law_643 : decode cL_law 643 = .ok (.ireturn, 1) := by decide +kernel
theorem dL_law_644 : decode cL_law 644 = .ok (.aload_n 1, 1) := by decide +kernel
theorem dL_law_645 : decode cL_law 645 = .ok (.aload_n 0, 1) := by decide +kernel
theorem dL_law_646 : decode cL_law 646 = .ok (.iload 4, 2) := by decide +kernel
theorem dL_law_648 : decode cL_law 648 = .ok (.iconst 1, 1) := by decide +kernel
theorem dL_law_649 : decode cL_law 649 = .ok (.iadd, 1) := by decide +kernel
theorem dL_law_650 : decode cL_law 650 = .ok (.iaload, 1) := by decide +kernel
theorem dL_law_651 : decode cL_law 651 = .ok (.aload_n 0, 1) := by decide +kernel
theorem dL_law_652 : decode cL_law 652 = .ok (.iload 4, 2) := by decide +kernel
theorem dL_law_654 : decode cL_law 654 = .ok (.iconst 2, 1) := by decide +kernel
theorem dL_law_655 : decode cL_law 655 = .ok (.iadd, 1) := by decide +kernel
theorem dL_law_656 : decode cL_law 656 = .ok (.iaload, 1) := by decide +kernel
theorem dL_law_657 : decode cL_law 657 = .ok (.i2l, 1) := by decide +kernel
theorem dL_law_658 : decode cL_law 658 = .ok (.bipush 32, 2) := by decide +kernel
theorem dL_law_660 : decode cL_law 660 = .ok (.lshl, 1) := by decide +kernel
theorem dL_law_661 : decode cL_law 661 = .ok (.aload_n 0, 1) := by decide +kernel
theorem dL_law_662 : decode cL_law 662 = .ok (.iload 4, 2) := by decide +kernel
theorem dL_law_664 : decode cL_law 664 = .ok (.iconst 3, 1) := by decide +kernel
theorem dL_law_665 : decode cL_law 665 = .ok (.iadd, 1) := by decide +kernel
theorem dL_law_666 : decode cL_law 666 = .ok (.iaload, 1) := by decide +kernel
theorem dL_law_667 : decode cL_law 667 = .ok (.i2l, 1) := by decide +kernel
theorem dL_law_668 : decode cL_law 668 = .ok (.ldc2_w 79, 3) := by decide +kernel
theorem dL_law_671 : decode cL_law 671 = .ok (.land, 1) := by decide +kernel
theorem dL_law_672 : decode cL_law 672 = .ok (.lor, 1) := by decide +kernel
theorem dL_law_673 : decode cL_law 673 = .ok (.aload_n 3, 1) := by decide +kernel
theorem dL_law_674 : decode cL_law 674 = .ok (.invokestatic 108, 3) := by decide +kernel
theorem dL_law_677 : decode cL_law 677 = .ok (.istore 5, 2) := by decide +kernel
theorem dL_law_679 : decode cL_law 679 = .ok (.aload_n 2, 1) := by decide +kernel
theorem dL_law_680 : decode cL_law 680 = .ok (.aload_n 0, 1) := by decide +kernel
theorem dL_law_681 : decode cL_law 681 = .ok (.iload 4, 2) := by decide +kernel
theorem dL_law_683 : decode cL_law 683 = .ok (.iconst 1, 1) := by decide +kernel
theorem dL_law_684 : decode cL_law 684 = .ok (.iadd, 1) := by decide +kernel
theorem dL_law_685 : decode cL_law 685 = .ok (.iaload, 1) := by decide +kernel
theorem dL_law_686 : decode cL_law 686 = .ok (.aload_n 0, 1) := by decide +kernel
theorem dL_law_687 : decode cL_law 687 = .ok (.iload 4, 2) := by decide +kernel
theorem dL_law_689 : decode cL_law 689 = .ok (.iconst 2, 1) := by decide +kernel
theorem dL_law_690 : decode cL_law 690 = .ok (.iadd, 1) := by decide +kernel
theorem dL_law_691 : decode cL_law 691 = .ok (.iaload, 1) := by decide +kernel
theorem dL_law_692 : decode cL_law 692 = .ok (.i2l, 1) := by decide +kernel
theorem dL_law_693 : decode cL_law 693 = .ok (.bipush 32, 2) := by decide +kernel
theorem dL_law_695 : decode cL_law 695 = .ok (.lshl, 1) := by decide +kernel
theorem dL_law_696 : decode cL_law 696 = .ok (.aload_n 0, 1) := by decide +kernel
theorem dL_law_697 : decode cL_law 697 = .ok (.iload 4, 2) := by decide +kernel
theorem dL_law_699 : decode cL_law 699 = .ok (.iconst 3, 1) := by decide +kernel
theorem dL_law_700 : decode cL_law 700 = .ok (.iadd, 1) := by decide +kernel
theorem dL_law_701 : decode cL_law 701 = .ok (.iaload, 1) := by decide +kernel
theorem dL_law_702 : decode cL_law 702 = .ok (.i2l, 1) := by decide +kernel
theorem dL_law_703 : decode cL_law 703 = .ok (.ldc2_w 79, 3) := by decide +kernel
theorem dL_law_706 : decode cL_law 706 = .ok (.land, 1) := by decide +kernel
theorem dL_law_707 : decode cL_law 707 = .ok (.lor, 1) := by decide +kernel
theorem dL_law_708 : decode cL_law 708 = .ok (.invokevirtual 110, 3) := by decide +kernel
theorem dL_law_711 : decode cL_law 711 = .ok (.istore 6, 2) := by decide +kernel
theorem dL_law_713 : decode cL_law 713 = .ok (.aload_n 2, 1) := by decide +kernel
theorem dL_law_714 : decode cL_law 714 = .ok (.invokevirtual 87, 3) := by decide +kernel
theorem dL_law_717 : decode cL_law 717 = .ok (.iload 5, 2) := by decide +kernel
theorem dL_law_719 : decode cL_law 719 = .ok (.if_icmp .eq 5, 3) := by decide +kernel
theorem dL_law_722 : decode cL_law 722 = .ok (.iconst 0, 1) := by decide +kernel
theorem dL_law_723 : decode cL_law 723 = .ok (.ireturn, 1) := by decide +kernel
theorem dL_law_724 : decode cL_law 724 = .ok (.iload 5, 2) := by decide +kernel
theorem dL_law_726 : decode cL_law 726 = .ok (.ifCond .ne 15, 3) := by decide +kernel
theorem dL_law_729 : decode cL_law 729 = .ok (.aload_n 3, 1) := by decide +kernel
theorem dL_law_730 : decode cL_law 730 = .ok (.iconst 0, 1) := by decide +kernel
theorem dL_law_731 : decode cL_law 731 = .ok (.laload, 1) := by decide +kernel
theorem dL_law_732 : decode cL_law 732 = .ok (.iload 6, 2) := by decide +kernel
theorem dL_law_734 : decode cL_law 734 = .ok (.i2l, 1) := by decide +kernel
theorem dL_law_735 : decode cL_law 735 = .ok (.lcmp, 1) := by decide +kernel
theorem dL_law_736 : decode cL_law 736 = .ok (.ifCond .eq 5, 3) := by decide +kernel
theorem dL_law_739 : decode cL_law 739 = .ok (.iconst 0, 1) := by decide +kernel
theorem dL_law_740 : decode cL_law 740 = .ok (.ireturn, 1) := by decide +kernel
theorem dL_law_741 : decode cL_law 741 = .ok (.goto 808, 3) := by decide +kernel
theorem dL_law_744 : decode cL_law 744 = .ok (.aload_n 1, 1) := by decide +kernel
theorem dL_law_745 : decode cL_law 745 = .ok (.aload_n 0, 1) := by decide +kernel
theorem dL_law_746 : decode cL_law 746 = .ok (.iload 4, 2) := by decide +kernel
theorem dL_law_748 : decode cL_law 748 = .ok (.iconst 1, 1) := by decide +kernel
theorem dL_law_749 : decode cL_law 749 = .ok (.iadd, 1) := by decide +kernel
theorem dL_law_750 : decode cL_law 750 = .ok (.iaload, 1) := by decide +kernel
theorem dL_law_751 : decode cL_law 751 = .ok (.aload_n 0, 1) := by decide +kernel
theorem dL_law_752 : decode cL_law 752 = .ok (.iload 4, 2) := by decide +kernel
theorem dL_law_754 : decode cL_law 754 = .ok (.iconst 2, 1) := by decide +kernel
theorem dL_law_755 : decode cL_law 755 = .ok (.iadd, 1) := by decide +kernel
theorem dL_law_756 : decode cL_law 756 = .ok (.iaload, 1) := by decide +kernel
theorem dL_law_757 : decode cL_law 757 = .ok (.aload_n 3, 1) := by decide +kernel
theorem dL_law_758 : decode cL_law 758 = .ok (.invokestatic 111, 3) := by decide +kernel
theorem dL_law_761 : decode cL_law 761 = .ok (.istore 5, 2) := by decide +kernel
theorem dL_law_763 : decode cL_law 763 = .ok (.aload_n 2, 1) := by decide +kernel
theorem dL_law_764 : decode cL_law 764 = .ok (.aload_n 0, 1) := by decide +kernel
theorem dL_law_765 : decode cL_law 765 = .ok (.iload 4, 2) := by decide +kernel
theorem dL_law_767 : decode cL_law 767 = .ok (.iconst 1, 1) := by decide +kernel
theorem dL_law_768 : decode cL_law 768 = .ok (.iadd, 1) := by decide +kernel
theorem dL_law_769 : decode cL_law 769 = .ok (.iaload, 1) := by decide +kernel
theorem dL_law_770 : decode cL_law 770 = .ok (.aload_n 0, 1) := by decide +kernel
theorem dL_law_771 : decode cL_law 771 = .ok (.iload 4, 2) := by decide +kernel
theorem dL_law_773 : decode cL_law 773 = .ok (.iconst 2, 1) := by decide +kernel
theorem dL_law_774 : decode cL_law 774 = .ok (.iadd, 1) := by decide +kernel
theorem dL_law_775 : decode cL_law 775 = .ok (.iaload, 1) := by decide +kernel
theorem dL_law_776 : decode cL_law 776 = .ok (.invokevirtual 114, 3) := by decide +kernel
theorem dL_law_779 : decode cL_law 779 = .ok (.lstore 6, 2) := by decide +kernel
theorem dL_law_781 : decode cL_law 781 = .ok (.aload_n 2, 1) := by decide +kernel
theorem dL_law_782 : decode cL_law 782 = .ok (.invokevirtual 87, 3) := by decide +kernel
theorem dL_law_785 : decode cL_law 785 = .ok (.iload 5, 2) := by decide +kernel
theorem dL_law_787 : decode cL_law 787 = .ok (.if_icmp .eq 5, 3) := by decide +kernel
theorem dL_law_790 : decode cL_law 790 = .ok (.iconst 0, 1) := by decide +kernel
theorem dL_law_791 : decode cL_law 791 = .ok (.ireturn, 1) := by decide +kernel
theorem dL_law_792 : decode cL_law 792 = .ok (.iload 5, 2) := by decide +kernel
theorem dL_law_794 : decode cL_law 794 = .ok (.ifCond .ne 14, 3) := by decide +kernel
theorem dL_law_797 : decode cL_law 797 = .ok (.aload_n 3, 1) := by decide +kernel
theorem dL_law_798 : decode cL_law 798 = .ok (.iconst 0, 1) := by decide +kernel
theorem dL_law_799 : decode cL_law 799 = .ok (.laload, 1) := by decide +kernel
theorem dL_law_800 : decode cL_law 800 = .ok (.lload 6, 2) := by decide +kernel
theorem dL_law_802 : decode cL_law 802 = .ok (.lcmp, 1) := by decide +kernel
theorem dL_law_803 : decode cL_law 803 = .ok (.ifCond .eq 5, 3) := by decide +kernel
theorem dL_law_806 : decode cL_law 806 = .ok (.iconst 0, 1) := by decide +kernel
theorem dL_law_807 : decode cL_law 807 = .ok (.ireturn, 1) := by decide +kernel
theorem dL_law_808 : decode cL_law 808 = .ok (.goto 741, 3) := by decide +kernel
theorem dL_law_811 : decode cL_law 811 = .ok (.aload_n 1, 1) := by decide +kernel
theorem dL_law_812 : decode cL_law 812 = .ok (.aload_n 0, 1) := by decide +kernel
theorem dL_law_813 : decode cL_law 813 = .ok (.iload 4, 2) := by decide +kernel
theorem dL_law_815 : decode cL_law 815 = .ok (.iconst 1, 1) := by decide +kernel
theorem dL_law_816 : decode cL_law 816 = .ok (.iadd, 1) := by decide +kernel
theorem dL_law_817 : decode cL_law 817 = .ok (.iaload, 1) := by decide +kernel
theorem dL_law_818 : decode cL_law 818 = .ok (.aload_n 0, 1) := by decide +kernel
theorem dL_law_819 : decode cL_law 819 = .ok (.iload 4, 2) := by decide +kernel
theorem dL_law_821 : decode cL_law 821 = .ok (.iconst 2, 1) := by decide +kernel
theorem dL_law_822 : decode cL_law 822 = .ok (.iadd, 1) := by decide +kernel
theorem dL_law_823 : decode cL_law 823 = .ok (.iaload, 1) := by decide +kernel
theorem dL_law_824 : decode cL_law 824 = .ok (.aload_n 3, 1) := by decide +kernel
theorem dL_law_825 : decode cL_law 825 = .ok (.invokestatic 115, 3) := by decide +kernel
theorem dL_law_828 : decode cL_law 828 = .ok (.istore 5, 2) := by decide +kernel
theorem dL_law_830 : decode cL_law 830 = .ok (.aload_n 2, 1) := by decide +kernel
theorem dL_law_831 : decode cL_law 831 = .ok (.aload_n 0, 1) := by decide +kernel
theorem dL_law_832 : decode cL_law 832 = .ok (.iload 4, 2) := by decide +kernel
theorem dL_law_834 : decode cL_law 834 = .ok (.iconst 1, 1) := by decide +kernel
theorem dL_law_835 : decode cL_law 835 = .ok (.iadd, 1) := by decide +kernel
theorem dL_law_836 : decode cL_law 836 = .ok (.iaload, 1) := by decide +kernel
theorem dL_law_837 : decode cL_law 837 = .ok (.aload_n 0, 1) := by decide +kernel
theorem dL_law_838 : decode cL_law 838 = .ok (.iload 4, 2) := by decide +kernel
theorem dL_law_840 : decode cL_law 840 = .ok (.iconst 2, 1) := by decide +kernel
theorem dL_law_841 : decode cL_law 841 = .ok (.iadd, 1) := by decide +kernel
theorem dL_law_842 : decode cL_law 842 = .ok (.iaload, 1) := by decide +kernel
theorem dL_law_843 : decode cL_law 843 = .ok (.invokevirtual 117, 3) := by decide +kernel
theorem dL_law_846 : decode cL_law 846 = .ok (.lstore 6, 2) := by decide +kernel
theorem dL_law_848 : decode cL_law 848 = .ok (.aload_n 2, 1) := by decide +kernel
theorem dL_law_849 : decode cL_law 849 = .ok (.invokevirtual 87, 3) := by decide +kernel
theorem dL_law_852 : decode cL_law 852 = .ok (.iload 5, 2) := by decide +kernel
theorem dL_law_854 : decode cL_law 854 = .ok (.if_icmp .eq 5, 3) := by decide +kernel
theorem dL_law_857 : decode cL_law 857 = .ok (.iconst 0, 1) := by decide +kernel
theorem dL_law_858 : decode cL_law 858 = .ok (.ireturn, 1) := by decide +kernel
theorem dL_law_859 : decode cL_law 859 = .ok (.iload 5, 2) := by decide +kernel
theorem dL_law_861 : decode cL_law 861 = .ok (.ifCond .ne 14, 3) := by decide +kernel
theorem dL_law_864 : decode cL_law 864 = .ok (.aload_n 3, 1) := by decide +kernel
theorem dL_law_865 : decode cL_law 865 = .ok (.iconst 0, 1) := by decide +kernel
theorem dL_law_866 : decode cL_law 866 = .ok (.laload, 1) := by decide +kernel
theorem dL_law_867 : decode cL_law 867 = .ok (.lload 6, 2) := by decide +kernel
theorem dL_law_869 : decode cL_law 869 = .ok (.lcmp, 1) := by decide +kernel
theorem dL_law_870 : decode cL_law 870 = .ok (.ifCond .eq 5, 3) := by decide +kernel
theorem dL_law_873 : decode cL_law 873 = .ok (.iconst 0, 1) := by decide +kernel
theorem dL_law_874 : decode cL_law 874 = .ok (.ireturn, 1) := by decide +kernel
theorem dL_law_875 : decode cL_law 875 = .ok (.goto 674, 3) := by decide +kernel
theorem dL_law_878 : decode cL_law 878 = .ok (.aload_n 1, 1) := by decide +kernel
theorem dL_law_879 : decode cL_law 879 = .ok (.aload_n 0, 1) := by decide +kernel
theorem dL_law_880 : decode cL_law 880 = .ok (.iload 4, 2) := by decide +kernel
theorem dL_law_882 : decode cL_law 882 = .ok (.iconst 1, 1) := by decide +kernel
theorem dL_law_883 : decode cL_law 883 = .ok (.iadd, 1) := by decide +kernel
theorem dL_law_884 : decode cL_law 884 = .ok (.iaload, 1) := by decide +kernel
theorem dL_law_885 : decode cL_law 885 = .ok (.aload_n 3, 1) := by decide +kernel
theorem dL_law_886 : decode cL_law 886 = .ok (.invokestatic 118, 3) := by decide +kernel
theorem dL_law_889 : decode cL_law 889 = .ok (.istore 5, 2) := by decide +kernel
theorem dL_law_891 : decode cL_law 891 = .ok (.aload_n 2, 1) := by decide +kernel
theorem dL_law_892 : decode cL_law 892 = .ok (.aload_n 0, 1) := by decide +kernel
theorem dL_law_893 : decode cL_law 893 = .ok (.iload 4, 2) := by decide +kernel
theorem dL_law_895 : decode cL_law 895 = .ok (.iconst 1, 1) := by decide +kernel
theorem dL_law_896 : decode cL_law 896 = .ok (.iadd, 1) := by decide +kernel
theorem dL_law_897 : decode cL_law 897 = .ok (.iaload, 1) := by decide +kernel
theorem dL_law_898 : decode cL_law 898 = .ok (.invokevirtual 121, 3) := by decide +kernel
theorem dL_law_901 : decode cL_law 901 = .ok (.istore 6, 2) := by decide +kernel
theorem dL_law_903 : decode cL_law 903 = .ok (.aload_n 2, 1) := by decide +kernel
theorem dL_law_904 : decode cL_law 904 = .ok (.invokevirtual 87, 3) := by decide +kernel
theorem dL_law_907 : decode cL_law 907 = .ok (.iload 5, 2) := by decide +kernel
theorem dL_law_909 : decode cL_law 909 = .ok (.if_icmp .eq 5, 3) := by decide +kernel
theorem dL_law_912 : decode cL_law 912 = .ok (.iconst 0, 1) := by decide +kernel
theorem dL_law_913 : decode cL_law 913 = .ok (.ireturn, 1) := by decide +kernel
theorem dL_law_914 : decode cL_law 914 = .ok (.iload 5, 2) := by decide +kernel
theorem dL_law_916 : decode cL_law 916 = .ok (.ifCond .ne 15, 3) := by decide +kernel
theorem dL_law_919 : decode cL_law 919 = .ok (.aload_n 3, 1) := by decide +kernel
theorem dL_law_920 : decode cL_law 920 = .ok (.iconst 0, 1) := by decide +kernel
theorem dL_law_921 : decode cL_law 921 = .ok (.laload, 1) := by decide +kernel
theorem dL_law_922 : decode cL_law 922 = .ok (.iload 6, 2) := by decide +kernel
theorem dL_law_924 : decode cL_law 924 = .ok (.i2l, 1) := by decide +kernel
theorem dL_law_925 : decode cL_law 925 = .ok (.lcmp, 1) := by decide +kernel
theorem dL_law_926 : decode cL_law 926 = .ok (.ifCond .eq 5, 3) := by decide +kernel
theorem dL_law_929 : decode cL_law 929 = .ok (.iconst 0, 1) := by decide +kernel
theorem dL_law_930 : decode cL_law 930 = .ok (.ireturn, 1) := by decide +kernel
theorem dL_law_931 : decode cL_law 931 = .ok (.goto 618, 3) := by decide +kernel
theorem dL_law_934 : decode cL_law 934 = .ok (.aload_n 1, 1) := by decide +kernel
theorem dL_law_935 : decode cL_law 935 = .ok (.aload_n 0, 1) := by decide +kernel
theorem dL_law_936 : decode cL_law 936 = .ok (.iload 4, 2) := by decide +kernel
theorem dL_law_938 : decode cL_law 938 = .ok (.iconst 1, 1) := by decide +kernel
theorem dL_law_939 : decode cL_law 939 = .ok (.iadd, 1) := by decide +kernel
theorem dL_law_940 : decode cL_law 940 = .ok (.iaload, 1) := by decide +kernel
theorem dL_law_941 : decode cL_law 941 = .ok (.aload_n 0, 1) := by decide +kernel
theorem dL_law_942 : decode cL_law 942 = .ok (.iload 4, 2) := by decide +kernel
theorem dL_law_944 : decode cL_law 944 = .ok (.iconst 2, 1) := by decide +kernel
theorem dL_law_945 : decode cL_law 945 = .ok (.iadd, 1) := by decide +kernel
theorem dL_law_946 : decode cL_law 946 = .ok (.iaload, 1) := by decide +kernel
theorem dL_law_947 : decode cL_law 947 = .ok (.i2l, 1) := by decide +kernel
theorem dL_law_948 : decode cL_law 948 = .ok (.bipush 32, 2) := by decide +kernel
theorem dL_law_950 : decode cL_law 950 = .ok (.lshl, 1) := by decide +kernel
theorem dL_law_951 : decode cL_law 951 = .ok (.aload_n 0, 1) := by decide +kernel
theorem dL_law_952 : decode cL_law 952 = .ok (.iload 4, 2) := by decide +kernel
theorem dL_law_954 : decode cL_law 954 = .ok (.iconst 3, 1) := by decide +kernel
theorem dL_law_955 : decode cL_law 955 = .ok (.iadd, 1) := by decide +kernel
theorem dL_law_956 : decode cL_law 956 = .ok (.iaload, 1) := by decide +kernel
theorem dL_law_957 : decode cL_law 957 = .ok (.i2l, 1) := by decide +kernel
theorem dL_law_958 : decode cL_law 958 = .ok (.ldc2_w 79, 3) := by decide +kernel
theorem dL_law_961 : decode cL_law 961 = .ok (.land, 1) := by decide +kernel
theorem dL_law_962 : decode cL_law 962 = .ok (.lor, 1) := by decide +kernel
theorem dL_law_963 : decode cL_law 963 = .ok (.aload_n 0, 1) := by decide +kernel
theorem dL_law_964 : decode cL_law 964 = .ok (.iload 4, 2) := by decide +kernel
theorem dL_law_966 : decode cL_law 966 = .ok (.iconst 4, 1) := by decide +kernel
theorem dL_law_967 : decode cL_law 967 = .ok (.iadd, 1) := by decide +kernel
theorem dL_law_968 : decode cL_law 968 = .ok (.iaload, 1) := by decide +kernel
theorem dL_law_969 : decode cL_law 969 = .ok (.i2l, 1) := by decide +kernel
theorem dL_law_970 : decode cL_law 970 = .ok (.bipush 32, 2) := by decide +kernel
theorem dL_law_972 : decode cL_law 972 = .ok (.lshl, 1) := by decide +kernel
theorem dL_law_973 : decode cL_law 973 = .ok (.aload_n 0, 1) := by decide +kernel
theorem dL_law_974 : decode cL_law 974 = .ok (.iload 4, 2) := by decide +kernel
theorem dL_law_976 : decode cL_law 976 = .ok (.iconst 5, 1) := by decide +kernel
theorem dL_law_977 : decode cL_law 977 = .ok (.iadd, 1) := by decide +kernel
theorem dL_law_978 : decode cL_law 978 = .ok (.iaload, 1) := by decide +kernel
theorem dL_law_979 : decode cL_law 979 = .ok (.i2l, 1) := by decide +kernel
theorem dL_law_980 : decode cL_law 980 = .ok (.ldc2_w 79, 3) := by decide +kernel
theorem dL_law_983 : decode cL_law 983 = .ok (.land, 1) := by decide +kernel
theorem dL_law_984 : decode cL_law 984 = .ok (.lor, 1) := by decide +kernel
theorem dL_law_985 : decode cL_law 985 = .ok (.aload_n 0, 1) := by decide +kernel
theorem dL_law_986 : decode cL_law 986 = .ok (.iload 4, 2) := by decide +kernel
theorem dL_law_988 : decode cL_law 988 = .ok (.bipush 6, 2) := by decide +kernel
theorem dL_law_990 : decode cL_law 990 = .ok (.iadd, 1) := by decide +kernel
theorem dL_law_991 : decode cL_law 991 = .ok (.iaload, 1) := by decide +kernel
theorem dL_law_992 : decode cL_law 992 = .ok (.i2l, 1) := by decide +kernel
theorem dL_law_993 : decode cL_law 993 = .ok (.bipush 32, 2) := by decide +kernel
theorem dL_law_995 : decode cL_law 995 = .ok (.lshl, 1) := by decide +kernel
theorem dL_law_996 : decode cL_law 996 = .ok (.aload_n 0, 1) := by decide +kernel
theorem dL_law_997 : decode cL_law 997 = .ok (.iload 4, 2) := by decide +kernel
theorem dL_law_999 : decode cL_law 999 = .ok (.bipush 7, 2) := by decide +kernel
theorem dL_law_1001 : decode cL_law 1001 = .ok (.iadd, 1) := by decide +kernel
theorem dL_law_1002 : decode cL_law 1002 = .ok (.iaload, 1) := by decide +kernel
theorem dL_law_1003 : decode cL_law 1003 = .ok (.i2l, 1) := by decide +kernel
theorem dL_law_1004 : decode cL_law 1004 = .ok (.ldc2_w 79, 3) := by decide +kernel
theorem dL_law_1007 : decode cL_law 1007 = .ok (.land, 1) := by decide +kernel
theorem dL_law_1008 : decode cL_law 1008 = .ok (.lor, 1) := by decide +kernel
theorem dL_law_1009 : decode cL_law 1009 = .ok (.aload_n 3, 1) := by decide +kernel
theorem dL_law_1010 : decode cL_law 1010 = .ok (.invokestatic 122, 3) := by decide +kernel
theorem dL_law_1013 : decode cL_law 1013 = .ok (.istore 5, 2) := by decide +kernel
theorem dL_law_1015 : decode cL_law 1015 = .ok (.aload_n 2, 1) := by decide +kernel
theorem dL_law_1016 : decode cL_law 1016 = .ok (.aload_n 0, 1) := by decide +kernel
theorem dL_law_1017 : decode cL_law 1017 = .ok (.iload 4, 2) := by decide +kernel
theorem dL_law_1019 : decode cL_law 1019 = .ok (.iconst 1, 1) := by decide +kernel
theorem dL_law_1020 : decode cL_law 1020 = .ok (.iadd, 1) := by decide +kernel
theorem dL_law_1021 : decode cL_law 1021 = .ok (.iaload, 1) := by decide +kernel
theorem dL_law_1022 : decode cL_law 1022 = .ok (.aload_n 0, 1) := by decide +kernel
theorem dL_law_1023 : decode cL_law 1023 = .ok (.iload 4, 2) := by decide +kernel
theorem dL_law_1025 : decode cL_law 1025 = .ok (.iconst 2, 1) := by decide +kernel
theorem dL_law_1026 : decode cL_law 1026 = .ok (.iadd, 1) := by decide +kernel
theorem dL_law_1027 : decode cL_law 1027 = .ok (.iaload, 1) := by decide +kernel
theorem dL_law_1028 : decode cL_law 1028 = .ok (.i2l, 1) := by decide +kernel
theorem dL_law_1029 : decode cL_law 1029 = .ok (.bipush 32, 2) := by decide +kernel
theorem dL_law_1031 : decode cL_law 1031 = .ok (.lshl, 1) := by decide +kernel
theorem dL_law_1032 : decode cL_law 1032 = .ok (.aload_n 0, 1) := by decide +kernel
theorem dL_law_1033 : decode cL_law 1033 = .ok (.iload 4, 2) := by decide +kernel
theorem dL_law_1035 : decode cL_law 1035 = .ok (.iconst 3, 1) := by decide +kernel
theorem dL_law_1036 : decode cL_law 1036 = .ok (.iadd, 1) := by decide +kernel
theorem dL_law_1037 : decode cL_law 1037 = .ok (.iaload, 1) := by decide +kernel
theorem dL_law_1038 : decode cL_law 1038 = .ok (.i2l, 1) := by decide +kernel
theorem dL_law_1039 : decode cL_law 1039 = .ok (.ldc2_w 79, 3) := by decide +kernel
theorem dL_law_1042 : decode cL_law 1042 = .ok (.land, 1) := by decide +kernel
theorem dL_law_1043 : decode cL_law 1043 = .ok (.lor, 1) := by decide +kernel
theorem dL_law_1044 : decode cL_law 1044 = .ok (.aload_n 0, 1) := by decide +kernel
theorem dL_law_1045 : decode cL_law 1045 = .ok (.iload 4, 2) := by decide +kernel
theorem dL_law_1047 : decode cL_law 1047 = .ok (.iconst 4, 1) := by decide +kernel
theorem dL_law_1048 : decode cL_law 1048 = .ok (.iadd, 1) := by decide +kernel
theorem dL_law_1049 : decode cL_law 1049 = .ok (.iaload, 1) := by decide +kernel
theorem dL_law_1050 : decode cL_law 1050 = .ok (.i2l, 1) := by decide +kernel
theorem dL_law_1051 : decode cL_law 1051 = .ok (.bipush 32, 2) := by decide +kernel
theorem dL_law_1053 : decode cL_law 1053 = .ok (.lshl, 1) := by decide +kernel
theorem dL_law_1054 : decode cL_law 1054 = .ok (.aload_n 0, 1) := by decide +kernel
theorem dL_law_1055 : decode cL_law 1055 = .ok (.iload 4, 2) := by decide +kernel
theorem dL_law_1057 : decode cL_law 1057 = .ok (.iconst 5, 1) := by decide +kernel
theorem dL_law_1058 : decode cL_law 1058 = .ok (.iadd, 1) := by decide +kernel
theorem dL_law_1059 : decode cL_law 1059 = .ok (.iaload, 1) := by decide +kernel
theorem dL_law_1060 : decode cL_law 1060 = .ok (.i2l, 1) := by decide +kernel
theorem dL_law_1061 : decode cL_law 1061 = .ok (.ldc2_w 79, 3) := by decide +kernel
theorem dL_law_1064 : decode cL_law 1064 = .ok (.land, 1) := by decide +kernel
theorem dL_law_1065 : decode cL_law 1065 = .ok (.lor, 1) := by decide +kernel
theorem dL_law_1066 : decode cL_law 1066 = .ok (.aload_n 0, 1) := by decide +kernel
theorem dL_law_1067 : decode cL_law 1067 = .ok (.iload 4, 2) := by decide +kernel
theorem dL_law_1069 : decode cL_law 1069 = .ok (.bipush 6, 2) := by decide +kernel
theorem dL_law_1071 : decode cL_law 1071 = .ok (.iadd, 1) := by decide +kernel
theorem dL_law_1072 : decode cL_law 1072 = .ok (.iaload, 1) := by decide +kernel
theorem dL_law_1073 : decode cL_law 1073 = .ok (.i2l, 1) := by decide +kernel
theorem dL_law_1074 : decode cL_law 1074 = .ok (.bipush 32, 2) := by decide +kernel
theorem dL_law_1076 : decode cL_law 1076 = .ok (.lshl, 1) := by decide +kernel
theorem dL_law_1077 : decode cL_law 1077 = .ok (.aload_n 0, 1) := by decide +kernel
theorem dL_law_1078 : decode cL_law 1078 = .ok (.iload 4, 2) := by decide +kernel
theorem dL_law_1080 : decode cL_law 1080 = .ok (.bipush 7, 2) := by decide +kernel
theorem dL_law_1082 : decode cL_law 1082 = .ok (.iadd, 1) := by decide +kernel
theorem dL_law_1083 : decode cL_law 1083 = .ok (.iaload, 1) := by decide +kernel
theorem dL_law_1084 : decode cL_law 1084 = .ok (.i2l, 1) := by decide +kernel
theorem dL_law_1085 : decode cL_law 1085 = .ok (.ldc2_w 79, 3) := by decide +kernel
theorem dL_law_1088 : decode cL_law 1088 = .ok (.land, 1) := by decide +kernel
theorem dL_law_1089 : decode cL_law 1089 = .ok (.lor, 1) := by decide +kernel
theorem dL_law_1090 : decode cL_law 1090 = .ok (.invokevirtual 125, 3) := by decide +kernel
theorem dL_law_1093 : decode cL_law 1093 = .ok (.istore 6, 2) := by decide +kernel
theorem dL_law_1095 : decode cL_law 1095 = .ok (.aload_n 2, 1) := by decide +kernel
theorem dL_law_1096 : decode cL_law 1096 = .ok (.invokevirtual 87, 3) := by decide +kernel
theorem dL_law_1099 : decode cL_law 1099 = .ok (.iload 5, 2) := by decide +kernel
theorem dL_law_1101 : decode cL_law 1101 = .ok (.if_icmp .eq 5, 3) := by decide +kernel
theorem dL_law_1104 : decode cL_law 1104 = .ok (.iconst 0, 1) := by decide +kernel
theorem dL_law_1105 : decode cL_law 1105 = .ok (.ireturn, 1) := by decide +kernel
theorem dL_law_1106 : decode cL_law 1106 = .ok (.iload 5, 2) := by decide +kernel
theorem dL_law_1108 : decode cL_law 1108 = .ok (.ifCond .ne 15, 3) := by decide +kernel
theorem dL_law_1111 : decode cL_law 1111 = .ok (.aload_n 3, 1) := by decide +kernel
theorem dL_law_1112 : decode cL_law 1112 = .ok (.iconst 0, 1) := by decide +kernel
theorem dL_law_1113 : decode cL_law 1113 = .ok (.laload, 1) := by decide +kernel
theorem dL_law_1114 : decode cL_law 1114 = .ok (.iload 6, 2) := by decide +kernel
theorem dL_law_1116 : decode cL_law 1116 = .ok (.i2l, 1) := by decide +kernel
theorem dL_law_1117 : decode cL_law 1117 = .ok (.lcmp, 1) := by decide +kernel
theorem dL_law_1118 : decode cL_law 1118 = .ok (.ifCond .eq 5, 3) := by decide +kernel
theorem dL_law_1121 : decode cL_law 1121 = .ok (.iconst 0, 1) := by decide +kernel
theorem dL_law_1122 : decode cL_law 1122 = .ok (.ireturn, 1) := by decide +kernel
theorem dL_law_1123 : decode cL_law 1123 = .ok (.goto 426, 3) := by decide +kernel
theorem dL_law_1126 : decode cL_law 1126 = .ok (.aload_n 1, 1) := by decide +kernel
theorem dL_law_1127 : decode cL_law 1127 = .ok (.aload_n 3, 1) := by decide +kernel
theorem dL_law_1128 : decode cL_law 1128 = .ok (.invokestatic 126, 3) := by decide +kernel
theorem dL_law_1131 : decode cL_law 1131 = .ok (.istore 5, 2) := by decide +kernel
theorem dL_law_1133 : decode cL_law 1133 = .ok (.aload_n 2, 1) := by decide +kernel
theorem dL_law_1134 : decode cL_law 1134 = .ok (.invokevirtual 129, 3) := by decide +kernel
theorem dL_law_1137 : decode cL_law 1137 = .ok (.istore 6, 2) := by decide +kernel
theorem dL_law_1139 : decode cL_law 1139 = .ok (.aload_n 2, 1) := by decide +kernel
theorem dL_law_1140 : decode cL_law 1140 = .ok (.invokevirtual 87, 3) := by decide +kernel
theorem dL_law_1143 : decode cL_law 1143 = .ok (.iload 5, 2) := by decide +kernel
theorem dL_law_1145 : decode cL_law 1145 = .ok (.if_icmp .eq 5, 3) := by decide +kernel
theorem dL_law_1148 : decode cL_law 1148 = .ok (.iconst 0, 1) := by decide +kernel
theorem dL_law_1149 : decode cL_law 1149 = .ok (.ireturn, 1) := by decide +kernel
theorem dL_law_1150 : decode cL_law 1150 = .ok (.iload 5, 2) := by decide +kernel
theorem dL_law_1152 : decode cL_law 1152 = .ok (.ifCond .ne 15, 3) := by decide +kernel
theorem dL_law_1155 : decode cL_law 1155 = .ok (.aload_n 3, 1) := by decide +kernel
theorem dL_law_1156 : decode cL_law 1156 = .ok (.iconst 0, 1) := by decide +kernel
theorem dL_law_1157 : decode cL_law 1157 = .ok (.laload, 1) := by decide +kernel
theorem dL_law_1158 : decode cL_law 1158 = .ok (.iload 6, 2) := by decide +kernel
theorem dL_law_1160 : decode cL_law 1160 = .ok (.i2l, 1) := by decide +kernel
theorem dL_law_1161 : decode cL_law 1161 = .ok (.lcmp, 1) := by decide +kernel
theorem dL_law_1162 : decode cL_law 1162 = .ok (.ifCond .eq 5, 3) := by decide +kernel
theorem dL_law_1165 : decode cL_law 1165 = .ok (.iconst 0, 1) := by decide +kernel
theorem dL_law_1166 : decode cL_law 1166 = .ok (.ireturn, 1) := by decide +kernel
theorem dL_law_1167 : decode cL_law 1167 = .ok (.goto 382, 3) := by decide +kernel
theorem dL_law_1170 : decode cL_law 1170 = .ok (.aload_n 1, 1) := by decide +kernel
theorem dL_law_1171 : decode cL_law 1171 = .ok (.aload_n 0, 1) := by decide +kernel
theorem dL_law_1172 : decode cL_law 1172 = .ok (.iload 4, 2) := by decide +kernel
theorem dL_law_1174 : decode cL_law 1174 = .ok (.iconst 1, 1) := by decide +kernel
theorem dL_law_1175 : decode cL_law 1175 = .ok (.iadd, 1) := by decide +kernel
theorem dL_law_1176 : decode cL_law 1176 = .ok (.iaload, 1) := by decide +kernel
theorem dL_law_1177 : decode cL_law 1177 = .ok (.aload_n 3, 1) := by decide +kernel
theorem dL_law_1178 : decode cL_law 1178 = .ok (.invokestatic 130, 3) := by decide +kernel
theorem dL_law_1181 : decode cL_law 1181 = .ok (.istore 5, 2) := by decide +kernel
theorem dL_law_1183 : decode cL_law 1183 = .ok (.aload_n 2, 1) := by decide +kernel
theorem dL_law_1184 : decode cL_law 1184 = .ok (.aload_n 0, 1) := by decide +kernel
theorem dL_law_1185 : decode cL_law 1185 = .ok (.iload 4, 2) := by decide +kernel
theorem dL_law_1187 : decode cL_law 1187 = .ok (.iconst 1, 1) := by decide +kernel
theorem dL_law_1188 : decode cL_law 1188 = .ok (.iadd, 1) := by decide +kernel
theorem dL_law_1189 : decode cL_law 1189 = .ok (.iaload, 1) := by decide +kernel
theorem dL_law_1190 : decode cL_law 1190 = .ok (.invokevirtual 132, 3) := by decide +kernel
theorem dL_law_1193 : decode cL_law 1193 = .ok (.istore 6, 2) := by decide +kernel
theorem dL_law_1195 : decode cL_law 1195 = .ok (.aload_n 2, 1) := by decide +kernel
theorem dL_law_1196 : decode cL_law 1196 = .ok (.invokevirtual 87, 3) := by decide +kernel
theorem dL_law_1199 : decode cL_law 1199 = .ok (.iload 5, 2) := by decide +kernel
theorem dL_law_1201 : decode cL_law 1201 = .ok (.if_icmp .eq 5, 3) := by decide +kernel
theorem dL_law_1204 : decode cL_law 1204 = .ok (.iconst 0, 1) := by decide +kernel
theorem dL_law_1205 : decode cL_law 1205 = .ok (.ireturn, 1) := by decide +kernel
theorem dL_law_1206 : decode cL_law 1206 = .ok (.iload 5, 2) := by decide +kernel
theorem dL_law_1208 : decode cL_law 1208 = .ok (.ifCond .ne 15, 3) := by decide +kernel
theorem dL_law_1211 : decode cL_law 1211 = .ok (.aload_n 3, 1) := by decide +kernel
theorem dL_law_1212 : decode cL_law 1212 = .ok (.iconst 0, 1) := by decide +kernel
theorem dL_law_1213 : decode cL_law 1213 = .ok (.laload, 1) := by decide +kernel
theorem dL_law_1214 : decode cL_law 1214 = .ok (.iload 6, 2) := by decide +kernel
theorem dL_law_1216 : decode cL_law 1216 = .ok (.i2l, 1) := by decide +kernel
theorem dL_law_1217 : decode cL_law 1217 = .ok (.lcmp, 1) := by decide +kernel
theorem dL_law_1218 : decode cL_law 1218 = .ok (.ifCond .eq 5, 3) := by decide +kernel
theorem dL_law_1221 : decode cL_law 1221 = .ok (.iconst 0, 1) := by decide +kernel
theorem dL_law_1222 : decode cL_law 1222 = .ok (.ireturn, 1) := by decide +kernel
theorem dL_law_1223 : decode cL_law 1223 = .ok (.goto 326, 3) := by decide +kernel
theorem dL_law_1226 : decode cL_law 1226 = .ok (.aload_n 1, 1) := by decide +kernel
theorem dL_law_1227 : decode cL_law 1227 = .ok (.aload_n 3, 1) := by decide +kernel
theorem dL_law_1228 : decode cL_law 1228 = .ok (.invokestatic 133, 3) := by decide +kernel
theorem dL_law_1231 : decode cL_law 1231 = .ok (.istore 5, 2) := by decide +kernel
theorem dL_law_1233 : decode cL_law 1233 = .ok (.aload_n 2, 1) := by decide +kernel
theorem dL_law_1234 : decode cL_law 1234 = .ok (.invokevirtual 135, 3) := by decide +kernel
theorem dL_law_1237 : decode cL_law 1237 = .ok (.istore 6, 2) := by decide +kernel
theorem dL_law_1239 : decode cL_law 1239 = .ok (.aload_n 2, 1) := by decide +kernel
theorem dL_law_1240 : decode cL_law 1240 = .ok (.invokevirtual 87, 3) := by decide +kernel
theorem dL_law_1243 : decode cL_law 1243 = .ok (.iload 5, 2) := by decide +kernel
theorem dL_law_1245 : decode cL_law 1245 = .ok (.if_icmp .eq 5, 3) := by decide +kernel
theorem dL_law_1248 : decode cL_law 1248 = .ok (.iconst 0, 1) := by decide +kernel
theorem dL_law_1249 : decode cL_law 1249 = .ok (.ireturn, 1) := by decide +kernel
theorem dL_law_1250 : decode cL_law 1250 = .ok (.iload 5, 2) := by decide +kernel
theorem dL_law_1252 : decode cL_law 1252 = .ok (.ifCond .ne 15, 3) := by decide +kernel
theorem dL_law_1255 : decode cL_law 1255 = .ok (.aload_n 3, 1) := by decide +kernel
theorem dL_law_1256 : decode cL_law 1256 = .ok (.iconst 0, 1) := by decide +kernel
theorem dL_law_1257 : decode cL_law 1257 = .ok (.laload, 1) := by decide +kernel
theorem dL_law_1258 : decode cL_law 1258 = .ok (.iload 6, 2) := by decide +kernel
theorem dL_law_1260 : decode cL_law 1260 = .ok (.i2l, 1) := by decide +kernel
theorem dL_law_1261 : decode cL_law 1261 = .ok (.lcmp, 1) := by decide +kernel
theorem dL_law_1262 : decode cL_law 1262 = .ok (.ifCond .eq 5, 3) := by decide +kernel
theorem dL_law_1265 : decode cL_law 1265 = .ok (.iconst 0, 1) := by decide +kernel
theorem dL_law_1266 : decode cL_law 1266 = .ok (.ireturn, 1) := by decide +kernel
theorem dL_law_1267 : decode cL_law 1267 = .ok (.goto 282, 3) := by decide +kernel
theorem dL_law_1270 : decode cL_law 1270 = .ok (.aload_n 1, 1) := by decide +kernel
theorem dL_law_1271 : decode cL_law 1271 = .ok (.aload_n 0, 1) := by decide +kernel
theorem dL_law_1272 : decode cL_law 1272 = .ok (.iload 4, 2) := by decide +kernel
theorem dL_law_1274 : decode cL_law 1274 = .ok (.iconst 1, 1) := by decide +kernel
theorem dL_law_1275 : decode cL_law 1275 = .ok (.iadd, 1) := by decide +kernel
theorem dL_law_1276 : decode cL_law 1276 = .ok (.iaload, 1) := by decide +kernel
theorem dL_law_1277 : decode cL_law 1277 = .ok (.i2l, 1) := by decide +kernel
theorem dL_law_1278 : decode cL_law 1278 = .ok (.bipush 32, 2) := by decide +kernel
theorem dL_law_1280 : decode cL_law 1280 = .ok (.lshl, 1) := by decide +kernel
theorem dL_law_1281 : decode cL_law 1281 = .ok (.aload_n 0, 1) := by decide +kernel
theorem dL_law_1282 : decode cL_law 1282 = .ok (.iload 4, 2) := by decide +kernel
theorem dL_law_1284 : decode cL_law 1284 = .ok (.iconst 2, 1) := by decide +kernel
theorem dL_law_1285 : decode cL_law 1285 = .ok (.iadd, 1) := by decide +kernel
theorem dL_law_1286 : decode cL_law 1286 = .ok (.iaload, 1) := by decide +kernel
theorem dL_law_1287 : decode cL_law 1287 = .ok (.i2l, 1) := by decide +kernel
theorem dL_law_1288 : decode cL_law 1288 = .ok (.ldc2_w 79, 3) := by decide +kernel
theorem dL_law_1291 : decode cL_law 1291 = .ok (.land, 1) := by decide +kernel
theorem dL_law_1292 : decode cL_law 1292 = .ok (.lor, 1) := by decide +kernel
theorem dL_law_1293 : decode cL_law 1293 = .ok (.aload_n 0, 1) := by decide +kernel
theorem dL_law_1294 : decode cL_law 1294 = .ok (.iload 4, 2) := by decide +kernel
theorem dL_law_1296 : decode cL_law 1296 = .ok (.iconst 3, 1) := by decide +kernel
theorem dL_law_1297 : decode cL_law 1297 = .ok (.iadd, 1) := by decide +kernel
theorem dL_law_1298 : decode cL_law 1298 = .ok (.iaload, 1) := by decide +kernel
theorem dL_law_1299 : decode cL_law 1299 = .ok (.aload_n 3, 1) := by decide +kernel
theorem dL_law_1300 : decode cL_law 1300 = .ok (.invokestatic 136, 3) := by decide +kernel
theorem dL_law_1303 : decode cL_law 1303 = .ok (.istore 5, 2) := by decide +kernel
theorem dL_law_1305 : decode cL_law 1305 = .ok (.aload_n 2, 1) := by decide +kernel
theorem dL_law_1306 : decode cL_law 1306 = .ok (.aload_n 0, 1) := by decide +kernel
theorem dL_law_1307 : decode cL_law 1307 = .ok (.iload 4, 2) := by decide +kernel
theorem dL_law_1309 : decode cL_law 1309 = .ok (.iconst 1, 1) := by decide +kernel
theorem dL_law_1310 : decode cL_law 1310 = .ok (.iadd, 1) := by decide +kernel
theorem dL_law_1311 : decode cL_law 1311 = .ok (.iaload, 1) := by decide +kernel
theorem dL_law_1312 : decode cL_law 1312 = .ok (.i2l, 1) := by decide +kernel
theorem dL_law_1313 : decode cL_law 1313 = .ok (.bipush 32, 2) := by decide +kernel
theorem dL_law_1315 : decode cL_law 1315 = .ok (.lshl, 1) := by decide +kernel
theorem dL_law_1316 : decode cL_law 1316 = .ok (.aload_n 0, 1) := by decide +kernel
theorem dL_law_1317 : decode cL_law 1317 = .ok (.iload 4, 2) := by decide +kernel
theorem dL_law_1319 : decode cL_law 1319 = .ok (.iconst 2, 1) := by decide +kernel
theorem dL_law_1320 : decode cL_law 1320 = .ok (.iadd, 1) := by decide +kernel
theorem dL_law_1321 : decode cL_law 1321 = .ok (.iaload, 1) := by decide +kernel
theorem dL_law_1322 : decode cL_law 1322 = .ok (.i2l, 1) := by decide +kernel
theorem dL_law_1323 : decode cL_law 1323 = .ok (.ldc2_w 79, 3) := by decide +kernel
theorem dL_law_1326 : decode cL_law 1326 = .ok (.land, 1) := by decide +kernel
theorem dL_law_1327 : decode cL_law 1327 = .ok (.lor, 1) := by decide +kernel
theorem dL_law_1328 : decode cL_law 1328 = .ok (.aload_n 0, 1) := by decide +kernel
theorem dL_law_1329 : decode cL_law 1329 = .ok (.iload 4, 2) := by decide +kernel
theorem dL_law_1331 : decode cL_law 1331 = .ok (.iconst 3, 1) := by decide +kernel
theorem dL_law_1332 : decode cL_law 1332 = .ok (.iadd, 1) := by decide +kernel
theorem dL_law_1333 : decode cL_law 1333 = .ok (.iaload, 1) := by decide +kernel
theorem dL_law_1334 : decode cL_law 1334 = .ok (.invokevirtual 139, 3) := by decide +kernel
theorem dL_law_1337 : decode cL_law 1337 = .ok (.istore 6, 2) := by decide +kernel
theorem dL_law_1339 : decode cL_law 1339 = .ok (.aload_n 2, 1) := by decide +kernel
theorem dL_law_1340 : decode cL_law 1340 = .ok (.invokevirtual 87, 3) := by decide +kernel
theorem dL_law_1343 : decode cL_law 1343 = .ok (.iload 5, 2) := by decide +kernel
theorem dL_law_1345 : decode cL_law 1345 = .ok (.if_icmp .eq 5, 3) := by decide +kernel
theorem dL_law_1348 : decode cL_law 1348 = .ok (.iconst 0, 1) := by decide +kernel
theorem dL_law_1349 : decode cL_law 1349 = .ok (.ireturn, 1) := by decide +kernel
theorem dL_law_1350 : decode cL_law 1350 = .ok (.iload 5, 2) := by decide +kernel
theorem dL_law_1352 : decode cL_law 1352 = .ok (.ifCond .ne 15, 3) := by decide +kernel
theorem dL_law_1355 : decode cL_law 1355 = .ok (.aload_n 3, 1) := by decide +kernel
theorem dL_law_1356 : decode cL_law 1356 = .ok (.iconst 0, 1) := by decide +kernel
theorem dL_law_1357 : decode cL_law 1357 = .ok (.laload, 1) := by decide +kernel
theorem dL_law_1358 : decode cL_law 1358 = .ok (.iload 6, 2) := by decide +kernel
theorem dL_law_1360 : decode cL_law 1360 = .ok (.i2l, 1) := by decide +kernel
theorem dL_law_1361 : decode cL_law 1361 = .ok (.lcmp, 1) := by decide +kernel
theorem dL_law_1362 : decode cL_law 1362 = .ok (.ifCond .eq 5, 3) := by decide +kernel
theorem dL_law_1365 : decode cL_law 1365 = .ok (.iconst 0, 1) := by decide +kernel
theorem dL_law_1366 : decode cL_law 1366 = .ok (.ireturn, 1) := by decide +kernel
theorem dL_law_1367 : decode cL_law 1367 = .ok (.goto 182, 3) := by decide +kernel
theorem dL_law_1370 : decode cL_law 1370 = .ok (.aload_n 1, 1) := by decide +kernel
theorem dL_law_1371 : decode cL_law 1371 = .ok (.aload_n 0, 1) := by decide +kernel
theorem dL_law_1372 : decode cL_law 1372 = .ok (.iload 4, 2) := by decide +kernel
theorem dL_law_1374 : decode cL_law 1374 = .ok (.iconst 1, 1) := by decide +kernel
theorem dL_law_1375 : decode cL_law 1375 = .ok (.iadd, 1) := by decide +kernel
theorem dL_law_1376 : decode cL_law 1376 = .ok (.iaload, 1) := by decide +kernel
theorem dL_law_1377 : decode cL_law 1377 = .ok (.aload_n 0, 1) := by decide +kernel
theorem dL_law_1378 : decode cL_law 1378 = .ok (.iload 4, 2) := by decide +kernel
theorem dL_law_1380 : decode cL_law 1380 = .ok (.iconst 2, 1) := by decide +kernel
theorem dL_law_1381 : decode cL_law 1381 = .ok (.iadd, 1) := by decide +kernel
theorem dL_law_1382 : decode cL_law 1382 = .ok (.iaload, 1) := by decide +kernel
theorem dL_law_1383 : decode cL_law 1383 = .ok (.aload_n 3, 1) := by decide +kernel
theorem dL_law_1384 : decode cL_law 1384 = .ok (.invokestatic 140, 3) := by decide +kernel
theorem dL_law_1387 : decode cL_law 1387 = .ok (.istore 5, 2) := by decide +kernel
theorem dL_law_1389 : decode cL_law 1389 = .ok (.aload_n 2, 1) := by decide +kernel
theorem dL_law_1390 : decode cL_law 1390 = .ok (.aload_n 0, 1) := by decide +kernel
theorem dL_law_1391 : decode cL_law 1391 = .ok (.iload 4, 2) := by decide +kernel
theorem dL_law_1393 : decode cL_law 1393 = .ok (.iconst 1, 1) := by decide +kernel
theorem dL_law_1394 : decode cL_law 1394 = .ok (.iadd, 1) := by decide +kernel
theorem dL_law_1395 : decode cL_law 1395 = .ok (.iaload, 1) := by decide +kernel
theorem dL_law_1396 : decode cL_law 1396 = .ok (.aload_n 0, 1) := by decide +kernel
theorem dL_law_1397 : decode cL_law 1397 = .ok (.iload 4, 2) := by decide +kernel
theorem dL_law_1399 : decode cL_law 1399 = .ok (.iconst 2, 1) := by decide +kernel
theorem dL_law_1400 : decode cL_law 1400 = .ok (.iadd, 1) := by decide +kernel
theorem dL_law_1401 : decode cL_law 1401 = .ok (.iaload, 1) := by decide +kernel
theorem dL_law_1402 : decode cL_law 1402 = .ok (.invokevirtual 142, 3) := by decide +kernel
theorem dL_law_1405 : decode cL_law 1405 = .ok (.istore 6, 2) := by decide +kernel
theorem dL_law_1407 : decode cL_law 1407 = .ok (.aload_n 2, 1) := by decide +kernel
theorem dL_law_1408 : decode cL_law 1408 = .ok (.invokevirtual 87, 3) := by decide +kernel
theorem dL_law_1411 : decode cL_law 1411 = .ok (.iload 5, 2) := by decide +kernel
theorem dL_law_1413 : decode cL_law 1413 = .ok (.if_icmp .eq 5, 3) := by decide +kernel
theorem dL_law_1416 : decode cL_law 1416 = .ok (.iconst 0, 1) := by decide +kernel
theorem dL_law_1417 : decode cL_law 1417 = .ok (.ireturn, 1) := by decide +kernel
theorem dL_law_1418 : decode cL_law 1418 = .ok (.iload 5, 2) := by decide +kernel
theorem dL_law_1420 : decode cL_law 1420 = .ok (.ifCond .ne 15, 3) := by decide +kernel
theorem dL_law_1423 : decode cL_law 1423 = .ok (.aload_n 3, 1) := by decide +kernel
theorem dL_law_1424 : decode cL_law 1424 = .ok (.iconst 0, 1) := by decide +kernel
theorem dL_law_1425 : decode cL_law 1425 = .ok (.laload, 1) := by decide +kernel
theorem dL_law_1426 : decode cL_law 1426 = .ok (.iload 6, 2) := by decide +kernel
theorem dL_law_1428 : decode cL_law 1428 = .ok (.i2l, 1) := by decide +kernel
theorem dL_law_1429 : decode cL_law 1429 = .ok (.lcmp, 1) := by decide +kernel
theorem dL_law_1430 : decode cL_law 1430 = .ok (.ifCond .eq 5, 3) := by decide +kernel
theorem dL_law_1433 : decode cL_law 1433 = .ok (.iconst 0, 1) := by decide +kernel
theorem dL_law_1434 : decode cL_law 1434 = .ok (.ireturn, 1) := by decide +kernel
theorem dL_law_1435 : decode cL_law 1435 = .ok (.goto 114, 3) := by decide +kernel
theorem dL_law_1438 : decode cL_law 1438 = .ok (.aload_n 1, 1) := by decide +kernel
theorem dL_law_1439 : decode cL_law 1439 = .ok (.aload_n 0, 1) := by decide +kernel
theorem dL_law_1440 : decode cL_law 1440 = .ok (.iload 4, 2) := by decide +kernel
theorem dL_law_1442 : decode cL_law 1442 = .ok (.iconst 1, 1) := by decide +kernel
theorem dL_law_1443 : decode cL_law 1443 = .ok (.iadd, 1) := by decide +kernel
theorem dL_law_1444 : decode cL_law 1444 = .ok (.iaload, 1) := by decide +kernel
theorem dL_law_1445 : decode cL_law 1445 = .ok (.aload_n 3, 1) := by decide +kernel
theorem dL_law_1446 : decode cL_law 1446 = .ok (.invokestatic 143, 3) := by decide +kernel
theorem dL_law_1449 : decode cL_law 1449 = .ok (.istore 5, 2) := by decide +kernel
theorem dL_law_1451 : decode cL_law 1451 = .ok (.aload_n 2, 1) := by decide +kernel
theorem dL_law_1452 : decode cL_law 1452 = .ok (.aload_n 0, 1) := by decide +kernel
theorem dL_law_1453 : decode cL_law 1453 = .ok (.iload 4, 2) := by decide +kernel
theorem dL_law_1455 : decode cL_law 1455 = .ok (.iconst 1, 1) := by decide +kernel
theorem dL_law_1456 : decode cL_law 1456 = .ok (.iadd, 1) := by decide +kernel
theorem dL_law_1457 : decode cL_law 1457 = .ok (.iaload, 1) := by decide +kernel
theorem dL_law_1458 : decode cL_law 1458 = .ok (.invokevirtual 145, 3) := by decide +kernel
theorem dL_law_1461 : decode cL_law 1461 = .ok (.istore 6, 2) := by decide +kernel
theorem dL_law_1463 : decode cL_law 1463 = .ok (.aload_n 2, 1) := by decide +kernel
theorem dL_law_1464 : decode cL_law 1464 = .ok (.invokevirtual 87, 3) := by decide +kernel
theorem dL_law_1467 : decode cL_law 1467 = .ok (.iload 5, 2) := by decide +kernel
theorem dL_law_1469 : decode cL_law 1469 = .ok (.if_icmp .eq 5, 3) := by decide +kernel
theorem dL_law_1472 : decode cL_law 1472 = .ok (.iconst 0, 1) := by decide +kernel
theorem dL_law_1473 : decode cL_law 1473 = .ok (.ireturn, 1) := by decide +kernel
theorem dL_law_1474 : decode cL_law 1474 = .ok (.iload 5, 2) := by decide +kernel
theorem dL_law_1476 : decode cL_law 1476 = .ok (.ifCond .ne 15, 3) := by decide +kernel
theorem dL_law_1479 : decode cL_law 1479 = .ok (.aload_n 3, 1) := by decide +kernel
theorem dL_law_1480 : decode cL_law 1480 = .ok (.iconst 0, 1) := by decide +kernel
theorem dL_law_1481 : decode cL_law 1481 = .ok (.laload, 1) := by decide +kernel
theorem dL_law_1482 : decode cL_law 1482 = .ok (.iload 6, 2) := by decide +kernel
theorem dL_law_1484 : decode cL_law 1484 = .ok (.i2l, 1) := by decide +kernel
theorem dL_law_1485 : decode cL_law 1485 = .ok (.lcmp, 1) := by decide +kernel
theorem dL_law_1486 : decode cL_law 1486 = .ok (.ifCond .eq 5, 3) := by decide +kernel
theorem dL_law_1489 : decode cL_law 1489 = .ok (.iconst 0, 1) := by decide +kernel
theorem dL_law_1490 : decode cL_law 1490 = .ok (.ireturn, 1) := by decide +kernel
theorem dL_law_1491 : decode cL_law 1491 = .ok (.goto 58, 3) := by decide +kernel
theorem dL_law_1494 : decode cL_law 1494 = .ok (.aload_n 1, 1) := by decide +kernel
theorem dL_law_1495 : decode cL_law 1495 = .ok (.aload_n 0, 1) := by decide +kernel
theorem dL_law_1496 : decode cL_law 1496 = .ok (.iload 4, 2) := by decide +kernel
theorem dL_law_1498 : decode cL_law 1498 = .ok (.iconst 1, 1) := by decide +kernel
theorem dL_law_1499 : decode cL_law 1499 = .ok (.iadd, 1) := by decide +kernel
theorem dL_law_1500 : decode cL_law 1500 = .ok (.iaload, 1) := by decide +kernel
theorem dL_law_1501 : decode cL_law 1501 = .ok (.aload_n 3, 1) := by decide +kernel
theorem dL_law_1502 : decode cL_law 1502 = .ok (.invokestatic 146, 3) := by decide +kernel
theorem dL_law_1505 : decode cL_law 1505 = .ok (.istore 5, 2) := by decide +kernel
theorem dL_law_1507 : decode cL_law 1507 = .ok (.aload_n 2, 1) := by decide +kernel
theorem dL_law_1508 : decode cL_law 1508 = .ok (.aload_n 0, 1) := by decide +kernel
theorem dL_law_1509 : decode cL_law 1509 = .ok (.iload 4, 2) := by decide +kernel
theorem dL_law_1511 : decode cL_law 1511 = .ok (.iconst 1, 1) := by decide +kernel
theorem dL_law_1512 : decode cL_law 1512 = .ok (.iadd, 1) := by decide +kernel
theorem dL_law_1513 : decode cL_law 1513 = .ok (.iaload, 1) := by decide +kernel
theorem dL_law_1514 : decode cL_law 1514 = .ok (.invokevirtual 148, 3) := by decide +kernel
theorem dL_law_1517 : decode cL_law 1517 = .ok (.lstore 6, 2) := by decide +kernel
theorem dL_law_1519 : decode cL_law 1519 = .ok (.aload_n 2, 1) := by decide +kernel
theorem dL_law_1520 : decode cL_law 1520 = .ok (.invokevirtual 87, 3) := by decide +kernel
theorem dL_law_1523 : decode cL_law 1523 = .ok (.iload 5, 2) := by decide +kernel
theorem dL_law_1525 : decode cL_law 1525 = .ok (.if_icmp .eq 5, 3) := by decide +kernel
theorem dL_law_1528 : decode cL_law 1528 = .ok (.iconst 0, 1) := by decide +kernel
theorem dL_law_1529 : decode cL_law 1529 = .ok (.ireturn, 1) := by decide +kernel
theorem dL_law_1530 : decode cL_law 1530 = .ok (.iload 5, 2) := by decide +kernel
theorem dL_law_1532 : decode cL_law 1532 = .ok (.ifCond .ne 14, 3) := by decide +kernel
theorem dL_law_1535 : decode cL_law 1535 = .ok (.aload_n 3, 1) := by decide +kernel
theorem dL_law_1536 : decode cL_law 1536 = .ok (.iconst 0, 1) := by decide +kernel
theorem dL_law_1537 : decode cL_law 1537 = .ok (.laload, 1) := by decide +kernel
theorem dL_law_1538 : decode cL_law 1538 = .ok (.lload 6, 2) := by decide +kernel
theorem dL_law_1540 : decode cL_law 1540 = .ok (.lcmp, 1) := by decide +kernel
theorem dL_law_1541 : decode cL_law 1541 = .ok (.ifCond .eq 5, 3) := by decide +kernel
theorem dL_law_1544 : decode cL_law 1544 = .ok (.iconst 0, 1) := by decide +kernel
theorem dL_law_1545 : decode cL_law 1545 = .ok (.ireturn, 1) := by decide +kernel
theorem dL_law_1546 : decode cL_law 1546 = .ok (.goto 3, 3) := by decide +kernel
theorem dL_law_1549 : decode cL_law 1549 = .ok (.iinc 4 9, 3) := by decide +kernel
theorem dL_law_1552 : decode cL_law 1552 = .ok (.goto (-1529), 3) := by decide +kernel
theorem dL_law_1555 : decode cL_law 1555 = .ok (.iconst 1, 1) := by decide +kernel
theorem dL_law_1556 : decode cL_law 1556 = .ok (.ireturn, 1) := by decide +kernel
end
section
/-! Rows of the kit, taken together: a method's fixed facts in one (CallFix), its world in one (xW); arrays read and written by natural numbers; calls with the frame rule inside. -/
section XR
abbrev xT : Type := List (ClassId × FieldType)
def xK (cI cJ cZ cO : ClassId) : xT := [(cI, .int), (cJ, .long), (cZ, .boolean), (cO, .object RX2)]
def xW (G : va_G) (ty : xT) (A : Nat → Prop) (H0 : Heap) (s : State) (ws : va_W) (H : Heap) (locs : List Loc) : Prop :=
  va_K G vwCl ty s ∧ va_P G vwCl ws H ∧ va_D A ws ∧ va_S A H0 H locs ∧ ∀ q : Nat, H0.size ≤ q → A q
/-- a method's start: its arguments and its world -/
def xPc (G : va_G) (ty : xT) (sz : Nat) (av : List Value) (ws : va_W) : Array Value → State → Prop :=
  va_Pc av (fun U => U.heap.size = sz ∧ va_P G vwCl ws U.heap ∧ va_K G vwCl ty U ∧ va_D (fun _ => True) ws)
/-- the world behind it -/
def xB {S : Type} (G : va_G) (ty : xT) (ws0 : va_W) (sz : Nat) (f : S → va_W) : S → State → Prop := fun u t => va_P G vwCl (f u) t.heap ∧ va_K G vwCl ty t ∧ va_D (va_A ws0 sz) (f u)
def xQi (post : Int32 → Prop) : Array Value → State → Outcome → State → Prop := fun _ st oc t => ∃ r : Int32, oc = .returned (some (.int r)) ∧ post r ∧ t.heap = st.heap
def xQl (post : Int64 → Prop) : Array Value → State → Outcome → State → Prop := fun _ st oc t => ∃ r : Int64, oc = .returned (some (.long r)) ∧ post r ∧ t.heap = st.heap
def xQv (post : Prop) : Array Value → State → Outcome → State → Prop := fun _ st oc t => oc = .returned none ∧ post ∧ t.heap = st.heap
theorem xPc_blind {G : va_G} {ty : xT} {sz : Nat} {av : List Value} {ws : va_W} : FrameBlind (xPc G ty sz av ws) := fun a U g mk q => by
  obtain ⟨q0, q1, qP, qK, qD⟩ := q
  exact ⟨q0, q1, qP, va_K.moved (u := U) (U := U.calling g mk a) (Vm.Alike.refl U.vm) qK, qD⟩
theorem va_RA_one {U : State} {a b : ClassId} {t : FieldType} (h1 : va_RA U a t) (h2 : va_RA U b t) : a = b := by
  cases t with
  | object C =>
    obtain ⟨-, -, -, -, -, e1⟩ := h1
    obtain ⟨-, -, -, -, -, e2⟩ := h2
    exact Option.some.inj (e1.symm.trans e2)
  | _ => exact Option.some.inj (h1.symm.trans h2)
section
variable {p : Program} {l : Launch} {e : Env} {R : Room} {s : State} {m : MethodId} {args : Array Value} {below : List Frame} {meth : Method} {c : Code} {H : Heap} {locs : List Loc} {cells slots : Nat} {Q : State → Prop}
variable {cc : ByteArray} {nL pc : Nat} {ls : Array Slot} {rest : List Value} {Ts : List Cond} {own : String} {G : va_G} {ty : xT} {A : Nat → Prop} {H0 : Heap} {ws : va_W}
/-- a loop: what is held at its head, by a measure that falls -/
theorem x_rec {α : Type} (μ : α → Nat) (Inv : α → Heap → List Loc → Array Slot → Prop) {st : List Value}
    (step : ∀ (a : α) (H : Heap) (locs : List Loc) (ls : Array Slot), Inv a H locs ls →
      (∀ (b : α) (H1 : Heap) (locs1 : List Loc) (ls1 : Array Slot), μ b < μ a → Inv b H1 locs1 ls1 → W p l e R s m args below meth c H1 locs1 cells slots Q (F0 m pc ls1 st)) →
      W p l e R s m args below meth c H locs cells slots Q (F0 m pc ls st)) (a : α) (h : Inv a H locs ls) : W p l e R s m args below meth c H locs cells slots Q (F0 m pc ls st) := by
  have key : ∀ (n : Nat) (a : α) (H : Heap) (locs : List Loc) (ls : Array Slot), μ a < n → Inv a H locs ls → W p l e R s m args below meth c H locs cells slots Q (F0 m pc ls st) := by
    intro n
    induction n with
    | zero => intro a H locs ls hn; exact absurd hn (Nat.not_lt_zero _)
    | succ n ih =>
      intro a H locs ls hn hI
      exact step a H locs ls hI (fun b H1 locs1 ls1 hb hI1 => ih b H1 locs1 ls1 (by omega) hI1)
  exact key (μ a + 1) a H locs ls (Nat.lt_succ_self _) h
/-- .. that writes nothing -/
theorem x_rec0 {α : Type} (μ : α → Nat) (Inv : α → Array Slot → Prop) {st : List Value}
    (step : ∀ (a : α) (ls : Array Slot), Inv a ls → (∀ (b : α) (ls1 : Array Slot), μ b < μ a → Inv b ls1 → W p l e R s m args below meth c H locs cells slots Q (F0 m pc ls1 st)) →
      W p l e R s m args below meth c H locs cells slots Q (F0 m pc ls st)) (a : α) (h : Inv a ls) : W p l e R s m args below meth c H locs cells slots Q (F0 m pc ls st) := by
  have key : ∀ (n : Nat) (a : α) (ls : Array Slot), μ a < n → Inv a ls → W p l e R s m args below meth c H locs cells slots Q (F0 m pc ls st) := by
    intro n
    induction n with
    | zero => intro a ls hn; exact absurd hn (Nat.not_lt_zero _)
    | succ n ih =>
      intro a ls hn hI
      exact step a ls hI (fun b ls1 hb hI1 => ih b ls1 (by omega) hI1)
  exact key (μ a + 1) a ls (Nat.lt_succ_self _) h
theorem x_get (F : CallFix p m c cc nL s args Ts own) (hw : xW G ty A H0 s ws H locs) {a ci : Nat} {fs : List Value} {C : String} {T : u_T} {N : Nat} (hin : ∀ w ∈ u_ws C T N, w ∈ Ts) (q0 : Nat) (he : ws[q0]? = some (a, .inr (ci, fs))) (hc : vwCl[ci]? = some (C, T, N))
    (k : Nat) (hk : k < N) {index : Nat} {nm ds : String} {fb : Bool} (hT : T k = (C, nm, ds, fb)) (hl : Cond.fieldLink own index C nm ds ∈ Ts) {v : Value} (hv : fs[k]? = some v) (hd : decode cc pc = .ok (.getfield index, 3))
    (kk : W p l e R s m args below meth c H locs cells slots Q (F0 m (pc + 3) ls (v :: rest))) : W p l e R s m args below meth c H locs cells slots Q (F0 m pc ls (.ref a :: rest)) := by
  obtain ⟨hx, hb, -, hown, hts⟩ := F
  exact va_get (ref := C) hx hb hts hin hown hw.1 hw.2.1 q0 he hc k hk (by rw [hT]; exact hts _ hl) (fun x h => by rw [hT] at h; rw [hT]; exact h) hv hd kk
theorem x_put (F : CallFix p m c cc nL s args Ts own) (hw : xW G ty A H0 s ws H locs) {a ci : Nat} {fs : List Value} {C : String} {T : u_T} {N : Nat} (hin : ∀ w ∈ u_ws C T N, w ∈ Ts) (ty0 : Nat → FieldType) (hty : ∀ k, k < N → parseFieldDescriptor (T k).2.2.1 = some (ty0 k)) (hnm : ∀ a, a < N → ∀ b, b < N → a ≠ b → (T a).2.1 ≠ (T b).2.1) (q0 : Nat) (he : ws[q0]? = some (a, .inr (ci, fs))) (hc : vwCl[ci]? = some (C, T, N))
    (k : Nat) (hk : k < N) {index : Nat} {nm ds : String} (hT : T k = (C, nm, ds, false)) (hl : Cond.fieldLink own index C nm ds ∈ Ts) {v : Value} (hn : narrow (ty0 k) v = v) (hf : fits (ty0 k) v = true) (hlen : k < fs.length) (hd : decode cc pc = .ok (.putfield index, 3))
    (kk : ∀ (H1 : Heap) (locs1 : List Loc), xW G ty A H0 s (ws.set q0 (a, .inr (ci, fs.set k v))) H1 locs1 → W p l e R s m args below meth c H1 locs1 cells slots Q (F0 m (pc + 3) ls rest)) : W p l e R s m args below meth c H locs cells slots Q (F0 m pc ls (v :: .ref a :: rest)) := by
  obtain ⟨hx, hb, -, hown, hts⟩ := F
  exact va_put (ref := C) hx hb hts hin ty0 hty hnm hown hw.1 hw.2.1 hw.2.2.1 hw.2.2.2.1 q0 he hc k hk (by rw [hT]; exact hts _ hl) (fun x h => by rw [hT] at h; rw [hT]; exact h) (by rw [hT]) (hty k hk) hn hf hlen hd (fun H1 locs1 h1 h2 h3 => kk H1 locs1 ⟨hw.1, h1, h2, h3, hw.2.2.2.2⟩)
theorem x_putF (F : CallFix p m c cc nL s args Ts own) (hw : xW G ty A H0 s ws H locs) (hin2 : meth.name = "<init>") {a ci : Nat} {fs : List Value} {T : u_T} {N : Nat} (hin : ∀ w ∈ u_ws own T N, w ∈ Ts) (ty0 : Nat → FieldType) (hty : ∀ k, k < N → parseFieldDescriptor (T k).2.2.1 = some (ty0 k)) (hnm : ∀ a, a < N → ∀ b, b < N → a ≠ b → (T a).2.1 ≠ (T b).2.1) (q0 : Nat) (he : ws[q0]? = some (a, .inr (ci, fs))) (hc : vwCl[ci]? = some (own, T, N))
    (k : Nat) (hk : k < N) {index : Nat} {nm ds : String} (hT : T k = (own, nm, ds, true)) (hl : Cond.fieldLink own index own nm ds ∈ Ts) {v : Value} (hn : narrow (ty0 k) v = v) (hf : fits (ty0 k) v = true) (hlen : k < fs.length) (hd : decode cc pc = .ok (.putfield index, 3))
    (kk : ∀ (H1 : Heap) (locs1 : List Loc), xW G ty A H0 s (ws.set q0 (a, .inr (ci, fs.set k v))) H1 locs1 → W p l e R s m args below meth c H1 locs1 cells slots Q (F0 m (pc + 3) ls rest)) : W p l e R s m args below meth c H locs cells slots Q (F0 m pc ls (v :: .ref a :: rest)) := by
  obtain ⟨hx, hb, -, hown, hts⟩ := F
  exact va_putF (ref := own) hx hb hts hin ty0 hty hnm hown hw.1 hw.2.1 hw.2.2.1 hw.2.2.2.1 q0 he hc k hk (by rw [hT]; exact hts _ hl) (fun x h => by rw [hT] at h; rw [hT]; exact h) (by rw [hT]) hin2 (by rw [hT]) (hty k hk) hn hf hlen hd (fun H1 locs1 h1 h2 h3 => kk H1 locs1 ⟨hw.1, h1, h2, h3, hw.2.2.2.2⟩)
theorem x_iald (F : CallFix p m c cc nL s args Ts own) (hw : xW G ty A H0 s ws H locs) (q0 t0 : Nat) {a n : Nat} {cA : ClassId} {f : Nat → Int32} (ha : ws[q0]? = some (a, .inl (cA, n, .inl f))) (ht : ty[t0]? = some (cA, .int)) {i : Int32} (hin : vp_in i n) (hd : decode cc pc = .ok (.iaload, 1))
    (kk : W p l e R s m args below meth c H locs cells slots Q (F0 m (pc + 1) ls (.int (f i.toNatClampNeg) :: rest))) : W p l e R s m args below meth c H locs cells slots Q (F0 m pc ls (.int i :: .ref a :: rest)) := va_iald F.1 F.2.1 hw.1 hw.2.1 q0 t0 ha ht hin hd kk
theorem x_lald (F : CallFix p m c cc nL s args Ts own) (hw : xW G ty A H0 s ws H locs) (q0 t0 : Nat) {a n : Nat} {cA : ClassId} {f : Nat → Int64} (ha : ws[q0]? = some (a, .inl (cA, n, .inr (.inl f)))) (ht : ty[t0]? = some (cA, .long)) {i : Int32} (hin : vp_in i n) (hd : decode cc pc = .ok (.laload, 1))
    (kk : W p l e R s m args below meth c H locs cells slots Q (F0 m (pc + 1) ls (.long (f i.toNatClampNeg) :: rest))) : W p l e R s m args below meth c H locs cells slots Q (F0 m pc ls (.int i :: .ref a :: rest)) := va_lald F.1 F.2.1 hw.1 hw.2.1 q0 t0 ha ht hin hd kk
theorem x_zald (F : CallFix p m c cc nL s args Ts own) (hw : xW G ty A H0 s ws H locs) (q0 t0 : Nat) {a n : Nat} {cA : ClassId} {f : Nat → Int32} (ha : ws[q0]? = some (a, .inl (cA, n, .inl f))) (ht : ty[t0]? = some (cA, .boolean)) {i : Int32} (hin : vp_in i n) (hd : decode cc pc = .ok (.baload, 1))
    (kk : W p l e R s m args below meth c H locs cells slots Q (F0 m (pc + 1) ls (.int (f i.toNatClampNeg) :: rest))) : W p l e R s m args below meth c H locs cells slots Q (F0 m pc ls (.int i :: .ref a :: rest)) := va_zald F.1 F.2.1 hw.1 hw.2.1 q0 t0 ha ht hin hd kk
theorem x_ialdN (F : CallFix p m c cc nL s args Ts own) (hw : xW G ty A H0 s ws H locs) (q0 t0 : Nat) {a n : Nat} {cA : ClassId} {f : Nat → Int32} (ha : ws[q0]? = some (a, .inl (cA, n, .inl f))) (ht : ty[t0]? = some (cA, .int)) {i : Int32} (k : Nat) (hi : i = nI k) (hk : k < n) (hn : n < 2 ^ 31) (hd : decode cc pc = .ok (.iaload, 1))
    (kk : W p l e R s m args below meth c H locs cells slots Q (F0 m (pc + 1) ls (.int (f k) :: rest))) : W p l e R s m args below meth c H locs cells slots Q (F0 m pc ls (.int i :: .ref a :: rest)) := by
  subst hi
  refine va_iald F.1 F.2.1 hw.1 hw.2.1 q0 t0 ha ht (vp_in_nI hk hn) hd ?_
  rw [nI_clamp (by omega)]
  exact kk
theorem x_laldN (F : CallFix p m c cc nL s args Ts own) (hw : xW G ty A H0 s ws H locs) (q0 t0 : Nat) {a n : Nat} {cA : ClassId} {f : Nat → Int64} (ha : ws[q0]? = some (a, .inl (cA, n, .inr (.inl f)))) (ht : ty[t0]? = some (cA, .long)) {i : Int32} (k : Nat) (hi : i = nI k) (hk : k < n) (hn : n < 2 ^ 31) (hd : decode cc pc = .ok (.laload, 1))
    (kk : W p l e R s m args below meth c H locs cells slots Q (F0 m (pc + 1) ls (.long (f k) :: rest))) : W p l e R s m args below meth c H locs cells slots Q (F0 m pc ls (.int i :: .ref a :: rest)) := by
  subst hi
  refine va_lald F.1 F.2.1 hw.1 hw.2.1 q0 t0 ha ht (vp_in_nI hk hn) hd ?_
  rw [nI_clamp (by omega)]
  exact kk
theorem x_zaldN (F : CallFix p m c cc nL s args Ts own) (hw : xW G ty A H0 s ws H locs) (q0 t0 : Nat) {a n : Nat} {cA : ClassId} {f : Nat → Int32} (ha : ws[q0]? = some (a, .inl (cA, n, .inl f))) (ht : ty[t0]? = some (cA, .boolean)) {i : Int32} (k : Nat) (hi : i = nI k) (hk : k < n) (hn : n < 2 ^ 31) (hd : decode cc pc = .ok (.baload, 1))
    (kk : W p l e R s m args below meth c H locs cells slots Q (F0 m (pc + 1) ls (.int (f k) :: rest))) : W p l e R s m args below meth c H locs cells slots Q (F0 m pc ls (.int i :: .ref a :: rest)) := by
  subst hi
  refine va_zald F.1 F.2.1 hw.1 hw.2.1 q0 t0 ha ht (vp_in_nI hk hn) hd ?_
  rw [nI_clamp (by omega)]
  exact kk
theorem x_iast (F : CallFix p m c cc nL s args Ts own) (hw : xW G ty A H0 s ws H locs) (q0 t0 : Nat) {a n : Nat} {cA : ClassId} {f : Nat → Int32} (ha : ws[q0]? = some (a, .inl (cA, n, .inl f))) (ht : ty[t0]? = some (cA, .int)) {i x : Int32} (hin : vp_in i n) (hd : decode cc pc = .ok (.iastore, 1))
    (kk : ∀ (H1 : Heap) (locs1 : List Loc), xW G ty A H0 s (ws.set q0 (a, .inl (cA, n, .inl (upd f i.toNatClampNeg x)))) H1 locs1 → W p l e R s m args below meth c H1 locs1 cells slots Q (F0 m (pc + 1) ls rest)) : W p l e R s m args below meth c H locs cells slots Q (F0 m pc ls (.int x :: .int i :: .ref a :: rest)) :=
  va_iast F.1 F.2.1 hw.1 hw.2.1 hw.2.2.1 hw.2.2.2.1 q0 t0 ha ht hin hd (fun H1 locs1 h1 h2 h3 => kk H1 locs1 ⟨hw.1, h1, h2, h3, hw.2.2.2.2⟩)
theorem x_last (F : CallFix p m c cc nL s args Ts own) (hw : xW G ty A H0 s ws H locs) (q0 t0 : Nat) {a n : Nat} {cA : ClassId} {f : Nat → Int64} (ha : ws[q0]? = some (a, .inl (cA, n, .inr (.inl f)))) (ht : ty[t0]? = some (cA, .long)) {i : Int32} {x : Int64} (hin : vp_in i n) (hd : decode cc pc = .ok (.lastore, 1))
    (kk : ∀ (H1 : Heap) (locs1 : List Loc), xW G ty A H0 s (ws.set q0 (a, .inl (cA, n, .inr (.inl (vp_updL f i.toNatClampNeg x))))) H1 locs1 → W p l e R s m args below meth c H1 locs1 cells slots Q (F0 m (pc + 1) ls rest)) : W p l e R s m args below meth c H locs cells slots Q (F0 m pc ls (.long x :: .int i :: .ref a :: rest)) :=
  va_last F.1 F.2.1 hw.1 hw.2.1 hw.2.2.1 hw.2.2.2.1 q0 t0 ha ht hin hd (fun H1 locs1 h1 h2 h3 => kk H1 locs1 ⟨hw.1, h1, h2, h3, hw.2.2.2.2⟩)
theorem x_iastN (F : CallFix p m c cc nL s args Ts own) (hw : xW G ty A H0 s ws H locs) (q0 t0 : Nat) {a n : Nat} {cA : ClassId} {f : Nat → Int32} (ha : ws[q0]? = some (a, .inl (cA, n, .inl f))) (ht : ty[t0]? = some (cA, .int)) {i x : Int32} (k : Nat) (hi : i = nI k) (hk : k < n) (hn : n < 2 ^ 31) (hd : decode cc pc = .ok (.iastore, 1))
    (kk : ∀ (H1 : Heap) (locs1 : List Loc), xW G ty A H0 s (ws.set q0 (a, .inl (cA, n, .inl (upd f k x)))) H1 locs1 → W p l e R s m args below meth c H1 locs1 cells slots Q (F0 m (pc + 1) ls rest)) : W p l e R s m args below meth c H locs cells slots Q (F0 m pc ls (.int x :: .int i :: .ref a :: rest)) := by
  subst hi
  refine x_iast F hw q0 t0 ha ht (vp_in_nI hk hn) hd ?_
  rw [nI_clamp (by omega)]
  exact kk
theorem x_lastN (F : CallFix p m c cc nL s args Ts own) (hw : xW G ty A H0 s ws H locs) (q0 t0 : Nat) {a n : Nat} {cA : ClassId} {f : Nat → Int64} (ha : ws[q0]? = some (a, .inl (cA, n, .inr (.inl f)))) (ht : ty[t0]? = some (cA, .long)) {i : Int32} {x : Int64} (k : Nat) (hi : i = nI k) (hk : k < n) (hn : n < 2 ^ 31) (hd : decode cc pc = .ok (.lastore, 1))
    (kk : ∀ (H1 : Heap) (locs1 : List Loc), xW G ty A H0 s (ws.set q0 (a, .inl (cA, n, .inr (.inl (vp_updL f k x))))) H1 locs1 → W p l e R s m args below meth c H1 locs1 cells slots Q (F0 m (pc + 1) ls rest)) : W p l e R s m args below meth c H locs cells slots Q (F0 m pc ls (.long x :: .int i :: .ref a :: rest)) := by
  subst hi
  refine x_last F hw q0 t0 ha ht (vp_in_nI hk hn) hd ?_
  rw [nI_clamp (by omega)]
  exact kk
theorem x_zastN (F : CallFix p m c cc nL s args Ts own) (hw : xW G ty A H0 s ws H locs) (q0 t0 : Nat) {a n : Nat} {cA : ClassId} {f : Nat → Int32} (ha : ws[q0]? = some (a, .inl (cA, n, .inl f))) (ht : ty[t0]? = some (cA, .boolean)) {i x : Int32} (k : Nat) (hi : i = nI k) (hk : k < n) (hn : n < 2 ^ 31) (hx1 : vp_nar .boolean x = x) (hd : decode cc pc = .ok (.bastore, 1))
    (kk : ∀ (H1 : Heap) (locs1 : List Loc), xW G ty A H0 s (ws.set q0 (a, .inl (cA, n, .inl (upd f k x)))) H1 locs1 → W p l e R s m args below meth c H1 locs1 cells slots Q (F0 m (pc + 1) ls rest)) : W p l e R s m args below meth c H locs cells slots Q (F0 m pc ls (.int x :: .int i :: .ref a :: rest)) := by
  subst hi
  refine va_zast F.1 F.2.1 hw.1 hw.2.1 hw.2.2.1 hw.2.2.2.1 q0 t0 ha ht (vp_in_nI hk hn) hd ?_
  rw [nI_clamp (by omega), hx1]
  exact fun H1 locs1 h1 h2 h3 => kk H1 locs1 ⟨hw.1, h1, h2, h3, hw.2.2.2.2⟩
theorem x_newa (F : CallFix p m c cc nL s args Ts own) (hw : xW G ty A H0 s ws H locs) {atype : ArrayType} (harr : Cond.arrayClass (newarray.typeOf atype) ∈ Ts) {t : FieldType} (hty : newarray.typeOf atype = t) (t0 : Nat) {cA : ClassId} (ht : ty[t0]? = some (cA, t))
    {n : Int32} {N' : Nat} {a0 : vp_A} (ha : ∀ cA : ClassId, vp_cell cA a0 = arrV cA N' (fun _ => defaultValue t)) (hn : ¬ n < 0) (hN : n.toNatClampNeg = N') (hbytes : N' * componentBytes t ≤ 536870912) (hcells : cells + 1 ≤ R.cells) (hslots : slots + N' ≤ R.slots) (hd : decode cc pc = .ok (.newarray atype, 2))
    (kk : ∀ (q : Nat) (H1 : Heap), xW G ty A H0 s (ws ++ [(q, .inl (cA, a0))]) H1 locs → W p l e R s m args below meth c H1 locs (cells + 1) (slots + N') Q (F0 m (pc + 2) ls (.ref q :: rest))) : W p l e R s m args below meth c H locs cells slots Q (F0 m pc ls (.int n :: rest)) := by
  refine va_newa F.1 F.2.1 (F.2.2.2.2 _ harr) hty hw.1 hw.2.1 hw.2.2.1 hw.2.2.2.1 hw.2.2.2.2 ha hn hN hbytes hcells hslots hd (fun q cB H1 hK h1 h2 h3 => ?_)
  have e1 := hK.2 ty.length (cB, t) (by rw [List.getElem?_append_right (Nat.le_refl _), Nat.sub_self]; rfl)
  have e2 := hw.1.2 t0 (cA, t) ht
  have e3 : cB = cA := va_RA_one e1.2 e2.2
  subst e3
  exact kk q H1 ⟨hw.1, h1, h2, h3, hw.2.2.2.2⟩
theorem x_new (F : CallFix p m c cc nL s args Ts own) (hw : xW G ty A H0 s ws H locs) {C : String} {T : u_T} {N ci index : Nat} (hin : ∀ w ∈ u_ws C T N, w ∈ Ts) (ty0 : Nat → FieldType) (hty : ∀ k, k < N → parseFieldDescriptor (T k).2.2.1 = some (ty0 k)) (hcl : Cond.classLink own index C ∈ Ts) (hinst : Cond.instantiable C N ∈ Ts) (hini : Cond.initialized C ∈ Ts)
    (hc : vwCl[ci]? = some (C, T, N)) {fs : List Value} (hfs : ∀ j, j < N → defaultValue (ty0 j) = vp_V fs j) (hcells : cells + 1 ≤ R.cells) (hslots : slots + N ≤ R.slots) (hd : decode cc pc = .ok (.new index, 3))
    (kk : ∀ (q : Nat) (H1 : Heap), xW G ty A H0 s (ws ++ [(q, .inr (ci, fs))]) H1 locs → W p l e R s m args below meth c H1 locs (cells + 1) (slots + N) Q (F0 m (pc + 3) ls (.ref q :: rest))) : W p l e R s m args below meth c H locs cells slots Q (F0 m pc ls rest) := by
  refine va_new F.1 F.2.1 F.2.2.2.2 hin ty0 hty F.2.2.2.1 (F.2.2.2.2 _ hcl) (F.2.2.2.2 _ hinst) (F.2.2.2.2 _ hini) hw.1 hw.2.1 hw.2.2.1 hw.2.2.2.1 hw.2.2.2.2 hc hfs hcells hslots hd (fun q H1 h1 h2 h3 => ?_)
  exact kk q H1 ⟨hw.1, h1, h2, h3, hw.2.2.2.2⟩
theorem x_l_lt (F : CallFix p m c cc nL s args Ts own) {x y : Int64} {off : Int} {tgt : Nat} (hd : decode cc pc = .ok (.lcmp, 1)) (hd2 : decode cc (pc + 1) = .ok (.ifCond .lt off, 3)) (ht : ((pc + 1 : Nat) : Int) + off = (tgt : Int))
    (kt : x < y → W p l e R s m args below meth c H locs cells slots Q (F0 m tgt ls rest)) (kf : ¬ x < y → W p l e R s m args below meth c H locs cells slots Q (F0 m (pc + 1 + 3) ls rest)) : W p l e R s m args below meth c H locs cells slots Q (F0 m pc ls (.long y :: .long x :: rest)) :=
  W.lcmp F.1 F.2.1 hd (lv_if_lt F.1 F.2.1 hd2 ht (fun h => kt ((lg_cmp_lt x y).mp h)) (fun h => kf (fun g => h ((lg_cmp_lt x y).mpr g))))
theorem x_l_ge (F : CallFix p m c cc nL s args Ts own) {x y : Int64} {off : Int} {tgt : Nat} (hd : decode cc pc = .ok (.lcmp, 1)) (hd2 : decode cc (pc + 1) = .ok (.ifCond .ge off, 3)) (ht : ((pc + 1 : Nat) : Int) + off = (tgt : Int))
    (kt : y ≤ x → W p l e R s m args below meth c H locs cells slots Q (F0 m tgt ls rest)) (kf : ¬ y ≤ x → W p l e R s m args below meth c H locs cells slots Q (F0 m (pc + 1 + 3) ls rest)) : W p l e R s m args below meth c H locs cells slots Q (F0 m pc ls (.long y :: .long x :: rest)) :=
  W.lcmp F.1 F.2.1 hd (lv_if_ge F.1 F.2.1 hd2 ht (fun h => kt ((lg_cmp_ge x y).mp h)) (fun h => kf (fun g => h ((lg_cmp_ge x y).mpr g))))
theorem x_l_gt (F : CallFix p m c cc nL s args Ts own) {x y : Int64} {off : Int} {tgt : Nat} (hd : decode cc pc = .ok (.lcmp, 1)) (hd2 : decode cc (pc + 1) = .ok (.ifCond .gt off, 3)) (ht : ((pc + 1 : Nat) : Int) + off = (tgt : Int))
    (kt : y < x → W p l e R s m args below meth c H locs cells slots Q (F0 m tgt ls rest)) (kf : ¬ y < x → W p l e R s m args below meth c H locs cells slots Q (F0 m (pc + 1 + 3) ls rest)) : W p l e R s m args below meth c H locs cells slots Q (F0 m pc ls (.long y :: .long x :: rest)) :=
  W.lcmp F.1 F.2.1 hd (lv_if_gt F.1 F.2.1 hd2 ht (fun h => kt ((lg_cmp_gt x y).mp h)) (fun h => kf (fun g => h ((lg_cmp_gt x y).mpr g))))
theorem x_l_le (F : CallFix p m c cc nL s args Ts own) {x y : Int64} {off : Int} {tgt : Nat} (hd : decode cc pc = .ok (.lcmp, 1)) (hd2 : decode cc (pc + 1) = .ok (.ifCond .le off, 3)) (ht : ((pc + 1 : Nat) : Int) + off = (tgt : Int))
    (kt : x ≤ y → W p l e R s m args below meth c H locs cells slots Q (F0 m tgt ls rest)) (kf : ¬ x ≤ y → W p l e R s m args below meth c H locs cells slots Q (F0 m (pc + 1 + 3) ls rest)) : W p l e R s m args below meth c H locs cells slots Q (F0 m pc ls (.long y :: .long x :: rest)) :=
  W.lcmp F.1 F.2.1 hd (lv_if_le F.1 F.2.1 hd2 ht (fun h => kt ((lg_cmp_le x y).mp h)) (fun h => kf (fun g => h ((lg_cmp_le x y).mpr g))))
theorem x_l_eq (F : CallFix p m c cc nL s args Ts own) {x y : Int64} {off : Int} {tgt : Nat} (hd : decode cc pc = .ok (.lcmp, 1)) (hd2 : decode cc (pc + 1) = .ok (.ifCond .eq off, 3)) (ht : ((pc + 1 : Nat) : Int) + off = (tgt : Int))
    (kt : x = y → W p l e R s m args below meth c H locs cells slots Q (F0 m tgt ls rest)) (kf : ¬ x = y → W p l e R s m args below meth c H locs cells slots Q (F0 m (pc + 1 + 3) ls rest)) : W p l e R s m args below meth c H locs cells slots Q (F0 m pc ls (.long y :: .long x :: rest)) :=
  W.lcmp F.1 F.2.1 hd (lv_if_eq F.1 F.2.1 hd2 ht (fun h => kt ((lg_cmp_eq x y).mp h)) (fun h => kf (fun g => h ((lg_cmp_eq x y).mpr g))))
theorem x_l_ne (F : CallFix p m c cc nL s args Ts own) {x y : Int64} {off : Int} {tgt : Nat} (hd : decode cc pc = .ok (.lcmp, 1)) (hd2 : decode cc (pc + 1) = .ok (.ifCond .ne off, 3)) (ht : ((pc + 1 : Nat) : Int) + off = (tgt : Int))
    (kt : ¬ x = y → W p l e R s m args below meth c H locs cells slots Q (F0 m tgt ls rest)) (kf : x = y → W p l e R s m args below meth c H locs cells slots Q (F0 m (pc + 1 + 3) ls rest)) : W p l e R s m args below meth c H locs cells slots Q (F0 m pc ls (.long y :: .long x :: rest)) :=
  W.lcmp F.1 F.2.1 hd (lv_if_ne F.1 F.2.1 hd2 ht (fun h => kt (fun g => h ((lg_cmp_eq x y).mpr g))) (fun h => kf ((lg_cmp_eq x y).mp h)))
theorem x_copyi (F : CallFix p m c cc nL s args Ts own) (hw : xW G ty A H0 s ws H locs) {index : Nat} (hl : Cond.methodLink own index arraycopyName ∈ Ts) (hnt : Cond.native arraycopyName ∈ Ts) (hst : Cond.static arraycopyName ∈ Ts) (hini : Cond.initialized "java/lang/System" ∈ Ts)
    (q0 q1 t0 : Nat) {a0 a1 : Nat} {c0 : ClassId} {n0 n1 : Nat} {f g : Nat → Int32} {t : FieldType} (ha0 : ws[q0]? = some (a0, .inl (c0, n0, .inl f))) (ha1 : ws[q1]? = some (a1, .inl (c0, n1, .inl g))) (ht0 : ty[t0]? = some (c0, t)) (htt : t = .int)
    {xs xd xn : Int32} {sp dp n : Nat} (e1 : xs = nI sp) (e2 : xd = nI dp) (e3 : xn = nI n) (h4 : sp + n ≤ n0) (h5 : dp + n ≤ n1) (hn0 : n0 < 2 ^ 31) (hn1 : n1 < 2 ^ 31) (hls : ls.size = nL)
    (hframes : 1 ≤ R.frames) (hlocals : (rest.map fun v => v.category).sum + (nativeFrameWords "java/lang/System" "arraycopy" 5 + 11) ≤ R.locals) (hdg : decode cc pc = .ok (.invokestatic index, 3))
    (kk : ∀ (H1 : Heap) (locs1 : List Loc), xW G ty A H0 s (ws.set q1 (a1, .inl (c0, n1, .inl (va_cpy f g sp dp n)))) H1 locs1 → W p l e R s m args below meth c H1 locs1 cells slots Q (F0 m (pc + 3) ls rest)) : W p l e R s m args below meth c H locs cells slots Q (F0 m pc ls (.int xn :: .int xd :: .ref a1 :: .int xs :: .ref a0 :: rest)) := by
  subst e1 e2 e3 htt
  refine va_copyi F.1 F.2.1 (F.2.2.1.trans hls.symm) F.2.2.2.1 (F.2.2.2.2 _ hl) (F.2.2.2.2 _ hnt) (F.2.2.2.2 _ hst) (F.2.2.2.2 _ hini) hw.1 hw.2.1 hw.2.2.1 hw.2.2.2.1 q0 q1 t0 t0 ha0 ha1 ht0 ht0 (by decide) (nI_pos (by omega)) (nI_pos (by omega)) (nI_pos (by omega)) (by rw [nI_clamp (by omega), nI_clamp (by omega)]; exact h4) (by rw [nI_clamp (by omega), nI_clamp (by omega)]; exact h5) (fun i _ => by rfl) hframes hlocals hdg ?_
  rw [nI_clamp (by omega), nI_clamp (by omega), nI_clamp (by omega)]
  exact fun H1 locs1 h1 h2 h3 => kk H1 locs1 ⟨hw.1, h1, h2, h3, hw.2.2.2.2⟩
theorem x_copyl (F : CallFix p m c cc nL s args Ts own) (hw : xW G ty A H0 s ws H locs) {index : Nat} (hl : Cond.methodLink own index arraycopyName ∈ Ts) (hnt : Cond.native arraycopyName ∈ Ts) (hst : Cond.static arraycopyName ∈ Ts) (hini : Cond.initialized "java/lang/System" ∈ Ts)
    (q0 q1 t0 : Nat) {a0 a1 : Nat} {c0 : ClassId} {n0 n1 : Nat} {f g : Nat → Int64} {t : FieldType} (ha0 : ws[q0]? = some (a0, .inl (c0, n0, .inr (.inl f)))) (ha1 : ws[q1]? = some (a1, .inl (c0, n1, .inr (.inl g)))) (ht0 : ty[t0]? = some (c0, t)) (htt : t = .long)
    {xs xd xn : Int32} {sp dp n : Nat} (e1 : xs = nI sp) (e2 : xd = nI dp) (e3 : xn = nI n) (h4 : sp + n ≤ n0) (h5 : dp + n ≤ n1) (hn0 : n0 < 2 ^ 31) (hn1 : n1 < 2 ^ 31) (hls : ls.size = nL)
    (hframes : 1 ≤ R.frames) (hlocals : (rest.map fun v => v.category).sum + (nativeFrameWords "java/lang/System" "arraycopy" 5 + 11) ≤ R.locals) (hdg : decode cc pc = .ok (.invokestatic index, 3))
    (kk : ∀ (H1 : Heap) (locs1 : List Loc), xW G ty A H0 s (ws.set q1 (a1, .inl (c0, n1, .inr (.inl (va_cpy f g sp dp n))))) H1 locs1 → W p l e R s m args below meth c H1 locs1 cells slots Q (F0 m (pc + 3) ls rest)) : W p l e R s m args below meth c H locs cells slots Q (F0 m pc ls (.int xn :: .int xd :: .ref a1 :: .int xs :: .ref a0 :: rest)) := by
  subst e1 e2 e3 htt
  refine va_copyl F.1 F.2.1 (F.2.2.1.trans hls.symm) F.2.2.2.1 (F.2.2.2.2 _ hl) (F.2.2.2.2 _ hnt) (F.2.2.2.2 _ hst) (F.2.2.2.2 _ hini) hw.1 hw.2.1 hw.2.2.1 hw.2.2.2.1 q0 q1 t0 t0 ha0 ha1 ht0 ht0 (by decide) (nI_pos (by omega)) (nI_pos (by omega)) (nI_pos (by omega)) (by rw [nI_clamp (by omega), nI_clamp (by omega)]; exact h4) (by rw [nI_clamp (by omega), nI_clamp (by omega)]; exact h5) (fun i _ => by rfl) hframes hlocals hdg ?_
  rw [nI_clamp (by omega), nI_clamp (by omega), nI_clamp (by omega)]
  exact fun H1 locs1 h1 h2 h3 => kk H1 locs1 ⟨hw.1, h1, h2, h3, hw.2.2.2.2⟩
theorem x_topi {x v : Int32} (h : v = x) (k : W p l e R s m args below meth c H locs cells slots Q (F0 m pc ls (.int v :: rest))) : W p l e R s m args below meth c H locs cells slots Q (F0 m pc ls (.int x :: rest)) := by
  subst h; exact k
theorem x_topj {x v : Int64} (h : v = x) (k : W p l e R s m args below meth c H locs cells slots Q (F0 m pc ls (.long v :: rest))) : W p l e R s m args below meth c H locs cells slots Q (F0 m pc ls (.long x :: rest)) := by
  subst h; exact k
theorem x_fm {ws ws' : va_W} (is : List Nat) (hC : is.map (fun i => ws[i]?) = ws'.map some) : is.filterMap (fun i => ws[i]?) = ws' := by
  have h1 : is.filterMap (fun i => ws[i]?) = (is.map (fun i => ws[i]?)).filterMap id := by rw [List.filterMap_map]; rfl
  rw [h1, hC, List.filterMap_map]
  exact List.filterMap_some
/-- the same cells, in another order or fewer -/
theorem x_perm {ws' : va_W} (hw : xW G ty A H0 s ws H locs) (is : List Nat) (hC : is.map (fun i => ws[i]?) = ws'.map some) (hn : va_nd is = true) : xW G ty A H0 s ws' H locs :=
  ⟨hw.1, hw.2.1.sub is (x_fm is hC), hw.2.2.1.sub is hn hC, hw.2.2.2.1, hw.2.2.2.2⟩
end
end XR
end
section
/-! Calls: what stands before one, and what comes behind it, over the rows' world. -/
section XC
section
variable {p : Program} {l : Launch} {e : Env} {R : Room} {s : State} {m : MethodId} {args : Array Value} {below : List Frame} {meth : Method} {c : Code} {H : Heap} {locs : List Loc} {cells slots : Nat} {Q : State → Prop}
variable {pc : Nat} {ls : Array Slot} {rest st0 : List Value} {G : va_G} {ty : xT} {A : Nat → Prop} {H0 : Heap} {ws : va_W} {mc ms : Nat} {a : Array Value}
theorem x_preW {av : List Value} {wc : va_W} (hw : xW G ty A H0 s ws H locs) (isC : List Nat) (hC : isC.map (fun i => ws[i]?) = wc.map some) (hn : va_nd isC = true) :
    ∀ U : State, U.heap = H → s.WarmedH U.vm → xPc G ty H.size av wc av.toArray U := by
  intro U hU hW
  exact ⟨rfl, by rw [hU], by rw [hU]; exact hw.2.1.sub isC (x_fm isC hC), va_K.moved hW.alike hw.1, (hw.2.2.1.sub isC hn hC).weaken (fun _ _ _ _ => trivial)⟩
theorem x_rcv (hw : xW G ty A H0 s ws H locs) (q0 : Nat) {b ci : Nat} {fs : List Value} (he : ws[q0]? = some (b, .inr (ci, fs))) {C : String} {T : u_T} {N : Nat} (hc : vwCl[ci]? = some (C, T, N)) : ∃ cellB : Cell, H[b]? = some cellB ∧ cellB.vm.isStatics = false ∧ s.vm.findClass C = some cellB.cls :=
  va_recv hw.1 hw.2.1 hc he
theorem x_preVW {b : Nat} {As : List Value} {wc : va_W} (hw : xW G ty A H0 s ws H locs) (isC : List Nat) (hC : isC.map (fun i => ws[i]?) = wc.map some) (hn : va_nd isC = true) (q0 : Nat) {ci : Nat} {fs : List Value} (he : ws[q0]? = some (b, .inr (ci, fs))) {C : String} {T : u_T} {N : Nat} (hc : vwCl[ci]? = some (C, T, N)) :
    PreV s H C b (xPc G ty H.size (.ref b :: As) wc) As := ⟨xPc_blind, x_rcv hw q0 he hc, x_preW hw isC hC hn⟩
theorem x_preSW {As : List Value} {wc : va_W} (hw : xW G ty A H0 s ws H locs) (isC : List Nat) (hC : isC.map (fun i => ws[i]?) = wc.map some) (hn : va_nd isC = true) : PreS s H (xPc G ty H.size As wc) As := ⟨xPc_blind, x_preW hw isC hC hn⟩
/-- behind a call that wrote: the callee's cells as it left them, behind the others -/
theorem x_joined {S : Type} {wc wr : va_W} {f : S → va_W} {u : S} {t : State} {H1 : Heap} {locs1 : List Loc} (hw : xW G ty A H0 s ws H locs) (isC isR : List Nat) (hC : isC.map (fun i => ws[i]?) = wc.map some) (hR : isR.map (fun i => ws[i]?) = wr.map some) (hn : va_nd isR = true) (hdis : ∀ i ∈ isR, i ∉ isC)
    (ht : t.heap = H1) (hB : xB G ty wc H.size f u t) (hk : ∀ q : Nat, q < H.size → ¬ va_A wc H.size q → H1[q]? = H[q]?) (hS : va_S A H0 H1 locs1) : xW G ty A H0 s (wr ++ f u) H1 locs1 := by
  obtain ⟨hP1, -, hD1⟩ := hB
  rw [ht] at hP1
  obtain ⟨h1, h2⟩ := va_join hw.2.1 hw.2.2.1 isC isR hC hR hn hdis hk (va_free hw.2.2.1 hw.2.2.2.1 hw.2.2.2.2 isC hC) hP1 hD1
  exact ⟨hw.1, h1, h2, hS, hw.2.2.2.2⟩
theorem x_wv {S : Type} {post : S → Prop} {f : S → va_W} {wc wr : va_W} (hr : va_Run p l e R s m args below meth c H locs cells slots mc ms (F0 m pc ls st0) rest (va_Qv post (xB G ty wc H.size f) (va_A wc H.size) a) (va_A wc H.size)) (hw : xW G ty A H0 s ws H locs) (isC isR : List Nat) (hC : isC.map (fun i => ws[i]?) = wc.map some) (hR : isR.map (fun i => ws[i]?) = wr.map some) (hn : va_nd isR = true) (hdis : ∀ i ∈ isR, i ∉ isC)
    (kk : ∀ (u : S) (H1 : Heap) (locs1 : List Loc), post u → xW G ty A H0 s (wr ++ f u) H1 locs1 → W p l e R s m args below meth c H1 locs1 (cells + mc) (slots + ms) Q (F0 m (pc + 3) ls rest)) : W p l e R s m args below meth c H locs cells slots Q (F0 m pc ls st0) := by
  have hF := va_free hw.2.2.1 hw.2.2.2.1 hw.2.2.2.2 isC hC
  exact va_callv hr hw.2.2.2.1 (fun q _ h => hF q h) hF (fun u t H1 locs1 ht hvm hp hB hz hk hS => kk u H1 locs1 hp (x_joined hw isC isR hC hR hn hdis ht hB hk hS))
theorem x_wi {S : Type} {post : Int32 → S → Prop} {f : S → va_W} {wc wr : va_W} (hr : va_Run p l e R s m args below meth c H locs cells slots mc ms (F0 m pc ls st0) rest (va_Qi post (xB G ty wc H.size f) (va_A wc H.size) a) (va_A wc H.size)) (hw : xW G ty A H0 s ws H locs) (isC isR : List Nat) (hC : isC.map (fun i => ws[i]?) = wc.map some) (hR : isR.map (fun i => ws[i]?) = wr.map some) (hn : va_nd isR = true) (hdis : ∀ i ∈ isR, i ∉ isC)
    (kk : ∀ (r : Int32) (u : S) (H1 : Heap) (locs1 : List Loc), post r u → xW G ty A H0 s (wr ++ f u) H1 locs1 → W p l e R s m args below meth c H1 locs1 (cells + mc) (slots + ms) Q (F0 m (pc + 3) ls (.int r :: rest))) : W p l e R s m args below meth c H locs cells slots Q (F0 m pc ls st0) := by
  have hF := va_free hw.2.2.1 hw.2.2.2.1 hw.2.2.2.2 isC hC
  exact va_calli hr hw.2.2.2.1 (fun q _ h => hF q h) hF (fun r u t H1 locs1 ht hvm hp hB hz hk hS => kk r u H1 locs1 hp (x_joined hw isC isR hC hR hn hdis ht hB hk hS))
theorem x_wl {S : Type} {post : Int64 → S → Prop} {f : S → va_W} {wc wr : va_W} (hr : va_Run p l e R s m args below meth c H locs cells slots mc ms (F0 m pc ls st0) rest (va_Ql post (xB G ty wc H.size f) (va_A wc H.size) a) (va_A wc H.size)) (hw : xW G ty A H0 s ws H locs) (isC isR : List Nat) (hC : isC.map (fun i => ws[i]?) = wc.map some) (hR : isR.map (fun i => ws[i]?) = wr.map some) (hn : va_nd isR = true) (hdis : ∀ i ∈ isR, i ∉ isC)
    (kk : ∀ (r : Int64) (u : S) (H1 : Heap) (locs1 : List Loc), post r u → xW G ty A H0 s (wr ++ f u) H1 locs1 → W p l e R s m args below meth c H1 locs1 (cells + mc) (slots + ms) Q (F0 m (pc + 3) ls (.long r :: rest))) : W p l e R s m args below meth c H locs cells slots Q (F0 m pc ls st0) := by
  have hF := va_free hw.2.2.1 hw.2.2.2.1 hw.2.2.2.2 isC hC
  exact va_calll hr hw.2.2.2.1 (fun q _ h => hF q h) hF (fun r u t H1 locs1 ht hvm hp hB hz hk hS => kk r u H1 locs1 hp (x_joined hw isC isR hC hR hn hdis ht hB hk hS))
/-- a call that only read -/
theorem x_ri {post : Int32 → Prop} (hr : va_Run p l e R s m args below meth c H locs cells slots 0 0 (F0 m pc ls st0) rest (xQi post a) (fun _ => False))
    (kk : ∀ r : Int32, post r → W p l e R s m args below meth c H locs cells slots Q (F0 m (pc + 3) ls (.int r :: rest))) : W p l e R s m args below meth c H locs cells slots Q (F0 m pc ls st0) := by
  intro T hT X
  obtain ⟨v, st₀, t, T', L, h0, X', hL, e1, e2, ⟨r, hv, hp, hb⟩, st⟩ := hr T hT X
  cases hv
  have hL0 : L = [] := List.eq_nil_iff_forall_not_mem.mpr (fun q hq => hL q hq)
  subst hL0
  rw [List.append_nil] at X'
  obtain ⟨t2, a1, b1⟩ := kk r hp T' (by rw [e1, hb, h0]) X'
  exact ⟨t2, st t2 a1, b1⟩
theorem x_rl {post : Int64 → Prop} (hr : va_Run p l e R s m args below meth c H locs cells slots 0 0 (F0 m pc ls st0) rest (xQl post a) (fun _ => False))
    (kk : ∀ r : Int64, post r → W p l e R s m args below meth c H locs cells slots Q (F0 m (pc + 3) ls (.long r :: rest))) : W p l e R s m args below meth c H locs cells slots Q (F0 m pc ls st0) := by
  intro T hT X
  obtain ⟨v, st₀, t, T', L, h0, X', hL, e1, e2, ⟨r, hv, hp, hb⟩, st⟩ := hr T hT X
  cases hv
  have hL0 : L = [] := List.eq_nil_iff_forall_not_mem.mpr (fun q hq => hL q hq)
  subst hL0
  rw [List.append_nil] at X'
  obtain ⟨t2, a1, b1⟩ := kk r hp T' (by rw [e1, hb, h0]) X'
  exact ⟨t2, st t2 a1, b1⟩
theorem x_rv {post : Prop} (hr : va_Run p l e R s m args below meth c H locs cells slots 0 0 (F0 m pc ls st0) rest (xQv post a) (fun _ => False))
    (kk : post → W p l e R s m args below meth c H locs cells slots Q (F0 m (pc + 3) ls rest)) : W p l e R s m args below meth c H locs cells slots Q (F0 m pc ls st0) := by
  intro T hT X
  obtain ⟨v, st₀, t, T', L, h0, X', hL, e1, e2, ⟨hv, hp, hb⟩, st⟩ := hr T hT X
  cases hv
  have hL0 : L = [] := List.eq_nil_iff_forall_not_mem.mpr (fun q hq => hL q hq)
  subst hL0
  rw [List.append_nil] at X'
  obtain ⟨t2, a1, b1⟩ := kk hp T' (by rw [e1, hb, h0]) X'
  exact ⟨t2, st t2 a1, b1⟩
end
section
variable {l : Launch} {G : va_G} {ty : xT}
/-- a method's contract out of the walk of its body -/
theorem x_body {y : MethodName} {wy wy' : List Cond} {rm : Room} {sz mc ms : Nat} {av : List Value} {W0 : va_W} {Qc : Array Value → State → Outcome → State → Prop} {free : Addr → Prop} {cc : ByteArray} {maxL : Nat} {ret : Option FieldType}
    (hy : plainName y.cls = true) (hwy : wy = Cond.code y cc maxL ret :: wy') (hmx : (lg_sl av).length ≤ maxL)
    (body : ∀ (p : Program) (e : Env) (s : State) (m : MethodId) (below : List Frame) (meth : Method) (c : Code), CallFix p m c cc maxL s av.toArray wy y.cls → meth.sig.returnType = ret → meth.locks = false → meth.name = y.name → s.heap.size = sz →
      xW G ty (va_A W0 s.heap.size) s.heap s W0 s.heap [] → ∀ ls : Array Slot, lv_has ls maxL (lv_args 0 av) → W p l e rm s m av.toArray below meth c s.heap [] 0 0 (MQ below Qc av.toArray s mc ms free) (F0 m 0 ls [])) :
    Met l y wy rm (xPc G ty sz av W0) Qc mc ms free := by
  refine Met.ofW (cc := cc) (maxL := maxL) (ret := ret) hy hwy ?_
  intro p e s m args below meth c s₁ B hml hv
  obtain ⟨rfl, hsz, hP, hK, hD0⟩ := hv
  have hl := lv_entry av (n := maxL) hmx
  rw [lg_entry_eq]
  exact body p e s m below meth c ⟨B.exec, B.bytes, hml, findClass_of_methodNamed B.named, atoms_spec (ws := wy) B.pre⟩ B.returns B.notSynchronized (name_of_methodNamed B.named B.method).1 hsz ⟨hK, hP, hD0.self, va_S.rf, fun q h => Or.inr h⟩ _ hl
end
section
variable {p : Program} {l : Launch} {e : Env} {R : Room} {s : State} {m : MethodId} {args : Array Value} {below : List Frame} {meth : Method} {c : Code} {H : Heap} {locs : List Loc} {cells slots : Nat}
variable {cc : ByteArray} {nL pc : Nat} {ls : Array Slot} {Ts : List Cond} {own : String} {G : va_G} {ty : xT} {ws0 : va_W}
theorem x_riret {post : Int32 → Prop} {v : Int32} (F : CallFix p m c cc nL s args Ts own) (hr : meth.sig.returnType = some .int) (hlk : meth.locks = false) (hp : post v) (hd : decode cc pc = .ok (.ireturn, 1)) :
    W p l e R s m args below meth c s.heap [] cells slots (MQ below (xQi post) args s cells slots (fun _ => False)) (F0 m pc ls [.int v]) :=
  W.iret (v := v) F.1 F.2.1 hr (fun t ht _ => ⟨v, rfl, hp, ht⟩) (fun q hq => nomatch hq) hd hlk
theorem x_rzret {post : Int32 → Prop} {v : Int32} (F : CallFix p m c cc nL s args Ts own) (hr : meth.sig.returnType = some .boolean) (hlk : meth.locks = false) (hn : narrow .boolean (.int v) = .int v) (hp : post v) (hd : decode cc pc = .ok (.ireturn, 1)) :
    W p l e R s m args below meth c s.heap [] cells slots (MQ below (xQi post) args s cells slots (fun _ => False)) (F0 m pc ls [.int v]) :=
  W.zret (v := v) F.1 F.2.1 hr hn (fun t ht _ => ⟨v, rfl, hp, ht⟩) (fun q hq => nomatch hq) hd hlk
theorem x_rlret {post : Int64 → Prop} {v : Int64} (F : CallFix p m c cc nL s args Ts own) (hr : meth.sig.returnType = some .long) (hlk : meth.locks = false) (hp : post v) (hd : decode cc pc = .ok (.lreturn, 1)) :
    W p l e R s m args below meth c s.heap [] cells slots (MQ below (xQl post) args s cells slots (fun _ => False)) (F0 m pc ls [.long v]) :=
  W.lret (v := v) F.1 F.2.1 hr (fun t ht _ => ⟨v, rfl, hp, ht⟩) (fun q hq => nomatch hq) hd hlk
theorem x_rvret {post : Prop} (F : CallFix p m c cc nL s args Ts own) (hr : meth.sig.returnType = none) (hlk : meth.locks = false) (hp : post) (hd : decode cc pc = .ok (.return_, 1)) :
    W p l e R s m args below meth c s.heap [] cells slots (MQ below (xQv post) args s cells slots (fun _ => False)) (F0 m pc ls []) :=
  W.vret F.1 F.2.1 hr (fun t ht _ => ⟨rfl, hp, ht⟩) (fun q hq => nomatch hq) hd hlk
theorem x_vret {S : Type} {post : S → Prop} {f : S → va_W} (u : S) (F : CallFix p m c cc nL s args Ts own) (hr : meth.sig.returnType = none) (hlk : meth.locks = false) (hw : xW G ty (va_A ws0 s.heap.size) s.heap s (f u) H locs) (hp : post u) (hd : decode cc pc = .ok (.return_, 1)) :
    W p l e R s m args below meth c H locs cells slots (MQ below (va_Qv post (xB G ty ws0 s.heap.size f) (va_A ws0 s.heap.size)) args s cells slots (va_A ws0 s.heap.size)) (F0 m pc ls []) :=
  W.vret F.1 F.2.1 hr (fun t ht hW => ⟨⟨u, rfl, hp, by rw [ht]; exact hw.2.1, va_K.moved hW.alike hw.1, hw.2.2.1⟩, hw.2.2.2.1.F ht⟩) hw.2.2.2.1.2.2 hd hlk
theorem x_iret {S : Type} {post : Int32 → S → Prop} {f : S → va_W} {v : Int32} (u : S) (F : CallFix p m c cc nL s args Ts own) (hr : meth.sig.returnType = some .int) (hlk : meth.locks = false) (hw : xW G ty (va_A ws0 s.heap.size) s.heap s (f u) H locs) (hp : post v u) (hd : decode cc pc = .ok (.ireturn, 1)) :
    W p l e R s m args below meth c H locs cells slots (MQ below (va_Qi post (xB G ty ws0 s.heap.size f) (va_A ws0 s.heap.size)) args s cells slots (va_A ws0 s.heap.size)) (F0 m pc ls [.int v]) :=
  W.iret F.1 F.2.1 hr (fun t ht hW => ⟨⟨v, u, rfl, hp, by rw [ht]; exact hw.2.1, va_K.moved hW.alike hw.1, hw.2.2.1⟩, hw.2.2.2.1.F ht⟩) hw.2.2.2.1.2.2 hd hlk
theorem x_zret {S : Type} {post : Int32 → S → Prop} {f : S → va_W} {v : Int32} (u : S) (F : CallFix p m c cc nL s args Ts own) (hr : meth.sig.returnType = some .boolean) (hlk : meth.locks = false) (hn : narrow .boolean (.int v) = .int v) (hw : xW G ty (va_A ws0 s.heap.size) s.heap s (f u) H locs) (hp : post v u) (hd : decode cc pc = .ok (.ireturn, 1)) :
    W p l e R s m args below meth c H locs cells slots (MQ below (va_Qi post (xB G ty ws0 s.heap.size f) (va_A ws0 s.heap.size)) args s cells slots (va_A ws0 s.heap.size)) (F0 m pc ls [.int v]) :=
  W.zret F.1 F.2.1 hr hn (fun t ht hW => ⟨⟨v, u, rfl, hp, by rw [ht]; exact hw.2.1, va_K.moved hW.alike hw.1, hw.2.2.1⟩, hw.2.2.2.1.F ht⟩) hw.2.2.2.1.2.2 hd hlk
theorem x_lret {S : Type} {post : Int64 → S → Prop} {f : S → va_W} {v : Int64} (u : S) (F : CallFix p m c cc nL s args Ts own) (hr : meth.sig.returnType = some .long) (hlk : meth.locks = false) (hw : xW G ty (va_A ws0 s.heap.size) s.heap s (f u) H locs) (hp : post v u) (hd : decode cc pc = .ok (.lreturn, 1)) :
    W p l e R s m args below meth c H locs cells slots (MQ below (va_Ql post (xB G ty ws0 s.heap.size f) (va_A ws0 s.heap.size)) args s cells slots (va_A ws0 s.heap.size)) (F0 m pc ls [.long v]) :=
  W.lret F.1 F.2.1 hr (fun t ht hW => ⟨⟨v, u, rfl, hp, by rw [ht]; exact hw.2.1, va_K.moved hW.alike hw.1, hw.2.2.1⟩, hw.2.2.2.1.F ht⟩) hw.2.2.2.1.2.2 hd hlk
end
end XC
end
section
/-! A line's cells, and what they mean: what waits, in its order. -/
abbrev Ent : Type := Int32 × Int32 × Int64 × Int64 × Int64 × Int32
abbrev eN (a : Ent) : Int32 := a.1
abbrev eC (a : Ent) : Int32 := a.2.1
abbrev eK (a : Ent) : Int64 := a.2.2.1
abbrev eT (a : Ent) : Int64 := a.2.2.2.1
abbrev eG (a : Ent) : Int64 := a.2.2.2.2.1
abbrev eO (a : Ent) : Int32 := a.2.2.2.2.2
/-- a stands ahead of b: by time, key, number -/
def eLt (a b : Ent) : Bool := if eT a ≠ eT b then decide (eT a < eT b) else if eK a ≠ eK b then decide (eK a < eK b) else decide (eN a < eN b)
abbrev LnA : Type := Nat × Nat × Nat × Nat × Nat × Nat × Nat × Nat
abbrev aH (A : LnA) : Nat := A.1
abbrev aO (A : LnA) : Nat := A.2.1
abbrev aN (A : LnA) : Nat := A.2.2.1
abbrev aC (A : LnA) : Nat := A.2.2.2.1
abbrev aK (A : LnA) : Nat := A.2.2.2.2.1
abbrev aT (A : LnA) : Nat := A.2.2.2.2.2.1
abbrev aG (A : LnA) : Nat := A.2.2.2.2.2.2.1
abbrev aF (A : LnA) : Nat := A.2.2.2.2.2.2.2
abbrev LnR : Type := (Nat → Int32) × (Nat → Int32) × (Nat → Int32) × (Nat → Int64) × (Nat → Int64) × (Nat → Int64) × (Nat → Int32) × Nat
abbrev lO (u : LnR) : Nat → Int32 := u.1
abbrev lNu (u : LnR) : Nat → Int32 := u.2.1
abbrev lCk (u : LnR) : Nat → Int32 := u.2.2.1
abbrev lKe (u : LnR) : Nat → Int64 := u.2.2.2.1
abbrev lTi (u : LnR) : Nat → Int64 := u.2.2.2.2.1
abbrev lGa (u : LnR) : Nat → Int64 := u.2.2.2.2.2.1
abbrev lOf (u : LnR) : Nat → Int32 := u.2.2.2.2.2.2.1
abbrev lSz (u : LnR) : Nat := u.2.2.2.2.2.2.2
abbrev wLn (cI cJ : ClassId) (A : LnA) (u : LnR) : va_W := [(aH A, .inr (0, [.ref (aO A), .ref (aN A), .ref (aC A), .ref (aK A), .ref (aT A), .ref (aG A), .ref (aF A), .int (nI (lSz u))])), (aO A, .inl (cI, 40, .inl (lO u))), (aN A, .inl (cI, 40, .inl (lNu u))), (aC A, .inl (cI, 40, .inl (lCk u))), (aK A, .inl (cJ, 40, .inr (.inl (lKe u)))), (aT A, .inl (cJ, 40, .inr (.inl (lTi u)))), (aG A, .inl (cJ, 40, .inr (.inl (lGa u)))), (aF A, .inl (cI, 40, .inl (lOf u)))]
/-- what a slot holds -/
def lEnt (u : LnR) (j : Nat) : Ent := (lNu u j, lCk u j, lKe u j, lTi u j, lGa u j, lOf u j)
/-- what stands at a place -/
def lAt (u : LnR) (i : Nat) : Ent := lEnt u (lO u i).toNatClampNeg
/-- what the line holds, in its order -/
def lAb (u : LnR) : List Ent := (List.range (lSz u)).map (lAt u)
def LnOk (u : LnR) : Prop := lSz u ≤ 40 ∧ (∀ i, i < 40 → vp_in (lO u i) 40) ∧ (∀ i j, i < 40 → j < 40 → lO u i = lO u j → i = j)
theorem x_nle {a b : Nat} (ha : a < 2 ^ 31) (hb : b < 2 ^ 31) (h : ¬ nI a ≤ nI b) : b < a := Nat.not_le.mp (fun q => h ((nI_leI ha hb).mpr q))
theorem x_le {a b : Nat} (ha : a < 2 ^ 31) (hb : b < 2 ^ 31) (h : nI a ≤ nI b) : a ≤ b := (nI_leI ha hb).mp h
theorem x_nlt {a b : Nat} (ha : a < 2 ^ 31) (hb : b < 2 ^ 31) (h : ¬ nI a < nI b) : b ≤ a := Nat.not_lt.mp (fun q => h ((nI_ltI ha hb).mpr q))
theorem x_lt {a b : Nat} (ha : a < 2 ^ 31) (hb : b < 2 ^ 31) (h : nI a < nI b) : a < b := (nI_ltI ha hb).mp h
theorem x_upto {P : Nat → Prop} {i : Nat} (h : ∀ j, j < i → P j) (hi : P i) : ∀ j, j < i + 1 → P j := fun j hj => (Nat.lt_succ_iff_lt_or_eq.mp hj).elim (h j) (fun e => by rw [e]; exact hi)
theorem x_upto0 {P : Nat → Prop} : ∀ j, j < 0 → P j := fun j hj => absurd hj (Nat.not_lt_zero j)
theorem eLt_t {a b : Ent} (h : ¬ eT a = eT b) : eLt a b = decide (eT a < eT b) := if_pos h
theorem eLt_k {a b : Ent} (h : eT a = eT b) (h2 : ¬ eK a = eK b) : eLt a b = decide (eK a < eK b) := by
  unfold eLt
  rw [if_neg (fun q => q h), if_pos h2]
theorem eLt_n {a b : Ent} (h : eT a = eT b) (h2 : eK a = eK b) : eLt a b = decide (eN a < eN b) := by
  unfold eLt
  rw [if_neg (fun q => q h), if_neg (fun q => q h2)]
theorem eLt_1 {x : Bool} (h : x = true) : (1 : Int32) = if x = true then 1 else 0 := (if_pos h).symm
theorem eLt_0 {x : Bool} (h : x = false) : (0 : Int32) = if x = true then 1 else 0 := (if_neg (fun q => by rw [h] at q; cases q)).symm
end
section
set_option maxHeartbeats 8000000 in
set_option maxRecDepth 100000 in
/-- isFull() -/
theorem c_X0_isFull (l : Launch) (G : va_G) (cI cJ cZ cO : ClassId) (sz : Nat) (A : LnA) (u : LnR) (hn : lSz u ≤ 40) : Met l yX0_isFull wsX0_isFull ({ frames := 0, cells := 0, slots := 0, locals := 0 }) (xPc G (xK cI cJ cZ cO) sz [.ref (aH A)] (wLn cI cJ A u)) (xQi (fun r => r = if lSz u = 40 then 1 else 0)) 0 0 (fun _ => False) := by
  refine x_body (by decide) rfl (Nat.le_of_ble_eq_true rfl) ?_
  intro p e s m below meth c F hr hlk hnm hsz hw ls hl
  subst hsz
  have F : CallFix p m c cX0_isFull 1 s _ wsX0_isFull RX0 := F
  have hl : lv_has ls 1 [(0, .ref (aH A))] := hl
  have hw : xW G (xK cI cJ cZ cO) _ s.heap s [(aH A, .inr (0, [.ref (aO A), .ref (aN A), .ref (aC A), .ref (aK A), .ref (aT A), .ref (aG A), .ref (aF A), .int (nI (lSz u))])), (aO A, .inl (cI, 40, .inl (lO u))), (aN A, .inl (cI, 40, .inl (lNu u))), (aC A, .inl (cI, 40, .inl (lCk u))), (aK A, .inl (cJ, 40, .inr (.inl (lKe u)))), (aT A, .inl (cJ, 40, .inr (.inl (lTi u)))), (aG A, .inl (cJ, 40, .inr (.inl (lGa u)))), (aF A, .inl (cI, 40, .inl (lOf u)))] s.heap [] := hw
  have iX0 : ∀ w ∈ wsX00, w ∈ wsX0_isFull := by decide +kernel
  refine lv_aload_n F.1 F.2.1 dX0_isFull_0 rfl (lv_at hl 0 rfl) ?_
  refine x_get F hw iX0 0 rfl rfl 7 (by decide) rfl (List.mem_of_getElem? (i := 1) rfl) rfl dX0_isFull_1 ?_
  refine lv_bipush (v := 40) F.1 F.2.1 dX0_isFull_4 (by decide) ?_
  refine lv_icmp_lt (tgt := 13) F.1 F.2.1 dX0_isFull_6 (by decide) (fun c6 => ?_) (fun c6 => ?_)
  · refine lv_iconst (v := 0) F.1 F.2.1 dX0_isFull_13 (by decide) ?_
    exact x_rzret F hr hlk (rfl) (by rw [if_neg (fun h => by rw [h] at c6; exact absurd c6 (by decide))]) dX0_isFull_14
  · refine lv_iconst (v := 1) F.1 F.2.1 dX0_isFull_9 (by decide) ?_
    refine lv_goto (tgt := 14) F.1 F.2.1 dX0_isFull_10 (by decide) ?_
    exact x_rzret F hr hlk (rfl) (by rw [if_pos (by have h9 := x_nlt (a := lSz u) (b := 40) (by omega) (by omega) c6; omega)]) dX0_isFull_14

set_option maxHeartbeats 8000000 in
set_option maxRecDepth 100000 in
/-- timeAt(place) -/
theorem c_X0_timeAt (l : Launch) (G : va_G) (cI cJ cZ cO : ClassId) (sz : Nat) (A : LnA) (u : LnR) (p9 : Nat) (hok : LnOk u) (hp : p9 < 40) : Met l yX0_timeAt wsX0_timeAt ({ frames := 0, cells := 0, slots := 0, locals := 0 }) (xPc G (xK cI cJ cZ cO) sz [.ref (aH A), .int (nI p9)] (wLn cI cJ A u)) (xQl (fun r => r = eT (lAt u p9))) 0 0 (fun _ => False) := by
  refine x_body (by decide) rfl (Nat.le_of_ble_eq_true rfl) ?_
  intro p e s m below meth c F hr hlk hnm hsz hw ls hl
  subst hsz
  have F : CallFix p m c cX0_timeAt 2 s _ wsX0_timeAt RX0 := F
  have hl : lv_has ls 2 [(0, .ref (aH A)), (1, .int (nI p9))] := hl
  have hw : xW G (xK cI cJ cZ cO) _ s.heap s [(aH A, .inr (0, [.ref (aO A), .ref (aN A), .ref (aC A), .ref (aK A), .ref (aT A), .ref (aG A), .ref (aF A), .int (nI (lSz u))])), (aO A, .inl (cI, 40, .inl (lO u))), (aN A, .inl (cI, 40, .inl (lNu u))), (aC A, .inl (cI, 40, .inl (lCk u))), (aK A, .inl (cJ, 40, .inr (.inl (lKe u)))), (aT A, .inl (cJ, 40, .inr (.inl (lTi u)))), (aG A, .inl (cJ, 40, .inr (.inl (lGa u)))), (aF A, .inl (cI, 40, .inl (lOf u)))] s.heap [] := hw
  have iX0 : ∀ w ∈ wsX00, w ∈ wsX0_timeAt := by decide +kernel
  refine lv_aload_n F.1 F.2.1 dX0_timeAt_0 rfl (lv_at hl 0 rfl) ?_
  refine x_get F hw iX0 0 rfl rfl 4 (by decide) rfl (List.mem_of_getElem? (i := 1) rfl) rfl dX0_timeAt_1 ?_
  refine lv_aload_n F.1 F.2.1 dX0_timeAt_4 rfl (lv_at hl 0 rfl) ?_
  refine x_get F hw iX0 0 rfl rfl 0 (by decide) rfl (List.mem_of_getElem? (i := 2) rfl) rfl dX0_timeAt_5 ?_
  refine lv_iload_n F.1 F.2.1 dX0_timeAt_8 rfl (lv_at hl 1 rfl) ?_
  refine x_ialdN F hw 1 0 rfl rfl p9 rfl (hp) (by decide) dX0_timeAt_9 ?_
  refine x_lald F hw 5 1 rfl rfl (hok.2.1 _ hp) dX0_timeAt_10 ?_
  exact x_rlret F hr hlk (rfl) dX0_timeAt_11

set_option maxHeartbeats 8000000 in
set_option maxRecDepth 100000 in
/-- placeOf -/
theorem c_X0_placeOf (l : Launch) (G : va_G) (cI cJ cZ cO : ClassId) (sz : Nat) (A : LnA) (u : LnR) (x : Int32) (hok : LnOk u) : Met l yX0_placeOf wsX0_placeOf ({ frames := 0, cells := 0, slots := 0, locals := 0 }) (xPc G (xK cI cJ cZ cO) sz [.ref (aH A), .int x] (wLn cI cJ A u)) (xQi (fun r => (∃ k, k < lSz u ∧ eN (lAt u k) = x ∧ (∀ i, i < k → eN (lAt u i) ≠ x) ∧ r = nI k) ∨ ((∀ i, i < lSz u → eN (lAt u i) ≠ x) ∧ r = -1))) 0 0 (fun _ => False) := by
  refine x_body (by decide) rfl (Nat.le_of_ble_eq_true rfl) ?_
  intro p e s m below meth c F hr hlk hnm hsz hw ls hl
  subst hsz
  have F : CallFix p m c cX0_placeOf 3 s _ wsX0_placeOf RX0 := F
  have hl : lv_has ls 3 [(0, .ref (aH A)), (1, .int x)] := hl
  have hw : xW G (xK cI cJ cZ cO) _ s.heap s [(aH A, .inr (0, [.ref (aO A), .ref (aN A), .ref (aC A), .ref (aK A), .ref (aT A), .ref (aG A), .ref (aF A), .int (nI (lSz u))])), (aO A, .inl (cI, 40, .inl (lO u))), (aN A, .inl (cI, 40, .inl (lNu u))), (aC A, .inl (cI, 40, .inl (lCk u))), (aK A, .inl (cJ, 40, .inr (.inl (lKe u)))), (aT A, .inl (cJ, 40, .inr (.inl (lTi u)))), (aG A, .inl (cJ, 40, .inr (.inl (lGa u)))), (aF A, .inl (cI, 40, .inl (lOf u)))] s.heap [] := hw
  have iX0 : ∀ w ∈ wsX00, w ∈ wsX0_placeOf := by decide +kernel
  refine lv_iconst (v := 0) F.1 F.2.1 dX0_placeOf_0 (by decide) ?_
  refine lv_istore_n (lv' := [(2, .int 0), (0, .ref (aH A)), (1, .int x)]) F.1 F.2.1 dX0_placeOf_1 rfl hl (by decide) rfl (fun ls hl => ?_)
  refine x_rec0 (α := Nat) (fun a9 => lSz u - a9) (fun a9 ls => lv_has ls 3 [(0, .ref (aH A)), (1, .int x), (2, .int (nI a9))] ∧ a9 ≤ lSz u ∧ ∀ j, j < a9 → eN (lAt u j) ≠ x) ?_ (0) ⟨lv_sub hl [1, 2, 0] rfl, Nat.zero_le _, x_upto0⟩
  rintro i ls ⟨hl, hi, hno⟩ ih
  have h40 := hok.1
  have hl : lv_has ls 3 [(0, .ref (aH A)), (1, .int x), (2, .int (nI i))] := hl
  refine lv_iload_n F.1 F.2.1 dX0_placeOf_2 rfl (lv_at hl 2 rfl) ?_
  refine lv_aload_n F.1 F.2.1 dX0_placeOf_3 rfl (lv_at hl 0 rfl) ?_
  refine x_get F hw iX0 0 rfl rfl 7 (by decide) rfl (List.mem_of_getElem? (i := 1) rfl) rfl dX0_placeOf_4 ?_
  refine lv_icmp_ge (tgt := 33) F.1 F.2.1 dX0_placeOf_7 (by decide) (fun c7 => ?_) (fun c7 => ?_)
  · refine lv_iconst (v := (-1)) F.1 F.2.1 dX0_placeOf_33 (by decide) ?_
    exact x_riret F hr hlk (Or.inr ⟨fun j hj => hno j (by have h9 := x_le (by omega) (by omega) c7; omega), rfl⟩) dX0_placeOf_34
  · have hlt : i < lSz u := x_nle (by omega) (by omega) c7
    refine lv_aload_n F.1 F.2.1 dX0_placeOf_10 rfl (lv_at hl 0 rfl) ?_
    refine x_get F hw iX0 0 rfl rfl 1 (by decide) rfl (List.mem_of_getElem? (i := 2) rfl) rfl dX0_placeOf_11 ?_
    refine lv_aload_n F.1 F.2.1 dX0_placeOf_14 rfl (lv_at hl 0 rfl) ?_
    refine x_get F hw iX0 0 rfl rfl 0 (by decide) rfl (List.mem_of_getElem? (i := 3) rfl) rfl dX0_placeOf_15 ?_
    refine lv_iload_n F.1 F.2.1 dX0_placeOf_18 rfl (lv_at hl 2 rfl) ?_
    refine x_ialdN F hw 1 0 rfl rfl i rfl (by omega) (by decide) dX0_placeOf_19 ?_
    refine x_iald F hw 2 0 rfl rfl (hok.2.1 _ (by omega)) dX0_placeOf_20 ?_
    refine lv_iload_n F.1 F.2.1 dX0_placeOf_21 rfl (lv_at hl 1 rfl) ?_
    refine lv_icmp_ne (tgt := 27) F.1 F.2.1 dX0_placeOf_22 (by decide) (fun c22 => ?_) (fun c22 => ?_)
    · refine lv_iinc (v := nI (i + 1)) (lv' := [(2, .int (nI (i + 1))), (0, .ref (aH A)), (1, .int x)]) F.1 F.2.1 dX0_placeOf_27 hl (k := 2) rfl (by rw [show Int32.ofInt 1 = 1 from rfl]; exact nI_1 _) (by decide) rfl (fun ls hl => ?_)
      refine lv_goto (tgt := 2) F.1 F.2.1 dX0_placeOf_30 (by decide) ?_
      exact ih (i + 1) _ (by omega) ⟨lv_sub hl [1, 2, 0] rfl, by omega, x_upto hno c22⟩
    · refine lv_iload_n F.1 F.2.1 dX0_placeOf_25 rfl (lv_at hl 2 rfl) ?_
      exact x_riret F hr hlk (Or.inl ⟨i, hlt, c22, hno, rfl⟩) dX0_placeOf_26

set_option maxHeartbeats 8000000 in
set_option maxRecDepth 100000 in
/-- headOf -/
theorem c_X0_headOf (l : Launch) (G : va_G) (cI cJ cZ cO : ClassId) (sz : Nat) (A : LnA) (u : LnR) (x : Int32) (hok : LnOk u) : Met l yX0_headOf wsX0_headOf ({ frames := 0, cells := 0, slots := 0, locals := 0 }) (xPc G (xK cI cJ cZ cO) sz [.ref (aH A), .int x] (wLn cI cJ A u)) (xQi (fun r => (∃ k, k < lSz u ∧ eC (lAt u k) = x ∧ (∀ i, i < k → eC (lAt u i) ≠ x) ∧ r = nI k) ∨ ((∀ i, i < lSz u → eC (lAt u i) ≠ x) ∧ r = -1))) 0 0 (fun _ => False) := by
  refine x_body (by decide) rfl (Nat.le_of_ble_eq_true rfl) ?_
  intro p e s m below meth c F hr hlk hnm hsz hw ls hl
  subst hsz
  have F : CallFix p m c cX0_headOf 3 s _ wsX0_headOf RX0 := F
  have hl : lv_has ls 3 [(0, .ref (aH A)), (1, .int x)] := hl
  have hw : xW G (xK cI cJ cZ cO) _ s.heap s [(aH A, .inr (0, [.ref (aO A), .ref (aN A), .ref (aC A), .ref (aK A), .ref (aT A), .ref (aG A), .ref (aF A), .int (nI (lSz u))])), (aO A, .inl (cI, 40, .inl (lO u))), (aN A, .inl (cI, 40, .inl (lNu u))), (aC A, .inl (cI, 40, .inl (lCk u))), (aK A, .inl (cJ, 40, .inr (.inl (lKe u)))), (aT A, .inl (cJ, 40, .inr (.inl (lTi u)))), (aG A, .inl (cJ, 40, .inr (.inl (lGa u)))), (aF A, .inl (cI, 40, .inl (lOf u)))] s.heap [] := hw
  have iX0 : ∀ w ∈ wsX00, w ∈ wsX0_headOf := by decide +kernel
  refine lv_iconst (v := 0) F.1 F.2.1 dX0_headOf_0 (by decide) ?_
  refine lv_istore_n (lv' := [(2, .int 0), (0, .ref (aH A)), (1, .int x)]) F.1 F.2.1 dX0_headOf_1 rfl hl (by decide) rfl (fun ls hl => ?_)
  refine x_rec0 (α := Nat) (fun a9 => lSz u - a9) (fun a9 ls => lv_has ls 3 [(0, .ref (aH A)), (1, .int x), (2, .int (nI a9))] ∧ a9 ≤ lSz u ∧ ∀ j, j < a9 → eC (lAt u j) ≠ x) ?_ (0) ⟨lv_sub hl [1, 2, 0] rfl, Nat.zero_le _, x_upto0⟩
  rintro i ls ⟨hl, hi, hno⟩ ih
  have h40 := hok.1
  have hl : lv_has ls 3 [(0, .ref (aH A)), (1, .int x), (2, .int (nI i))] := hl
  refine lv_iload_n F.1 F.2.1 dX0_headOf_2 rfl (lv_at hl 2 rfl) ?_
  refine lv_aload_n F.1 F.2.1 dX0_headOf_3 rfl (lv_at hl 0 rfl) ?_
  refine x_get F hw iX0 0 rfl rfl 7 (by decide) rfl (List.mem_of_getElem? (i := 1) rfl) rfl dX0_headOf_4 ?_
  refine lv_icmp_ge (tgt := 33) F.1 F.2.1 dX0_headOf_7 (by decide) (fun c7 => ?_) (fun c7 => ?_)
  · refine lv_iconst (v := (-1)) F.1 F.2.1 dX0_headOf_33 (by decide) ?_
    exact x_riret F hr hlk (Or.inr ⟨fun j hj => hno j (by have h9 := x_le (by omega) (by omega) c7; omega), rfl⟩) dX0_headOf_34
  · have hlt : i < lSz u := x_nle (by omega) (by omega) c7
    refine lv_aload_n F.1 F.2.1 dX0_headOf_10 rfl (lv_at hl 0 rfl) ?_
    refine x_get F hw iX0 0 rfl rfl 2 (by decide) rfl (List.mem_of_getElem? (i := 2) rfl) rfl dX0_headOf_11 ?_
    refine lv_aload_n F.1 F.2.1 dX0_headOf_14 rfl (lv_at hl 0 rfl) ?_
    refine x_get F hw iX0 0 rfl rfl 0 (by decide) rfl (List.mem_of_getElem? (i := 3) rfl) rfl dX0_headOf_15 ?_
    refine lv_iload_n F.1 F.2.1 dX0_headOf_18 rfl (lv_at hl 2 rfl) ?_
    refine x_ialdN F hw 1 0 rfl rfl i rfl (by omega) (by decide) dX0_headOf_19 ?_
    refine x_iald F hw 3 0 rfl rfl (hok.2.1 _ (by omega)) dX0_headOf_20 ?_
    refine lv_iload_n F.1 F.2.1 dX0_headOf_21 rfl (lv_at hl 1 rfl) ?_
    refine lv_icmp_ne (tgt := 27) F.1 F.2.1 dX0_headOf_22 (by decide) (fun c22 => ?_) (fun c22 => ?_)
    · refine lv_iinc (v := nI (i + 1)) (lv' := [(2, .int (nI (i + 1))), (0, .ref (aH A)), (1, .int x)]) F.1 F.2.1 dX0_headOf_27 hl (k := 2) rfl (by rw [show Int32.ofInt 1 = 1 from rfl]; exact nI_1 _) (by decide) rfl (fun ls hl => ?_)
      refine lv_goto (tgt := 2) F.1 F.2.1 dX0_headOf_30 (by decide) ?_
      exact ih (i + 1) _ (by omega) ⟨lv_sub hl [1, 2, 0] rfl, by omega, x_upto hno c22⟩
    · refine lv_iload_n F.1 F.2.1 dX0_headOf_25 rfl (lv_at hl 2 rfl) ?_
      exact x_riret F hr hlk (Or.inl ⟨i, hlt, c22, hno, rfl⟩) dX0_headOf_26

set_option maxHeartbeats 8000000 in
set_option maxRecDepth 100000 in
/-- goesAhead(slot, other) -/
theorem c_X0_goesAhead (l : Launch) (G : va_G) (cI cJ cZ cO : ClassId) (sz : Nat) (A : LnA) (u : LnR) (x y : Int32) (hx : vp_in x 40) (hy : vp_in y 40) : Met l yX0_goesAhead wsX0_goesAhead ({ frames := 0, cells := 0, slots := 0, locals := 0 }) (xPc G (xK cI cJ cZ cO) sz [.ref (aH A), .int x, .int y] (wLn cI cJ A u)) (xQi (fun r => r = if eLt (lEnt u x.toNatClampNeg) (lEnt u y.toNatClampNeg) = true then 1 else 0)) 0 0 (fun _ => False) := by
  refine x_body (by decide) rfl (Nat.le_of_ble_eq_true rfl) ?_
  intro p e s m below meth c F hr hlk hnm hsz hw ls hl
  subst hsz
  have F : CallFix p m c cX0_goesAhead 3 s _ wsX0_goesAhead RX0 := F
  have hl : lv_has ls 3 [(0, .ref (aH A)), (1, .int x), (2, .int y)] := hl
  have hw : xW G (xK cI cJ cZ cO) _ s.heap s [(aH A, .inr (0, [.ref (aO A), .ref (aN A), .ref (aC A), .ref (aK A), .ref (aT A), .ref (aG A), .ref (aF A), .int (nI (lSz u))])), (aO A, .inl (cI, 40, .inl (lO u))), (aN A, .inl (cI, 40, .inl (lNu u))), (aC A, .inl (cI, 40, .inl (lCk u))), (aK A, .inl (cJ, 40, .inr (.inl (lKe u)))), (aT A, .inl (cJ, 40, .inr (.inl (lTi u)))), (aG A, .inl (cJ, 40, .inr (.inl (lGa u)))), (aF A, .inl (cI, 40, .inl (lOf u)))] s.heap [] := hw
  have iX0 : ∀ w ∈ wsX00, w ∈ wsX0_goesAhead := by decide +kernel
  refine lv_aload_n F.1 F.2.1 dX0_goesAhead_0 rfl (lv_at hl 0 rfl) ?_
  refine x_get F hw iX0 0 rfl rfl 4 (by decide) rfl (List.mem_of_getElem? (i := 1) rfl) rfl dX0_goesAhead_1 ?_
  refine lv_iload_n F.1 F.2.1 dX0_goesAhead_4 rfl (lv_at hl 1 rfl) ?_
  refine x_lald F hw 5 1 rfl rfl (hx) dX0_goesAhead_5 ?_
  refine lv_aload_n F.1 F.2.1 dX0_goesAhead_6 rfl (lv_at hl 0 rfl) ?_
  refine x_get F hw iX0 0 rfl rfl 4 (by decide) rfl (List.mem_of_getElem? (i := 1) rfl) rfl dX0_goesAhead_7 ?_
  refine lv_iload_n F.1 F.2.1 dX0_goesAhead_10 rfl (lv_at hl 2 rfl) ?_
  refine x_lald F hw 5 1 rfl rfl (hy) dX0_goesAhead_11 ?_
  refine x_l_eq (tgt := 38) F dX0_goesAhead_12 dX0_goesAhead_13 (by decide) (fun c12 => ?_) (fun c12 => ?_)
  · refine lv_aload_n F.1 F.2.1 dX0_goesAhead_38 rfl (lv_at hl 0 rfl) ?_
    refine x_get F hw iX0 0 rfl rfl 3 (by decide) rfl (List.mem_of_getElem? (i := 2) rfl) rfl dX0_goesAhead_39 ?_
    refine lv_iload_n F.1 F.2.1 dX0_goesAhead_42 rfl (lv_at hl 1 rfl) ?_
    refine x_lald F hw 4 1 rfl rfl (hx) dX0_goesAhead_43 ?_
    refine lv_aload_n F.1 F.2.1 dX0_goesAhead_44 rfl (lv_at hl 0 rfl) ?_
    refine x_get F hw iX0 0 rfl rfl 3 (by decide) rfl (List.mem_of_getElem? (i := 2) rfl) rfl dX0_goesAhead_45 ?_
    refine lv_iload_n F.1 F.2.1 dX0_goesAhead_48 rfl (lv_at hl 2 rfl) ?_
    refine x_lald F hw 4 1 rfl rfl (hy) dX0_goesAhead_49 ?_
    refine x_l_eq (tgt := 76) F dX0_goesAhead_50 dX0_goesAhead_51 (by decide) (fun c50 => ?_) (fun c50 => ?_)
    · refine lv_aload_n F.1 F.2.1 dX0_goesAhead_76 rfl (lv_at hl 0 rfl) ?_
      refine x_get F hw iX0 0 rfl rfl 1 (by decide) rfl (List.mem_of_getElem? (i := 3) rfl) rfl dX0_goesAhead_77 ?_
      refine lv_iload_n F.1 F.2.1 dX0_goesAhead_80 rfl (lv_at hl 1 rfl) ?_
      refine x_iald F hw 2 0 rfl rfl (hx) dX0_goesAhead_81 ?_
      refine lv_aload_n F.1 F.2.1 dX0_goesAhead_82 rfl (lv_at hl 0 rfl) ?_
      refine x_get F hw iX0 0 rfl rfl 1 (by decide) rfl (List.mem_of_getElem? (i := 3) rfl) rfl dX0_goesAhead_83 ?_
      refine lv_iload_n F.1 F.2.1 dX0_goesAhead_86 rfl (lv_at hl 2 rfl) ?_
      refine x_iald F hw 2 0 rfl rfl (hy) dX0_goesAhead_87 ?_
      refine lv_icmp_ge (tgt := 95) F.1 F.2.1 dX0_goesAhead_88 (by decide) (fun c88 => ?_) (fun c88 => ?_)
      · refine lv_iconst (v := 0) F.1 F.2.1 dX0_goesAhead_95 (by decide) ?_
        exact x_rzret F hr hlk (rfl) (eLt_0 ((eLt_n c12 c50).trans (decide_eq_false (Int32.not_lt.mpr c88)))) dX0_goesAhead_96
      · refine lv_iconst (v := 1) F.1 F.2.1 dX0_goesAhead_91 (by decide) ?_
        refine lv_goto (tgt := 96) F.1 F.2.1 dX0_goesAhead_92 (by decide) ?_
        exact x_rzret F hr hlk (rfl) (eLt_1 ((eLt_n c12 c50).trans (decide_eq_true (Int32.not_le.mp c88)))) dX0_goesAhead_96
    · refine lv_aload_n F.1 F.2.1 dX0_goesAhead_54 rfl (lv_at hl 0 rfl) ?_
      refine x_get F hw iX0 0 rfl rfl 3 (by decide) rfl (List.mem_of_getElem? (i := 2) rfl) rfl dX0_goesAhead_55 ?_
      refine lv_iload_n F.1 F.2.1 dX0_goesAhead_58 rfl (lv_at hl 1 rfl) ?_
      refine x_lald F hw 4 1 rfl rfl (hx) dX0_goesAhead_59 ?_
      refine lv_aload_n F.1 F.2.1 dX0_goesAhead_60 rfl (lv_at hl 0 rfl) ?_
      refine x_get F hw iX0 0 rfl rfl 3 (by decide) rfl (List.mem_of_getElem? (i := 2) rfl) rfl dX0_goesAhead_61 ?_
      refine lv_iload_n F.1 F.2.1 dX0_goesAhead_64 rfl (lv_at hl 2 rfl) ?_
      refine x_lald F hw 4 1 rfl rfl (hy) dX0_goesAhead_65 ?_
      refine x_l_ge (tgt := 74) F dX0_goesAhead_66 dX0_goesAhead_67 (by decide) (fun c66 => ?_) (fun c66 => ?_)
      · refine lv_iconst (v := 0) F.1 F.2.1 dX0_goesAhead_74 (by decide) ?_
        exact x_rzret F hr hlk (rfl) (eLt_0 ((eLt_k c12 c50).trans (decide_eq_false (Int64.not_lt.mpr c66)))) dX0_goesAhead_75
      · refine lv_iconst (v := 1) F.1 F.2.1 dX0_goesAhead_70 (by decide) ?_
        refine lv_goto (tgt := 75) F.1 F.2.1 dX0_goesAhead_71 (by decide) ?_
        exact x_rzret F hr hlk (rfl) (eLt_1 ((eLt_k c12 c50).trans (decide_eq_true (Int64.not_le.mp c66)))) dX0_goesAhead_75
  · refine lv_aload_n F.1 F.2.1 dX0_goesAhead_16 rfl (lv_at hl 0 rfl) ?_
    refine x_get F hw iX0 0 rfl rfl 4 (by decide) rfl (List.mem_of_getElem? (i := 1) rfl) rfl dX0_goesAhead_17 ?_
    refine lv_iload_n F.1 F.2.1 dX0_goesAhead_20 rfl (lv_at hl 1 rfl) ?_
    refine x_lald F hw 5 1 rfl rfl (hx) dX0_goesAhead_21 ?_
    refine lv_aload_n F.1 F.2.1 dX0_goesAhead_22 rfl (lv_at hl 0 rfl) ?_
    refine x_get F hw iX0 0 rfl rfl 4 (by decide) rfl (List.mem_of_getElem? (i := 1) rfl) rfl dX0_goesAhead_23 ?_
    refine lv_iload_n F.1 F.2.1 dX0_goesAhead_26 rfl (lv_at hl 2 rfl) ?_
    refine x_lald F hw 5 1 rfl rfl (hy) dX0_goesAhead_27 ?_
    refine x_l_ge (tgt := 36) F dX0_goesAhead_28 dX0_goesAhead_29 (by decide) (fun c28 => ?_) (fun c28 => ?_)
    · refine lv_iconst (v := 0) F.1 F.2.1 dX0_goesAhead_36 (by decide) ?_
      exact x_rzret F hr hlk (rfl) (eLt_0 ((eLt_t c12).trans (decide_eq_false (Int64.not_lt.mpr c28)))) dX0_goesAhead_37
    · refine lv_iconst (v := 1) F.1 F.2.1 dX0_goesAhead_32 (by decide) ?_
      refine lv_goto (tgt := 37) F.1 F.2.1 dX0_goesAhead_33 (by decide) ?_
      exact x_rzret F hr hlk (rfl) (eLt_1 ((eLt_t c12).trans (decide_eq_true (Int64.not_le.mp c28)))) dX0_goesAhead_37

set_option maxHeartbeats 8000000 in
set_option maxRecDepth 100000 in
/-- countAheadOf(slot) -/
theorem c_X0_countAheadOf (l : Launch) (G : va_G) (cI cJ cZ cO : ClassId) (sz : Nat) (A : LnA) (u : LnR) (x : Int32) (hx : vp_in x 40) (hok : LnOk u) (k : Nat) (hk : k ≤ lSz u) (h1 : ∀ i, i < k → eLt (lAt u i) (lEnt u x.toNatClampNeg) = true) (h2 : ∀ i, k ≤ i → i < lSz u → eLt (lAt u i) (lEnt u x.toNatClampNeg) = false) : Met l yX0_countAheadOf wsX0_countAheadOf ({ frames := 1, cells := 0, slots := 0, locals := 22 }) (xPc G (xK cI cJ cZ cO) sz [.ref (aH A), .int x] (wLn cI cJ A u)) (xQi (fun r => r = nI k)) 0 0 (fun _ => False) := by
  refine x_body (by decide) rfl (Nat.le_of_ble_eq_true rfl) ?_
  intro p e s m below meth c F hr hlk hnm hsz hw ls hl
  subst hsz
  have F : CallFix p m c cX0_countAheadOf 5 s _ wsX0_countAheadOf RX0 := F
  have hl : lv_has ls 5 [(0, .ref (aH A)), (1, .int x)] := hl
  have hw : xW G (xK cI cJ cZ cO) _ s.heap s [(aH A, .inr (0, [.ref (aO A), .ref (aN A), .ref (aC A), .ref (aK A), .ref (aT A), .ref (aG A), .ref (aF A), .int (nI (lSz u))])), (aO A, .inl (cI, 40, .inl (lO u))), (aN A, .inl (cI, 40, .inl (lNu u))), (aC A, .inl (cI, 40, .inl (lCk u))), (aK A, .inl (cJ, 40, .inr (.inl (lKe u)))), (aT A, .inl (cJ, 40, .inr (.inl (lTi u)))), (aG A, .inl (cJ, 40, .inr (.inl (lGa u)))), (aF A, .inl (cI, 40, .inl (lOf u)))] s.heap [] := hw
  have iX0 : ∀ w ∈ wsX00, w ∈ wsX0_countAheadOf := by decide +kernel
  refine lv_iconst (v := 0) F.1 F.2.1 dX0_countAheadOf_0 (by decide) ?_
  refine lv_istore_n (lv' := [(2, .int 0), (0, .ref (aH A)), (1, .int x)]) F.1 F.2.1 dX0_countAheadOf_1 rfl hl (by decide) rfl (fun ls hl => ?_)
  refine lv_bipush (v := 32) F.1 F.2.1 dX0_countAheadOf_2 (by decide) ?_
  refine lv_istore_n (lv' := [(3, .int 32), (2, .int 0), (0, .ref (aH A)), (1, .int x)]) F.1 F.2.1 dX0_countAheadOf_4 rfl hl (by decide) rfl (fun ls hl => ?_)
  refine x_rec0 (α := Nat × Nat) (fun a9 => a9.1) (fun a9 ls => lv_has ls 5 [(0, .ref (aH A)), (1, .int x), (2, .int (nI a9.2)), (3, .int (nI a9.1))] ∧ ((a9.1 = 0 ∧ k < a9.2 + 1) ∨ (0 < a9.1 ∧ k < a9.2 + 2 * a9.1 ∧ (a9.1 = 1 ∨ a9.1 = 2 ∨ a9.1 = 4 ∨ a9.1 = 8 ∨ a9.1 = 16 ∨ a9.1 = 32))) ∧ a9.2 ≤ k) ?_ ((32, 0)) ⟨lv_sub hl [2, 3, 1, 0] rfl, Or.inr ⟨by decide, by have h40 := hok.1; simp only []; omega, by simp⟩, Nat.zero_le _⟩
  rintro ⟨d, a⟩ ls ⟨hl, hd, ha⟩ ih
  try dsimp only at hd ha
  have h40 := hok.1
  have hl : lv_has ls 5 [(0, .ref (aH A)), (1, .int x), (2, .int (nI a)), (3, .int (nI d))] := hl
  refine lv_iload_n F.1 F.2.1 dX0_countAheadOf_5 rfl (lv_at hl 3 rfl) ?_
  refine lv_if_le (tgt := 50) F.1 F.2.1 dX0_countAheadOf_6 (by decide) (fun c6 => ?_) (fun c6 => ?_)
  · refine lv_iload_n F.1 F.2.1 dX0_countAheadOf_50 rfl (lv_at hl 2 rfl) ?_
    exact x_riret F hr hlk (by have h9 := x_le (a := d) (b := 0) (by omega) (by omega) c6; exact congrArg nI (by omega)) dX0_countAheadOf_51
  · have hd0 : 0 < d := by have h9 : ¬ nI d ≤ nI 0 := c6; exact x_nle (by omega) (by omega) h9
    refine lv_iload_n F.1 F.2.1 dX0_countAheadOf_9 rfl (lv_at hl 2 rfl) ?_
    refine lv_iload_n F.1 F.2.1 dX0_countAheadOf_10 rfl (lv_at hl 3 rfl) ?_
    refine lv_iadd F.1 F.2.1 dX0_countAheadOf_11 ?_
    refine x_topi (v := nI (a + d)) ((nI_add a d).symm) ?_
    refine lv_istore (lv' := [(4, .int (nI (a + d))), (0, .ref (aH A)), (1, .int x), (2, .int (nI a)), (3, .int (nI d))]) F.1 F.2.1 dX0_countAheadOf_12 hl (by decide) rfl (fun ls hl => ?_)
    refine lv_iload F.1 F.2.1 dX0_countAheadOf_14 (lv_at hl 0 rfl) ?_
    refine lv_aload_n F.1 F.2.1 dX0_countAheadOf_16 rfl (lv_at hl 1 rfl) ?_
    refine x_get F hw iX0 0 rfl rfl 7 (by decide) rfl (List.mem_of_getElem? (i := 1) rfl) rfl dX0_countAheadOf_17 ?_
    refine lv_icmp_gt (tgt := 43) F.1 F.2.1 dX0_countAheadOf_20 (by decide) (fun c20 => ?_) (fun c20 => ?_)
    · have hka : k < a + d := by have h9 := x_lt (by omega) (by omega) c20; omega
      refine lv_iload_n F.1 F.2.1 dX0_countAheadOf_43 rfl (lv_at hl 4 rfl) ?_
      refine lv_iconst (v := 2) F.1 F.2.1 dX0_countAheadOf_44 (by decide) ?_
      refine lv_idiv F.1 F.2.1 dX0_countAheadOf_45 (by decide) ?_
      refine x_topi (v := nI (d / 2)) ((pk_div (by omega) (by decide) (by decide)).symm) ?_
      refine lv_istore_n (lv' := [(3, .int (nI (d / 2))), (4, .int (nI (a + d))), (0, .ref (aH A)), (1, .int x), (2, .int (nI a))]) F.1 F.2.1 dX0_countAheadOf_46 rfl hl (by decide) rfl (fun ls hl => ?_)
      refine lv_goto (tgt := 5) F.1 F.2.1 dX0_countAheadOf_47 (by decide) ?_
      exact ih ((d / 2, a)) _ (by simp only []; omega) ⟨lv_sub hl [2, 3, 4, 0] rfl, by simp only []; omega, by simp only []; omega⟩
    · have hle : a + d ≤ lSz u := x_nlt (by omega) (by omega) c20
      refine lv_aload_n F.1 F.2.1 dX0_countAheadOf_23 rfl (lv_at hl 1 rfl) ?_
      refine lv_aload_n F.1 F.2.1 dX0_countAheadOf_24 rfl (lv_at hl 1 rfl) ?_
      refine x_get F hw iX0 0 rfl rfl 0 (by decide) rfl (List.mem_of_getElem? (i := 2) rfl) rfl dX0_countAheadOf_25 ?_
      refine lv_iload F.1 F.2.1 dX0_countAheadOf_28 (lv_at hl 0 rfl) ?_
      refine lv_iconst (v := 1) F.1 F.2.1 dX0_countAheadOf_30 (by decide) ?_
      refine lv_isub F.1 F.2.1 dX0_countAheadOf_31 ?_
      refine x_topi (v := nI ((a + d) - 1)) ((pk_sub (a := a + d) (b := 1) (by omega)).symm) ?_
      refine x_ialdN F hw 1 0 rfl rfl ((a + d) - 1) rfl (by omega) (by decide) dX0_countAheadOf_32 ?_
      refine lv_iload_n F.1 F.2.1 dX0_countAheadOf_33 rfl (lv_at hl 2 rfl) ?_
      refine x_ri (va_runV (As := [.int (lO u ((a + d) - 1)), .int x]) (rest := []) F (c_X0_goesAhead l G cI cJ cZ cO (Array.size _) A u (lO u (a + d - 1)) x (hok.2.1 _ (by omega)) hx) (cwV 2 F.2.2.2.2 gX0_countAheadOf_X0_goesAhead rfl rfl rfl (by decide +kernel) ⟨Nat.le_of_ble_eq_true rfl, Nat.le_of_ble_eq_true rfl⟩) (x_preVW hw [0, 1, 2, 3, 4, 5, 6, 7] rfl (by decide) 0 rfl rfl) rfl rfl hl.1 rfl (lv_room (Nat.le_of_ble_eq_true rfl)) dX0_countAheadOf_34 ⟨Nat.le_of_ble_eq_true rfl, Nat.le_of_ble_eq_true rfl⟩) (fun r9 hr9 => ?_)
      refine lv_if_eq (tgt := 43) F.1 F.2.1 dX0_countAheadOf_37 (by decide) (fun c37 => ?_) (fun c37 => ?_)
      · have hka : k < a + d := by
          rcases Nat.lt_or_ge (a + d - 1) k with q | q
          · have h9 := h1 (a + d - 1) q
            have h8 : r9 = 1 := by rw [hr9]; exact if_pos h9
            rw [h8] at c37; exact absurd c37 (by decide)
          · omega
        refine lv_iload_n F.1 F.2.1 dX0_countAheadOf_43 rfl (lv_at hl 4 rfl) ?_
        refine lv_iconst (v := 2) F.1 F.2.1 dX0_countAheadOf_44 (by decide) ?_
        refine lv_idiv F.1 F.2.1 dX0_countAheadOf_45 (by decide) ?_
        refine x_topi (v := nI (d / 2)) ((pk_div (by omega) (by decide) (by decide)).symm) ?_
        refine lv_istore_n (lv' := [(3, .int (nI (d / 2))), (4, .int (nI (a + d))), (0, .ref (aH A)), (1, .int x), (2, .int (nI a))]) F.1 F.2.1 dX0_countAheadOf_46 rfl hl (by decide) rfl (fun ls hl => ?_)
        refine lv_goto (tgt := 5) F.1 F.2.1 dX0_countAheadOf_47 (by decide) ?_
        exact ih ((d / 2, a)) _ (by simp only []; omega) ⟨lv_sub hl [2, 3, 4, 0] rfl, by simp only []; omega, by simp only []; omega⟩
      · have hka : a + d ≤ k := by
          rcases Nat.lt_or_ge (a + d - 1) k with q | q
          · omega
          · have h9 := h2 (a + d - 1) q (by omega)
            have h8 : r9 = 0 := by rw [hr9]; exact if_neg (by rw [show eLt (lEnt u (lO u (a + d - 1)).toNatClampNeg) (lEnt u x.toNatClampNeg) = false from h9]; decide)
            exact absurd h8 c37
        refine lv_iload F.1 F.2.1 dX0_countAheadOf_40 (lv_at hl 0 rfl) ?_
        refine lv_istore_n (lv' := [(2, .int (nI (a + d))), (4, .int (nI (a + d))), (0, .ref (aH A)), (1, .int x), (3, .int (nI d))]) F.1 F.2.1 dX0_countAheadOf_42 rfl hl (by decide) rfl (fun ls hl => ?_)
        refine lv_iload_n F.1 F.2.1 dX0_countAheadOf_43 rfl (lv_at hl 4 rfl) ?_
        refine lv_iconst (v := 2) F.1 F.2.1 dX0_countAheadOf_44 (by decide) ?_
        refine lv_idiv F.1 F.2.1 dX0_countAheadOf_45 (by decide) ?_
        refine x_topi (v := nI (d / 2)) ((pk_div (by omega) (by decide) (by decide)).symm) ?_
        refine lv_istore_n (lv' := [(3, .int (nI (d / 2))), (2, .int (nI (a + d))), (4, .int (nI (a + d))), (0, .ref (aH A)), (1, .int x)]) F.1 F.2.1 dX0_countAheadOf_46 rfl hl (by decide) rfl (fun ls hl => ?_)
        refine lv_goto (tgt := 5) F.1 F.2.1 dX0_countAheadOf_47 (by decide) ?_
        exact ih ((d / 2, a + d)) _ (by simp only []; omega) ⟨lv_sub hl [3, 4, 1, 0] rfl, by simp only []; omega, by simp only []; omega⟩
end
section
/-! What a line's writes do to it. -/
def lSetO (u : LnR) (o : Nat → Int32) (n : Nat) : LnR := (o, lNu u, lCk u, lKe u, lTi u, lGa u, lOf u, n)
def lLeave (u : LnR) (p : Nat) : LnR := lSetO u (upd (va_cpy (lO u) (lO u) (p + 1) p (lSz u - p - 1)) (lSz u - 1) (lO u p)) (lSz u - 1)
def lSort (u : LnR) (k : Nat) : LnR := lSetO u (upd (va_cpy (lO u) (lO u) k (k + 1) (lSz u - k)) k (lO u (lSz u))) (lSz u + 1)
abbrev lSl (u : LnR) : Nat := (lO u (lSz u)).toNatClampNeg
def lPut (u : LnR) (a : Ent) : LnR := (lO u, upd (lNu u) (lSl u) (eN a), upd (lCk u) (lSl u) (eC a), vp_updL (lKe u) (lSl u) (eK a), vp_updL (lTi u) (lSl u) (eT a), vp_updL (lGa u) (lSl u) (eG a), upd (lOf u) (lSl u) (eO a), lSz u)
def lPutT (u : LnR) (t : Int64) : LnR := (lO u, lNu u, lCk u, lKe u, vp_updL (lTi u) (lSl u) t, lGa u, lOf u, lSz u)
def lAgain (u : LnR) (x : Int32) : LnR := (lO u, upd (lNu u) (lSl u) x, lCk u, lKe u, vp_updL (lTi u) (lSl u) (lTi u (lSl u) + lGa u (lSl u)), lGa u, upd (lOf u) (lSl u) (lOf u (lSl u) - 1), lSz u)
theorem lAb_len (u : LnR) : (lAb u).length = lSz u := by simp [lAb]
theorem lAb_get (u : LnR) (i : Nat) : (lAb u)[i]? = if i < lSz u then some (lAt u i) else none := by
  unfold lAb
  rw [List.getElem?_map]
  by_cases h : i < lSz u
  · rw [List.getElem?_range h, if_pos h]; rfl
  · rw [if_neg h, List.getElem?_eq_none (by rw [List.length_range]; omega)]; rfl
theorem lEnt_setO (u : LnR) (o : Nat → Int32) (n j : Nat) : lEnt (lSetO u o n) j = lEnt u j := rfl
theorem lLeave_o (u : LnR) {p : Nat} (hp : p < lSz u) (i : Nat) : lO (lLeave u p) i = if i = lSz u - 1 then lO u p else if p ≤ i ∧ i < lSz u - 1 then lO u (i + 1) else lO u i := by
  show upd (va_cpy (lO u) (lO u) (p + 1) p (lSz u - p - 1)) (lSz u - 1) (lO u p) i = _
  unfold upd va_cpy
  by_cases h1 : i = lSz u - 1
  · rw [if_pos h1, if_pos h1]
  · rw [if_neg h1, if_neg h1]
    by_cases h2 : p ≤ i ∧ i < lSz u - 1
    · rw [if_pos h2, if_pos (by omega), show p + 1 + (i - p) = i + 1 by omega]
    · rw [if_neg h2, if_neg (by omega)]
theorem lSort_o (u : LnR) {k : Nat} (hk : k ≤ lSz u) (i : Nat) : lO (lSort u k) i = if i = k then lO u (lSz u) else if k < i ∧ i ≤ lSz u then lO u (i - 1) else lO u i := by
  show upd (va_cpy (lO u) (lO u) k (k + 1) (lSz u - k)) k (lO u (lSz u)) i = _
  unfold upd va_cpy
  by_cases h1 : i = k
  · rw [if_pos h1, if_pos h1]
  · rw [if_neg h1, if_neg h1]
    by_cases h2 : k < i ∧ i ≤ lSz u
    · rw [if_pos h2, if_pos (by omega), show k + (i - (k + 1)) = i - 1 by omega]
    · rw [if_neg h2, if_neg (by omega)]
theorem lLeave_ok {u : LnR} (h : LnOk u) {p : Nat} (hp : p < lSz u) : LnOk (lLeave u p) := by
  obtain ⟨h1, h2, h3⟩ := h
  have key : ∀ i, i < 40 → ∃ j, j < 40 ∧ lO (lLeave u p) i = lO u j ∧ j = if i = lSz u - 1 then p else if p ≤ i ∧ i < lSz u - 1 then i + 1 else i := by
    intro i hi
    rw [lLeave_o u hp]
    by_cases e1 : i = lSz u - 1
    · rw [if_pos e1, if_pos e1]; exact ⟨p, by omega, rfl, rfl⟩
    · rw [if_neg e1, if_neg e1]
      by_cases e2 : p ≤ i ∧ i < lSz u - 1
      · rw [if_pos e2, if_pos e2]; exact ⟨i + 1, by omega, rfl, rfl⟩
      · rw [if_neg e2, if_neg e2]; exact ⟨i, hi, rfl, rfl⟩
  refine ⟨show lSz u - 1 ≤ 40 by omega, fun i hi => ?_, fun i j hi hj e => ?_⟩
  · obtain ⟨a, ha, e1, -⟩ := key i hi
    rw [e1]; exact h2 a ha
  · obtain ⟨a, ha, e1, e2⟩ := key i hi
    obtain ⟨b, hb, e3, e4⟩ := key j hj
    have := h3 a b ha hb (by rw [← e1, ← e3, e])
    repeat' split at e2
    all_goals repeat' split at e4
    all_goals omega
theorem lSort_ok {u : LnR} (h : LnOk u) (hn : lSz u < 40) {k : Nat} (hk : k ≤ lSz u) : LnOk (lSort u k) := by
  obtain ⟨h1, h2, h3⟩ := h
  have key : ∀ i, i < 40 → ∃ j, j < 40 ∧ lO (lSort u k) i = lO u j ∧ j = if i = k then lSz u else if k < i ∧ i ≤ lSz u then i - 1 else i := by
    intro i hi
    rw [lSort_o u hk]
    by_cases e1 : i = k
    · rw [if_pos e1, if_pos e1]; exact ⟨lSz u, by omega, rfl, rfl⟩
    · rw [if_neg e1, if_neg e1]
      by_cases e2 : k < i ∧ i ≤ lSz u
      · rw [if_pos e2, if_pos e2]; exact ⟨i - 1, by omega, rfl, rfl⟩
      · rw [if_neg e2, if_neg e2]; exact ⟨i, hi, rfl, rfl⟩
  refine ⟨show lSz u + 1 ≤ 40 by omega, fun i hi => ?_, fun i j hi hj e => ?_⟩
  · obtain ⟨a, ha, e1, -⟩ := key i hi
    rw [e1]; exact h2 a ha
  · obtain ⟨a, ha, e1, e2⟩ := key i hi
    obtain ⟨b, hb, e3, e4⟩ := key j hj
    have := h3 a b ha hb (by rw [← e1, ← e3, e])
    repeat' split at e2
    all_goals repeat' split at e4
    all_goals omega
theorem lLeave_ab {u : LnR} {p : Nat} (hp : p < lSz u) : lAb (lLeave u p) = (lAb u).eraseIdx p := by
  apply List.ext_getElem?
  intro i
  rw [lAb_get, List.getElem?_eraseIdx, lAb_get, lAb_get]
  have hz : lSz (lLeave u p) = lSz u - 1 := rfl
  have ha : lAt (lLeave u p) i = lEnt u (lO (lLeave u p) i).toNatClampNeg := rfl
  rw [hz, ha, lLeave_o u hp]
  by_cases h1 : i < p
  · rw [if_pos (show i < lSz u - 1 by omega), if_neg (show ¬ i = lSz u - 1 by omega), if_neg (show ¬ (p ≤ i ∧ i < lSz u - 1) by omega), if_pos h1, if_pos (show i < lSz u by omega)]; rfl
  · rw [if_neg h1]
    by_cases h2 : i + 1 < lSz u
    · rw [if_pos (show i < lSz u - 1 by omega), if_pos h2, if_neg (by omega), if_pos (by omega)]; rfl
    · rw [if_neg (show ¬ i < lSz u - 1 by omega), if_neg h2]
theorem lLeave_sl {u : LnR} {p : Nat} (hp : p < lSz u) : lO (lLeave u p) (lSz (lLeave u p)) = lO u p := by
  rw [lLeave_o u hp, if_pos (show lSz (lLeave u p) = lSz u - 1 from rfl)]
theorem lSort_ab {u : LnR} {k : Nat} (hk : k ≤ lSz u) : lAb (lSort u k) = (lAb u).insertIdx k (lAt u (lSz u)) := by
  apply List.ext_getElem?
  intro i
  rw [lAb_get, List.getElem?_insertIdx, lAb_get, lAb_get, lAb_len]
  have hz : lSz (lSort u k) = lSz u + 1 := rfl
  have ha : lAt (lSort u k) i = lEnt u (lO (lSort u k) i).toNatClampNeg := rfl
  rw [hz, ha, lSort_o u hk]
  by_cases h1 : i < k
  · rw [if_pos h1, if_pos (show i < lSz u + 1 by omega), if_neg (by omega), if_neg (by omega), if_pos (show i < lSz u by omega)]; rfl
  · rw [if_neg h1]
    by_cases h2 : i = k
    · rw [if_pos h2, if_pos h2, if_pos (show i < lSz u + 1 by omega)]
      rw [if_pos (by omega)]; rfl
    · rw [if_neg h2, if_neg h2]
      by_cases h3 : i < lSz u + 1
      · rw [if_pos h3, if_pos (by omega), if_pos (by omega)]; rfl
      · rw [if_neg h3, if_neg (by omega)]
/-- the slots of two places differ -/
theorem lSlot_ne {u : LnR} (h : LnOk u) {i j : Nat} (hi : i < 40) (hj : j < 40) (hne : i ≠ j) : (lO u i).toNatClampNeg ≠ (lO u j).toNatClampNeg := by
  intro e
  obtain ⟨a, ha, ea⟩ := vp_in_of (h.2.1 i hi) (by decide)
  obtain ⟨b, hb, eb⟩ := vp_in_of (h.2.1 j hj) (by decide)
  rw [ea, eb, nI_clamp (by omega), nI_clamp (by omega)] at e
  exact hne (h.2.2 i j hi hj (by rw [ea, eb, e]))
theorem lPut_ok {u : LnR} (h : LnOk u) (a : Ent) : LnOk (lPut u a) := h
theorem lPutT_ok {u : LnR} (h : LnOk u) (t : Int64) : LnOk (lPutT u t) := h
theorem lAgain_ok {u : LnR} (h : LnOk u) (x : Int32) : LnOk (lAgain u x) := h
theorem lPut_at {u : LnR} (h : LnOk u) (hn : lSz u < 40) (a : Ent) {i : Nat} (hi : i < lSz u) : lAt (lPut u a) i = lAt u i := by
  have hne := lSlot_ne h (show i < 40 by omega) hn (by omega)
  show ((upd (lNu u) (lSl u) (eN a)) (lO u i).toNatClampNeg, (upd (lCk u) (lSl u) (eC a)) (lO u i).toNatClampNeg, (vp_updL (lKe u) (lSl u) (eK a)) (lO u i).toNatClampNeg, (vp_updL (lTi u) (lSl u) (eT a)) (lO u i).toNatClampNeg, (vp_updL (lGa u) (lSl u) (eG a)) (lO u i).toNatClampNeg, (upd (lOf u) (lSl u) (eO a)) (lO u i).toNatClampNeg) = lAt u i
  rw [pk_un hne, pk_un hne, pk_uLn hne, pk_uLn hne, pk_uLn hne, pk_un hne]; rfl
theorem lPut_new (u : LnR) (a : Ent) : lAt (lPut u a) (lSz u) = a := by
  show ((upd (lNu u) (lSl u) (eN a)) (lSl u), (upd (lCk u) (lSl u) (eC a)) (lSl u), (vp_updL (lKe u) (lSl u) (eK a)) (lSl u), (vp_updL (lTi u) (lSl u) (eT a)) (lSl u), (vp_updL (lGa u) (lSl u) (eG a)) (lSl u), (upd (lOf u) (lSl u) (eO a)) (lSl u)) = a
  rw [pk_us, pk_us, pk_uLs, pk_uLs, pk_uLs, pk_us]
theorem lPutT_at {u : LnR} (h : LnOk u) (hn : lSz u < 40) (t : Int64) {i : Nat} (hi : i < lSz u) : lAt (lPutT u t) i = lAt u i := by
  have hne := lSlot_ne h (show i < 40 by omega) hn (by omega)
  show (lNu u (lO u i).toNatClampNeg, lCk u (lO u i).toNatClampNeg, lKe u (lO u i).toNatClampNeg, (vp_updL (lTi u) (lSl u) t) (lO u i).toNatClampNeg, lGa u (lO u i).toNatClampNeg, lOf u (lO u i).toNatClampNeg) = lAt u i
  rw [pk_uLn hne]; rfl
/-- another time -/
def eSetT (a : Ent) (t : Int64) : Ent := (eN a, eC a, eK a, t, eG a, eO a)
/-- set again -/
def eAgain (a : Ent) (x : Int32) : Ent := (x, eC a, eK a, eT a + eG a, eG a, eO a - 1)
theorem lPutT_new (u : LnR) (t : Int64) : lAt (lPutT u t) (lSz u) = eSetT (lAt u (lSz u)) t := by
  show (lNu u (lSl u), lCk u (lSl u), lKe u (lSl u), (vp_updL (lTi u) (lSl u) t) (lSl u), lGa u (lSl u), lOf u (lSl u)) = _
  rw [pk_uLs]; rfl
theorem lAgain_at {u : LnR} (h : LnOk u) (hn : lSz u < 40) (x : Int32) {i : Nat} (hi : i < lSz u) : lAt (lAgain u x) i = lAt u i := by
  have hne := lSlot_ne h (show i < 40 by omega) hn (by omega)
  show ((upd (lNu u) (lSl u) x) (lO u i).toNatClampNeg, lCk u (lO u i).toNatClampNeg, lKe u (lO u i).toNatClampNeg, (vp_updL (lTi u) (lSl u) _) (lO u i).toNatClampNeg, lGa u (lO u i).toNatClampNeg, (upd (lOf u) (lSl u) _) (lO u i).toNatClampNeg) = lAt u i
  rw [pk_un hne, pk_uLn hne, pk_un hne]; rfl
theorem lAgain_new (u : LnR) (x : Int32) : lAt (lAgain u x) (lSz u) = eAgain (lAt u (lSz u)) x := by
  show ((upd (lNu u) (lSl u) x) (lSl u), lCk u (lSl u), lKe u (lSl u), (vp_updL (lTi u) (lSl u) (lTi u (lSl u) + lGa u (lSl u))) (lSl u), lGa u (lSl u), (upd (lOf u) (lSl u) (lOf u (lSl u) - 1)) (lSl u)) = _
  rw [pk_us, pk_uLs, pk_us]; rfl
theorem lAb_cong {u v : LnR} (hz : lSz u = lSz v) (h : ∀ i, i < lSz u → lAt u i = lAt v i) : lAb u = lAb v := by
  apply List.ext_getElem?
  intro i
  rw [lAb_get, lAb_get, ← hz]
  by_cases hi : i < lSz u
  · rw [if_pos hi, if_pos hi, h i hi]
  · rw [if_neg hi, if_neg hi]
end
section
set_option maxHeartbeats 8000000 in
set_option maxRecDepth 100000 in
/-- leave(place) -/
theorem c_X0_leave (l : Launch) (G : va_G) (cI cJ cZ cO : ClassId) (sz : Nat) (A : LnA) (u : LnR) (p9 : Nat) (hok : LnOk u) (hp : p9 < lSz u) : Met l yX0_leave wsX0_leave ({ frames := 1, cells := 0, slots := 0, locals := 40 }) (xPc G (xK cI cJ cZ cO) sz [.ref (aH A), .int (nI p9)] (wLn cI cJ A u)) (va_Qv (fun u2 => u2 = lLeave u p9) (xB G (xK cI cJ cZ cO) (wLn cI cJ A u) sz (fun u9 : LnR => wLn cI cJ A u9)) (va_A (wLn cI cJ A u) sz)) 0 0 (va_A (wLn cI cJ A u) sz) := by
  refine x_body (by decide) rfl (Nat.le_of_ble_eq_true rfl) ?_
  intro p e s m below meth c F hr hlk hnm hsz hw ls hl
  subst hsz
  have F : CallFix p m c cX0_leave 3 s _ wsX0_leave RX0 := F
  have hl : lv_has ls 3 [(0, .ref (aH A)), (1, .int (nI p9))] := hl
  have hw : xW G (xK cI cJ cZ cO) _ s.heap s [(aH A, .inr (0, [.ref (aO A), .ref (aN A), .ref (aC A), .ref (aK A), .ref (aT A), .ref (aG A), .ref (aF A), .int (nI (lSz u))])), (aO A, .inl (cI, 40, .inl (lO u))), (aN A, .inl (cI, 40, .inl (lNu u))), (aC A, .inl (cI, 40, .inl (lCk u))), (aK A, .inl (cJ, 40, .inr (.inl (lKe u)))), (aT A, .inl (cJ, 40, .inr (.inl (lTi u)))), (aG A, .inl (cJ, 40, .inr (.inl (lGa u)))), (aF A, .inl (cI, 40, .inl (lOf u)))] s.heap [] := hw
  have iX0 : ∀ w ∈ wsX00, w ∈ wsX0_leave := by decide +kernel
  have h40 := hok.1
  refine lv_aload_n F.1 F.2.1 dX0_leave_0 rfl (lv_at hl 0 rfl) ?_
  refine x_get F hw iX0 0 rfl rfl 0 (by decide) rfl (List.mem_of_getElem? (i := 1) rfl) rfl dX0_leave_1 ?_
  refine lv_iload_n F.1 F.2.1 dX0_leave_4 rfl (lv_at hl 1 rfl) ?_
  refine x_ialdN F hw 1 0 rfl rfl p9 rfl (by omega) (by decide) dX0_leave_5 ?_
  refine lv_istore_n (lv' := [(2, .int (lO u p9)), (0, .ref (aH A)), (1, .int (nI p9))]) F.1 F.2.1 dX0_leave_6 rfl hl (by decide) rfl (fun ls hl => ?_)
  refine lv_aload_n F.1 F.2.1 dX0_leave_7 rfl (lv_at hl 1 rfl) ?_
  refine x_get F hw iX0 0 rfl rfl 0 (by decide) rfl (List.mem_of_getElem? (i := 1) rfl) rfl dX0_leave_8 ?_
  refine lv_iload_n F.1 F.2.1 dX0_leave_11 rfl (lv_at hl 2 rfl) ?_
  refine lv_iconst (v := 1) F.1 F.2.1 dX0_leave_12 (by decide) ?_
  refine lv_iadd F.1 F.2.1 dX0_leave_13 ?_
  refine x_topi (v := nI (p9 + 1)) ((nI_add p9 1).symm) ?_
  refine lv_aload_n F.1 F.2.1 dX0_leave_14 rfl (lv_at hl 1 rfl) ?_
  refine x_get F hw iX0 0 rfl rfl 0 (by decide) rfl (List.mem_of_getElem? (i := 1) rfl) rfl dX0_leave_15 ?_
  refine lv_iload_n F.1 F.2.1 dX0_leave_18 rfl (lv_at hl 2 rfl) ?_
  refine lv_aload_n F.1 F.2.1 dX0_leave_19 rfl (lv_at hl 1 rfl) ?_
  refine x_get F hw iX0 0 rfl rfl 7 (by decide) rfl (List.mem_of_getElem? (i := 2) rfl) rfl dX0_leave_20 ?_
  refine lv_iload_n F.1 F.2.1 dX0_leave_23 rfl (lv_at hl 2 rfl) ?_
  refine lv_isub F.1 F.2.1 dX0_leave_24 ?_
  refine x_topi (v := nI ((lSz u) - p9)) ((pk_sub (a := lSz u) (b := p9) (by omega)).symm) ?_
  refine lv_iconst (v := 1) F.1 F.2.1 dX0_leave_25 (by decide) ?_
  refine lv_isub F.1 F.2.1 dX0_leave_26 ?_
  refine x_topi (v := nI (((lSz u) - p9) - 1)) ((pk_sub (a := (lSz u) - p9) (b := 1) (by omega)).symm) ?_
  refine x_copyi F hw (List.mem_of_getElem? (i := 3) rfl) (List.mem_of_getElem? (i := 4) rfl) (List.mem_of_getElem? (i := 5) rfl) (List.mem_of_getElem? (i := 6) rfl) 1 1 0 rfl rfl rfl rfl (sp := p9 + 1) (dp := p9) (n := ((lSz u) - p9) - 1) rfl rfl rfl (by omega) (by omega) (by decide) (by decide) hl.1 (Nat.le_of_ble_eq_true rfl) (Nat.le_of_ble_eq_true rfl) dX0_leave_27 (fun H locs hw => ?_)
  have hw : xW G (xK cI cJ cZ cO) _ s.heap s [(aH A, .inr (0, [.ref (aO A), .ref (aN A), .ref (aC A), .ref (aK A), .ref (aT A), .ref (aG A), .ref (aF A), .int (nI (lSz u))])), (aO A, .inl (cI, 40, .inl (va_cpy (lO u) (lO u) (p9 + 1) p9 (((lSz u) - p9) - 1)))), (aN A, .inl (cI, 40, .inl (lNu u))), (aC A, .inl (cI, 40, .inl (lCk u))), (aK A, .inl (cJ, 40, .inr (.inl (lKe u)))), (aT A, .inl (cJ, 40, .inr (.inl (lTi u)))), (aG A, .inl (cJ, 40, .inr (.inl (lGa u)))), (aF A, .inl (cI, 40, .inl (lOf u)))] H _ := hw
  refine lv_aload_n F.1 F.2.1 dX0_leave_30 rfl (lv_at hl 1 rfl) ?_
  refine lv_dup F.1 F.2.1 dX0_leave_31 rfl ?_
  refine x_get F hw iX0 0 rfl rfl 7 (by decide) rfl (List.mem_of_getElem? (i := 2) rfl) rfl dX0_leave_32 ?_
  refine lv_iconst (v := 1) F.1 F.2.1 dX0_leave_35 (by decide) ?_
  refine lv_isub F.1 F.2.1 dX0_leave_36 ?_
  refine x_topi (v := nI ((lSz u) - 1)) ((pk_sub (a := lSz u) (b := 1) (by omega)).symm) ?_
  refine x_put F hw iX0 tyX0 tyX0_ok nmX0 0 rfl rfl 7 (by decide) rfl (List.mem_of_getElem? (i := 2) rfl) (rfl) (rfl) (Nat.le_of_ble_eq_true rfl) dX0_leave_37 (fun H locs hw => ?_)
  have hw : xW G (xK cI cJ cZ cO) _ s.heap s [(aH A, .inr (0, [.ref (aO A), .ref (aN A), .ref (aC A), .ref (aK A), .ref (aT A), .ref (aG A), .ref (aF A), .int (nI ((lSz u) - 1))])), (aO A, .inl (cI, 40, .inl (va_cpy (lO u) (lO u) (p9 + 1) p9 (((lSz u) - p9) - 1)))), (aN A, .inl (cI, 40, .inl (lNu u))), (aC A, .inl (cI, 40, .inl (lCk u))), (aK A, .inl (cJ, 40, .inr (.inl (lKe u)))), (aT A, .inl (cJ, 40, .inr (.inl (lTi u)))), (aG A, .inl (cJ, 40, .inr (.inl (lGa u)))), (aF A, .inl (cI, 40, .inl (lOf u)))] H _ := hw
  refine lv_aload_n F.1 F.2.1 dX0_leave_40 rfl (lv_at hl 1 rfl) ?_
  refine x_get F hw iX0 0 rfl rfl 0 (by decide) rfl (List.mem_of_getElem? (i := 1) rfl) rfl dX0_leave_41 ?_
  refine lv_aload_n F.1 F.2.1 dX0_leave_44 rfl (lv_at hl 1 rfl) ?_
  refine x_get F hw iX0 0 rfl rfl 7 (by decide) rfl (List.mem_of_getElem? (i := 2) rfl) rfl dX0_leave_45 ?_
  refine lv_iload_n F.1 F.2.1 dX0_leave_48 rfl (lv_at hl 0 rfl) ?_
  refine x_iastN F hw 1 0 rfl rfl ((lSz u) - 1) rfl (by omega) (by decide) dX0_leave_49 (fun H locs hw => ?_)
  have hw : xW G (xK cI cJ cZ cO) _ s.heap s [(aH A, .inr (0, [.ref (aO A), .ref (aN A), .ref (aC A), .ref (aK A), .ref (aT A), .ref (aG A), .ref (aF A), .int (nI ((lSz u) - 1))])), (aO A, .inl (cI, 40, .inl (upd (va_cpy (lO u) (lO u) (p9 + 1) p9 (((lSz u) - p9) - 1)) ((lSz u) - 1) (lO u p9)))), (aN A, .inl (cI, 40, .inl (lNu u))), (aC A, .inl (cI, 40, .inl (lCk u))), (aK A, .inl (cJ, 40, .inr (.inl (lKe u)))), (aT A, .inl (cJ, 40, .inr (.inl (lTi u)))), (aG A, .inl (cJ, 40, .inr (.inl (lGa u)))), (aF A, .inl (cI, 40, .inl (lOf u)))] H _ := hw
  exact x_vret (f := fun u9 : LnR => wLn cI cJ A u9) (lLeave u p9) F hr hlk hw (rfl) dX0_leave_50

set_option maxHeartbeats 8000000 in
set_option maxRecDepth 100000 in
/-- sortInFirstFree() -/
theorem c_X0_sortInFirstFree (l : Launch) (G : va_G) (cI cJ cZ cO : ClassId) (sz : Nat) (A : LnA) (u : LnR) (k : Nat) (hok : LnOk u) (hn : lSz u < 40) (hk : k ≤ lSz u) (h1 : ∀ i, i < k → eLt (lAt u i) (lAt u (lSz u)) = true) (h2 : ∀ i, k ≤ i → i < lSz u → eLt (lAt u i) (lAt u (lSz u)) = false) : Met l yX0_sortInFirstFree wsX0_sortInFirstFree ({ frames := 2, cells := 0, slots := 0, locals := 46 }) (xPc G (xK cI cJ cZ cO) sz [.ref (aH A)] (wLn cI cJ A u)) (va_Qv (fun u2 => u2 = lSort u k) (xB G (xK cI cJ cZ cO) (wLn cI cJ A u) sz (fun u9 : LnR => wLn cI cJ A u9)) (va_A (wLn cI cJ A u) sz)) 0 0 (va_A (wLn cI cJ A u) sz) := by
  refine x_body (by decide) rfl (Nat.le_of_ble_eq_true rfl) ?_
  intro p e s m below meth c F hr hlk hnm hsz hw ls hl
  subst hsz
  have F : CallFix p m c cX0_sortInFirstFree 3 s _ wsX0_sortInFirstFree RX0 := F
  have hl : lv_has ls 3 [(0, .ref (aH A))] := hl
  have hw : xW G (xK cI cJ cZ cO) _ s.heap s [(aH A, .inr (0, [.ref (aO A), .ref (aN A), .ref (aC A), .ref (aK A), .ref (aT A), .ref (aG A), .ref (aF A), .int (nI (lSz u))])), (aO A, .inl (cI, 40, .inl (lO u))), (aN A, .inl (cI, 40, .inl (lNu u))), (aC A, .inl (cI, 40, .inl (lCk u))), (aK A, .inl (cJ, 40, .inr (.inl (lKe u)))), (aT A, .inl (cJ, 40, .inr (.inl (lTi u)))), (aG A, .inl (cJ, 40, .inr (.inl (lGa u)))), (aF A, .inl (cI, 40, .inl (lOf u)))] s.heap [] := hw
  have iX0 : ∀ w ∈ wsX00, w ∈ wsX0_sortInFirstFree := by decide +kernel
  refine lv_aload_n F.1 F.2.1 dX0_sortInFirstFree_0 rfl (lv_at hl 0 rfl) ?_
  refine x_get F hw iX0 0 rfl rfl 0 (by decide) rfl (List.mem_of_getElem? (i := 1) rfl) rfl dX0_sortInFirstFree_1 ?_
  refine lv_aload_n F.1 F.2.1 dX0_sortInFirstFree_4 rfl (lv_at hl 0 rfl) ?_
  refine x_get F hw iX0 0 rfl rfl 7 (by decide) rfl (List.mem_of_getElem? (i := 2) rfl) rfl dX0_sortInFirstFree_5 ?_
  refine x_ialdN F hw 1 0 rfl rfl (lSz u) rfl (by omega) (by decide) dX0_sortInFirstFree_8 ?_
  refine lv_istore_n (lv' := [(1, .int (lO u (lSz u))), (0, .ref (aH A))]) F.1 F.2.1 dX0_sortInFirstFree_9 rfl hl (by decide) rfl (fun ls hl => ?_)
  refine lv_aload_n F.1 F.2.1 dX0_sortInFirstFree_10 rfl (lv_at hl 1 rfl) ?_
  refine lv_iload_n F.1 F.2.1 dX0_sortInFirstFree_11 rfl (lv_at hl 0 rfl) ?_
  refine x_ri (va_runV (As := [.int (lO u (lSz u))]) (rest := []) F (c_X0_countAheadOf l G cI cJ cZ cO (Array.size _) A u (lO u (lSz u)) (hok.2.1 _ hn) hok k hk h1 h2) (cwV 1 F.2.2.2.2 gX0_sortInFirstFree_X0_countAheadOf rfl rfl rfl (by decide +kernel) ⟨Nat.le_of_ble_eq_true rfl, Nat.le_of_ble_eq_true rfl⟩) (x_preVW hw [0, 1, 2, 3, 4, 5, 6, 7] rfl (by decide) 0 rfl rfl) rfl rfl hl.1 rfl (lv_room (Nat.le_of_ble_eq_true rfl)) dX0_sortInFirstFree_12 ⟨Nat.le_of_ble_eq_true rfl, Nat.le_of_ble_eq_true rfl⟩) (fun r9 hr9 => ?_)
  subst hr9
  refine lv_istore_n (lv' := [(2, .int (nI k)), (1, .int (lO u (lSz u))), (0, .ref (aH A))]) F.1 F.2.1 dX0_sortInFirstFree_15 rfl hl (by decide) rfl (fun ls hl => ?_)
  refine lv_aload_n F.1 F.2.1 dX0_sortInFirstFree_16 rfl (lv_at hl 2 rfl) ?_
  refine x_get F hw iX0 0 rfl rfl 0 (by decide) rfl (List.mem_of_getElem? (i := 1) rfl) rfl dX0_sortInFirstFree_17 ?_
  refine lv_iload_n F.1 F.2.1 dX0_sortInFirstFree_20 rfl (lv_at hl 0 rfl) ?_
  refine lv_aload_n F.1 F.2.1 dX0_sortInFirstFree_21 rfl (lv_at hl 2 rfl) ?_
  refine x_get F hw iX0 0 rfl rfl 0 (by decide) rfl (List.mem_of_getElem? (i := 1) rfl) rfl dX0_sortInFirstFree_22 ?_
  refine lv_iload_n F.1 F.2.1 dX0_sortInFirstFree_25 rfl (lv_at hl 0 rfl) ?_
  refine lv_iconst (v := 1) F.1 F.2.1 dX0_sortInFirstFree_26 (by decide) ?_
  refine lv_iadd F.1 F.2.1 dX0_sortInFirstFree_27 ?_
  refine x_topi (v := nI (k + 1)) ((nI_add k 1).symm) ?_
  refine lv_aload_n F.1 F.2.1 dX0_sortInFirstFree_28 rfl (lv_at hl 2 rfl) ?_
  refine x_get F hw iX0 0 rfl rfl 7 (by decide) rfl (List.mem_of_getElem? (i := 2) rfl) rfl dX0_sortInFirstFree_29 ?_
  refine lv_iload_n F.1 F.2.1 dX0_sortInFirstFree_32 rfl (lv_at hl 0 rfl) ?_
  refine lv_isub F.1 F.2.1 dX0_sortInFirstFree_33 ?_
  refine x_topi (v := nI ((lSz u) - k)) ((pk_sub (a := lSz u) (b := k) (by omega)).symm) ?_
  refine x_copyi F hw (List.mem_of_getElem? (i := 3) rfl) (List.mem_of_getElem? (i := 4) rfl) (List.mem_of_getElem? (i := 5) rfl) (List.mem_of_getElem? (i := 6) rfl) 1 1 0 rfl rfl rfl rfl (sp := k) (dp := k + 1) (n := (lSz u) - k) rfl rfl rfl (by omega) (by omega) (by decide) (by decide) hl.1 (Nat.le_of_ble_eq_true rfl) (Nat.le_of_ble_eq_true rfl) dX0_sortInFirstFree_34 (fun H locs hw => ?_)
  have hw : xW G (xK cI cJ cZ cO) _ s.heap s [(aH A, .inr (0, [.ref (aO A), .ref (aN A), .ref (aC A), .ref (aK A), .ref (aT A), .ref (aG A), .ref (aF A), .int (nI (lSz u))])), (aO A, .inl (cI, 40, .inl (va_cpy (lO u) (lO u) k (k + 1) ((lSz u) - k)))), (aN A, .inl (cI, 40, .inl (lNu u))), (aC A, .inl (cI, 40, .inl (lCk u))), (aK A, .inl (cJ, 40, .inr (.inl (lKe u)))), (aT A, .inl (cJ, 40, .inr (.inl (lTi u)))), (aG A, .inl (cJ, 40, .inr (.inl (lGa u)))), (aF A, .inl (cI, 40, .inl (lOf u)))] H _ := hw
  refine lv_aload_n F.1 F.2.1 dX0_sortInFirstFree_37 rfl (lv_at hl 2 rfl) ?_
  refine x_get F hw iX0 0 rfl rfl 0 (by decide) rfl (List.mem_of_getElem? (i := 1) rfl) rfl dX0_sortInFirstFree_38 ?_
  refine lv_iload_n F.1 F.2.1 dX0_sortInFirstFree_41 rfl (lv_at hl 0 rfl) ?_
  refine lv_iload_n F.1 F.2.1 dX0_sortInFirstFree_42 rfl (lv_at hl 1 rfl) ?_
  refine x_iastN F hw 1 0 rfl rfl k rfl (by omega) (by decide) dX0_sortInFirstFree_43 (fun H locs hw => ?_)
  have hw : xW G (xK cI cJ cZ cO) _ s.heap s [(aH A, .inr (0, [.ref (aO A), .ref (aN A), .ref (aC A), .ref (aK A), .ref (aT A), .ref (aG A), .ref (aF A), .int (nI (lSz u))])), (aO A, .inl (cI, 40, .inl (upd (va_cpy (lO u) (lO u) k (k + 1) ((lSz u) - k)) k (lO u (lSz u))))), (aN A, .inl (cI, 40, .inl (lNu u))), (aC A, .inl (cI, 40, .inl (lCk u))), (aK A, .inl (cJ, 40, .inr (.inl (lKe u)))), (aT A, .inl (cJ, 40, .inr (.inl (lTi u)))), (aG A, .inl (cJ, 40, .inr (.inl (lGa u)))), (aF A, .inl (cI, 40, .inl (lOf u)))] H _ := hw
  refine lv_aload_n F.1 F.2.1 dX0_sortInFirstFree_44 rfl (lv_at hl 2 rfl) ?_
  refine lv_dup F.1 F.2.1 dX0_sortInFirstFree_45 rfl ?_
  refine x_get F hw iX0 0 rfl rfl 7 (by decide) rfl (List.mem_of_getElem? (i := 2) rfl) rfl dX0_sortInFirstFree_46 ?_
  refine lv_iconst (v := 1) F.1 F.2.1 dX0_sortInFirstFree_49 (by decide) ?_
  refine lv_iadd F.1 F.2.1 dX0_sortInFirstFree_50 ?_
  refine x_topi (v := nI ((lSz u) + 1)) ((nI_add (lSz u) 1).symm) ?_
  refine x_put F hw iX0 tyX0 tyX0_ok nmX0 0 rfl rfl 7 (by decide) rfl (List.mem_of_getElem? (i := 2) rfl) (rfl) (rfl) (Nat.le_of_ble_eq_true rfl) dX0_sortInFirstFree_51 (fun H locs hw => ?_)
  have hw : xW G (xK cI cJ cZ cO) _ s.heap s [(aH A, .inr (0, [.ref (aO A), .ref (aN A), .ref (aC A), .ref (aK A), .ref (aT A), .ref (aG A), .ref (aF A), .int (nI ((lSz u) + 1))])), (aO A, .inl (cI, 40, .inl (upd (va_cpy (lO u) (lO u) k (k + 1) ((lSz u) - k)) k (lO u (lSz u))))), (aN A, .inl (cI, 40, .inl (lNu u))), (aC A, .inl (cI, 40, .inl (lCk u))), (aK A, .inl (cJ, 40, .inr (.inl (lKe u)))), (aT A, .inl (cJ, 40, .inr (.inl (lTi u)))), (aG A, .inl (cJ, 40, .inr (.inl (lGa u)))), (aF A, .inl (cI, 40, .inl (lOf u)))] H _ := hw
  exact x_vret (f := fun u9 : LnR => wLn cI cJ A u9) (lSort u k) F hr hlk hw (rfl) dX0_sortInFirstFree_54

set_option maxHeartbeats 8000000 in
set_option maxRecDepth 100000 in
/-- enter(..) -/
theorem c_X0_enter (l : Launch) (G : va_G) (cI cJ cZ cO : ClassId) (sz : Nat) (A : LnA) (u : LnR) (a : Ent) (k : Nat) (hok : LnOk u) (hn : lSz u < 40) (hk : k ≤ lSz u) (h1 : ∀ i, i < k → eLt (lAt u i) a = true) (h2 : ∀ i, k ≤ i → i < lSz u → eLt (lAt u i) a = false) : Met l yX0_enter wsX0_enter ({ frames := 3, cells := 0, slots := 0, locals := 68 }) (xPc G (xK cI cJ cZ cO) sz [.ref (aH A), .int (eN a), .int (eC a), .long (eK a), .long (eT a), .long (eG a), .int (eO a)] (wLn cI cJ A u)) (va_Qv (fun u2 => u2 = lSort (lPut u a) k) (xB G (xK cI cJ cZ cO) (wLn cI cJ A u) sz (fun u9 : LnR => wLn cI cJ A u9)) (va_A (wLn cI cJ A u) sz)) 0 0 (va_A (wLn cI cJ A u) sz) := by
  refine x_body (by decide) rfl (Nat.le_of_ble_eq_true rfl) ?_
  intro p e s m below meth c F hr hlk hnm hsz hw ls hl
  subst hsz
  have F : CallFix p m c cX0_enter 11 s _ wsX0_enter RX0 := F
  have hl : lv_has ls 11 [(0, .ref (aH A)), (1, .int (eN a)), (2, .int (eC a)), (3, .long (eK a)), (5, .long (eT a)), (7, .long (eG a)), (9, .int (eO a))] := hl
  have hw : xW G (xK cI cJ cZ cO) _ s.heap s [(aH A, .inr (0, [.ref (aO A), .ref (aN A), .ref (aC A), .ref (aK A), .ref (aT A), .ref (aG A), .ref (aF A), .int (nI (lSz u))])), (aO A, .inl (cI, 40, .inl (lO u))), (aN A, .inl (cI, 40, .inl (lNu u))), (aC A, .inl (cI, 40, .inl (lCk u))), (aK A, .inl (cJ, 40, .inr (.inl (lKe u)))), (aT A, .inl (cJ, 40, .inr (.inl (lTi u)))), (aG A, .inl (cJ, 40, .inr (.inl (lGa u)))), (aF A, .inl (cI, 40, .inl (lOf u)))] s.heap [] := hw
  have iX0 : ∀ w ∈ wsX00, w ∈ wsX0_enter := by decide +kernel
  refine lv_aload_n F.1 F.2.1 dX0_enter_0 rfl (lv_at hl 0 rfl) ?_
  refine x_get F hw iX0 0 rfl rfl 0 (by decide) rfl (List.mem_of_getElem? (i := 1) rfl) rfl dX0_enter_1 ?_
  refine lv_aload_n F.1 F.2.1 dX0_enter_4 rfl (lv_at hl 0 rfl) ?_
  refine x_get F hw iX0 0 rfl rfl 7 (by decide) rfl (List.mem_of_getElem? (i := 2) rfl) rfl dX0_enter_5 ?_
  refine x_ialdN F hw 1 0 rfl rfl (lSz u) rfl (by omega) (by decide) dX0_enter_8 ?_
  refine lv_istore (lv' := [(10, .int (lO u (lSz u))), (0, .ref (aH A)), (1, .int (eN a)), (2, .int (eC a)), (3, .long (eK a)), (5, .long (eT a)), (7, .long (eG a)), (9, .int (eO a))]) F.1 F.2.1 dX0_enter_9 hl (by decide) rfl (fun ls hl => ?_)
  refine lv_aload_n F.1 F.2.1 dX0_enter_11 rfl (lv_at hl 1 rfl) ?_
  refine x_get F hw iX0 0 rfl rfl 1 (by decide) rfl (List.mem_of_getElem? (i := 3) rfl) rfl dX0_enter_12 ?_
  refine lv_iload F.1 F.2.1 dX0_enter_15 (lv_at hl 0 rfl) ?_
  refine lv_iload_n F.1 F.2.1 dX0_enter_17 rfl (lv_at hl 2 rfl) ?_
  refine x_iast F hw 2 0 rfl rfl (hok.2.1 _ hn) dX0_enter_18 (fun H locs hw => ?_)
  have hw : xW G (xK cI cJ cZ cO) _ s.heap s [(aH A, .inr (0, [.ref (aO A), .ref (aN A), .ref (aC A), .ref (aK A), .ref (aT A), .ref (aG A), .ref (aF A), .int (nI (lSz u))])), (aO A, .inl (cI, 40, .inl (lO u))), (aN A, .inl (cI, 40, .inl (upd (lNu u) (lO u (lSz u)).toNatClampNeg (eN a)))), (aC A, .inl (cI, 40, .inl (lCk u))), (aK A, .inl (cJ, 40, .inr (.inl (lKe u)))), (aT A, .inl (cJ, 40, .inr (.inl (lTi u)))), (aG A, .inl (cJ, 40, .inr (.inl (lGa u)))), (aF A, .inl (cI, 40, .inl (lOf u)))] H _ := hw
  refine lv_aload_n F.1 F.2.1 dX0_enter_19 rfl (lv_at hl 1 rfl) ?_
  refine x_get F hw iX0 0 rfl rfl 2 (by decide) rfl (List.mem_of_getElem? (i := 4) rfl) rfl dX0_enter_20 ?_
  refine lv_iload F.1 F.2.1 dX0_enter_23 (lv_at hl 0 rfl) ?_
  refine lv_iload_n F.1 F.2.1 dX0_enter_25 rfl (lv_at hl 3 rfl) ?_
  refine x_iast F hw 3 0 rfl rfl (hok.2.1 _ hn) dX0_enter_26 (fun H locs hw => ?_)
  have hw : xW G (xK cI cJ cZ cO) _ s.heap s [(aH A, .inr (0, [.ref (aO A), .ref (aN A), .ref (aC A), .ref (aK A), .ref (aT A), .ref (aG A), .ref (aF A), .int (nI (lSz u))])), (aO A, .inl (cI, 40, .inl (lO u))), (aN A, .inl (cI, 40, .inl (upd (lNu u) (lO u (lSz u)).toNatClampNeg (eN a)))), (aC A, .inl (cI, 40, .inl (upd (lCk u) (lO u (lSz u)).toNatClampNeg (eC a)))), (aK A, .inl (cJ, 40, .inr (.inl (lKe u)))), (aT A, .inl (cJ, 40, .inr (.inl (lTi u)))), (aG A, .inl (cJ, 40, .inr (.inl (lGa u)))), (aF A, .inl (cI, 40, .inl (lOf u)))] H _ := hw
  refine lv_aload_n F.1 F.2.1 dX0_enter_27 rfl (lv_at hl 1 rfl) ?_
  refine x_get F hw iX0 0 rfl rfl 3 (by decide) rfl (List.mem_of_getElem? (i := 5) rfl) rfl dX0_enter_28 ?_
  refine lv_iload F.1 F.2.1 dX0_enter_31 (lv_at hl 0 rfl) ?_
  refine lv_lload_n F.1 F.2.1 dX0_enter_33 rfl (lv_at hl 4 rfl) ?_
  refine x_last F hw 4 1 rfl rfl (hok.2.1 _ hn) dX0_enter_34 (fun H locs hw => ?_)
  have hw : xW G (xK cI cJ cZ cO) _ s.heap s [(aH A, .inr (0, [.ref (aO A), .ref (aN A), .ref (aC A), .ref (aK A), .ref (aT A), .ref (aG A), .ref (aF A), .int (nI (lSz u))])), (aO A, .inl (cI, 40, .inl (lO u))), (aN A, .inl (cI, 40, .inl (upd (lNu u) (lO u (lSz u)).toNatClampNeg (eN a)))), (aC A, .inl (cI, 40, .inl (upd (lCk u) (lO u (lSz u)).toNatClampNeg (eC a)))), (aK A, .inl (cJ, 40, .inr (.inl (vp_updL (lKe u) (lO u (lSz u)).toNatClampNeg (eK a))))), (aT A, .inl (cJ, 40, .inr (.inl (lTi u)))), (aG A, .inl (cJ, 40, .inr (.inl (lGa u)))), (aF A, .inl (cI, 40, .inl (lOf u)))] H _ := hw
  refine lv_aload_n F.1 F.2.1 dX0_enter_35 rfl (lv_at hl 1 rfl) ?_
  refine x_get F hw iX0 0 rfl rfl 4 (by decide) rfl (List.mem_of_getElem? (i := 6) rfl) rfl dX0_enter_36 ?_
  refine lv_iload F.1 F.2.1 dX0_enter_39 (lv_at hl 0 rfl) ?_
  refine lv_lload F.1 F.2.1 dX0_enter_41 (lv_at hl 5 rfl) ?_
  refine x_last F hw 5 1 rfl rfl (hok.2.1 _ hn) dX0_enter_43 (fun H locs hw => ?_)
  have hw : xW G (xK cI cJ cZ cO) _ s.heap s [(aH A, .inr (0, [.ref (aO A), .ref (aN A), .ref (aC A), .ref (aK A), .ref (aT A), .ref (aG A), .ref (aF A), .int (nI (lSz u))])), (aO A, .inl (cI, 40, .inl (lO u))), (aN A, .inl (cI, 40, .inl (upd (lNu u) (lO u (lSz u)).toNatClampNeg (eN a)))), (aC A, .inl (cI, 40, .inl (upd (lCk u) (lO u (lSz u)).toNatClampNeg (eC a)))), (aK A, .inl (cJ, 40, .inr (.inl (vp_updL (lKe u) (lO u (lSz u)).toNatClampNeg (eK a))))), (aT A, .inl (cJ, 40, .inr (.inl (vp_updL (lTi u) (lO u (lSz u)).toNatClampNeg (eT a))))), (aG A, .inl (cJ, 40, .inr (.inl (lGa u)))), (aF A, .inl (cI, 40, .inl (lOf u)))] H _ := hw
  refine lv_aload_n F.1 F.2.1 dX0_enter_44 rfl (lv_at hl 1 rfl) ?_
  refine x_get F hw iX0 0 rfl rfl 5 (by decide) rfl (List.mem_of_getElem? (i := 7) rfl) rfl dX0_enter_45 ?_
  refine lv_iload F.1 F.2.1 dX0_enter_48 (lv_at hl 0 rfl) ?_
  refine lv_lload F.1 F.2.1 dX0_enter_50 (lv_at hl 6 rfl) ?_
  refine x_last F hw 6 1 rfl rfl (hok.2.1 _ hn) dX0_enter_52 (fun H locs hw => ?_)
  have hw : xW G (xK cI cJ cZ cO) _ s.heap s [(aH A, .inr (0, [.ref (aO A), .ref (aN A), .ref (aC A), .ref (aK A), .ref (aT A), .ref (aG A), .ref (aF A), .int (nI (lSz u))])), (aO A, .inl (cI, 40, .inl (lO u))), (aN A, .inl (cI, 40, .inl (upd (lNu u) (lO u (lSz u)).toNatClampNeg (eN a)))), (aC A, .inl (cI, 40, .inl (upd (lCk u) (lO u (lSz u)).toNatClampNeg (eC a)))), (aK A, .inl (cJ, 40, .inr (.inl (vp_updL (lKe u) (lO u (lSz u)).toNatClampNeg (eK a))))), (aT A, .inl (cJ, 40, .inr (.inl (vp_updL (lTi u) (lO u (lSz u)).toNatClampNeg (eT a))))), (aG A, .inl (cJ, 40, .inr (.inl (vp_updL (lGa u) (lO u (lSz u)).toNatClampNeg (eG a))))), (aF A, .inl (cI, 40, .inl (lOf u)))] H _ := hw
  refine lv_aload_n F.1 F.2.1 dX0_enter_53 rfl (lv_at hl 1 rfl) ?_
  refine x_get F hw iX0 0 rfl rfl 6 (by decide) rfl (List.mem_of_getElem? (i := 8) rfl) rfl dX0_enter_54 ?_
  refine lv_iload F.1 F.2.1 dX0_enter_57 (lv_at hl 0 rfl) ?_
  refine lv_iload F.1 F.2.1 dX0_enter_59 (lv_at hl 7 rfl) ?_
  refine x_iast F hw 7 0 rfl rfl (hok.2.1 _ hn) dX0_enter_61 (fun H locs hw => ?_)
  have hw : xW G (xK cI cJ cZ cO) _ s.heap s [(aH A, .inr (0, [.ref (aO A), .ref (aN A), .ref (aC A), .ref (aK A), .ref (aT A), .ref (aG A), .ref (aF A), .int (nI (lSz u))])), (aO A, .inl (cI, 40, .inl (lO u))), (aN A, .inl (cI, 40, .inl (upd (lNu u) (lO u (lSz u)).toNatClampNeg (eN a)))), (aC A, .inl (cI, 40, .inl (upd (lCk u) (lO u (lSz u)).toNatClampNeg (eC a)))), (aK A, .inl (cJ, 40, .inr (.inl (vp_updL (lKe u) (lO u (lSz u)).toNatClampNeg (eK a))))), (aT A, .inl (cJ, 40, .inr (.inl (vp_updL (lTi u) (lO u (lSz u)).toNatClampNeg (eT a))))), (aG A, .inl (cJ, 40, .inr (.inl (vp_updL (lGa u) (lO u (lSz u)).toNatClampNeg (eG a))))), (aF A, .inl (cI, 40, .inl (upd (lOf u) (lO u (lSz u)).toNatClampNeg (eO a))))] H _ := hw
  have hw : xW G (xK cI cJ cZ cO) _ s.heap s [(aH A, .inr (0, [.ref (aO A), .ref (aN A), .ref (aC A), .ref (aK A), .ref (aT A), .ref (aG A), .ref (aF A), .int (nI (lSz (lPut u a)))])), (aO A, .inl (cI, 40, .inl (lO (lPut u a)))), (aN A, .inl (cI, 40, .inl (lNu (lPut u a)))), (aC A, .inl (cI, 40, .inl (lCk (lPut u a)))), (aK A, .inl (cJ, 40, .inr (.inl (lKe (lPut u a))))), (aT A, .inl (cJ, 40, .inr (.inl (lTi (lPut u a))))), (aG A, .inl (cJ, 40, .inr (.inl (lGa (lPut u a))))), (aF A, .inl (cI, 40, .inl (lOf (lPut u a))))] H _ := hw
  refine lv_aload_n F.1 F.2.1 dX0_enter_62 rfl (lv_at hl 1 rfl) ?_
  refine x_wv (wr := []) (va_runV (As := []) (rest := []) F (c_X0_sortInFirstFree l G cI cJ cZ cO (Array.size _) A (lPut u a) k (lPut_ok hok a) hn hk (fun i hi => by rw [lPut_at hok hn a (by omega), show lSz (lPut u a) = lSz u from rfl, lPut_new]; exact h1 i hi) (fun i hi hi2 => by rw [lPut_at hok hn a hi2, show lSz (lPut u a) = lSz u from rfl, lPut_new]; exact h2 i hi hi2)) (cwV 0 F.2.2.2.2 gX0_enter_X0_sortInFirstFree rfl rfl rfl (by decide +kernel) ⟨Nat.le_of_ble_eq_true rfl, Nat.le_of_ble_eq_true rfl⟩) (x_preVW hw [0, 1, 2, 3, 4, 5, 6, 7] rfl (by decide) 0 rfl rfl) rfl rfl hl.1 rfl (lv_room (Nat.le_of_ble_eq_true rfl)) dX0_enter_63 ⟨Nat.le_of_ble_eq_true rfl, Nat.le_of_ble_eq_true rfl⟩) hw [0, 1, 2, 3, 4, 5, 6, 7] [] rfl rfl (by decide) (by decide) (fun u3 H locs hu3 hw => ?_)
  have hw : xW G (xK cI cJ cZ cO) _ s.heap s [(aH A, .inr (0, [.ref (aO A), .ref (aN A), .ref (aC A), .ref (aK A), .ref (aT A), .ref (aG A), .ref (aF A), .int (nI (lSz u3))])), (aO A, .inl (cI, 40, .inl (lO u3))), (aN A, .inl (cI, 40, .inl (lNu u3))), (aC A, .inl (cI, 40, .inl (lCk u3))), (aK A, .inl (cJ, 40, .inr (.inl (lKe u3)))), (aT A, .inl (cJ, 40, .inr (.inl (lTi u3)))), (aG A, .inl (cJ, 40, .inr (.inl (lGa u3)))), (aF A, .inl (cI, 40, .inl (lOf u3)))] H _ := hw
  subst hu3
  exact x_vret (f := fun u9 : LnR => wLn cI cJ A u9) (lSort (lPut u a) k) F hr hlk hw (rfl) dX0_enter_66

set_option maxHeartbeats 8000000 in
set_option maxRecDepth 100000 in
/-- retime(place, time) -/
theorem c_X0_retime (l : Launch) (G : va_G) (cI cJ cZ cO : ClassId) (sz : Nat) (A : LnA) (u : LnR) (p9 : Nat) (t : Int64) (k : Nat) (hok : LnOk u) (hp : p9 < lSz u) (hk : k < lSz u) (h1 : ∀ i, i < k → eLt (lAt (lLeave u p9) i) (eSetT (lAt u p9) t) = true) (h2 : ∀ i, k ≤ i → i < lSz u - 1 → eLt (lAt (lLeave u p9) i) (eSetT (lAt u p9) t) = false) : Met l yX0_retime wsX0_retime ({ frames := 3, cells := 0, slots := 0, locals := 68 }) (xPc G (xK cI cJ cZ cO) sz [.ref (aH A), .int (nI p9), .long t] (wLn cI cJ A u)) (va_Qv (fun u2 => u2 = lSort (lPutT (lLeave u p9) t) k) (xB G (xK cI cJ cZ cO) (wLn cI cJ A u) sz (fun u9 : LnR => wLn cI cJ A u9)) (va_A (wLn cI cJ A u) sz)) 0 0 (va_A (wLn cI cJ A u) sz) := by
  refine x_body (by decide) rfl (Nat.le_of_ble_eq_true rfl) ?_
  intro p e s m below meth c F hr hlk hnm hsz hw ls hl
  subst hsz
  have F : CallFix p m c cX0_retime 4 s _ wsX0_retime RX0 := F
  have hl : lv_has ls 4 [(0, .ref (aH A)), (1, .int (nI p9)), (2, .long t)] := hl
  have hw : xW G (xK cI cJ cZ cO) _ s.heap s [(aH A, .inr (0, [.ref (aO A), .ref (aN A), .ref (aC A), .ref (aK A), .ref (aT A), .ref (aG A), .ref (aF A), .int (nI (lSz u))])), (aO A, .inl (cI, 40, .inl (lO u))), (aN A, .inl (cI, 40, .inl (lNu u))), (aC A, .inl (cI, 40, .inl (lCk u))), (aK A, .inl (cJ, 40, .inr (.inl (lKe u)))), (aT A, .inl (cJ, 40, .inr (.inl (lTi u)))), (aG A, .inl (cJ, 40, .inr (.inl (lGa u)))), (aF A, .inl (cI, 40, .inl (lOf u)))] s.heap [] := hw
  have iX0 : ∀ w ∈ wsX00, w ∈ wsX0_retime := by decide +kernel
  have h40 := hok.1
  have hok2 := lLeave_ok hok hp
  have hz : lSz (lLeave u p9) = lSz u - 1 := rfl
  have hnew : lAt (lLeave u p9) (lSz (lLeave u p9)) = lAt u p9 := by show lEnt u (lO (lLeave u p9) (lSz (lLeave u p9))).toNatClampNeg = _; rw [lLeave_sl hp]; rfl
  refine lv_aload_n F.1 F.2.1 dX0_retime_0 rfl (lv_at hl 0 rfl) ?_
  refine lv_iload_n F.1 F.2.1 dX0_retime_1 rfl (lv_at hl 1 rfl) ?_
  refine x_wv (wr := []) (va_runV (As := [.int (nI p9)]) (rest := []) F (c_X0_leave l G cI cJ cZ cO (Array.size _) A u p9 hok hp) (cwV 1 F.2.2.2.2 gX0_retime_X0_leave rfl rfl rfl (by decide +kernel) ⟨Nat.le_of_ble_eq_true rfl, Nat.le_of_ble_eq_true rfl⟩) (x_preVW hw [0, 1, 2, 3, 4, 5, 6, 7] rfl (by decide) 0 rfl rfl) rfl rfl hl.1 rfl (lv_room (Nat.le_of_ble_eq_true rfl)) dX0_retime_2 ⟨Nat.le_of_ble_eq_true rfl, Nat.le_of_ble_eq_true rfl⟩) hw [0, 1, 2, 3, 4, 5, 6, 7] [] rfl rfl (by decide) (by decide) (fun u3 H locs hu3 hw => ?_)
  have hw : xW G (xK cI cJ cZ cO) _ s.heap s [(aH A, .inr (0, [.ref (aO A), .ref (aN A), .ref (aC A), .ref (aK A), .ref (aT A), .ref (aG A), .ref (aF A), .int (nI (lSz u3))])), (aO A, .inl (cI, 40, .inl (lO u3))), (aN A, .inl (cI, 40, .inl (lNu u3))), (aC A, .inl (cI, 40, .inl (lCk u3))), (aK A, .inl (cJ, 40, .inr (.inl (lKe u3)))), (aT A, .inl (cJ, 40, .inr (.inl (lTi u3)))), (aG A, .inl (cJ, 40, .inr (.inl (lGa u3)))), (aF A, .inl (cI, 40, .inl (lOf u3)))] H _ := hw
  subst hu3
  have hw : xW G (xK cI cJ cZ cO) _ s.heap s [(aH A, .inr (0, [.ref (aO A), .ref (aN A), .ref (aC A), .ref (aK A), .ref (aT A), .ref (aG A), .ref (aF A), .int (nI (lSz (lLeave u p9)))])), (aO A, .inl (cI, 40, .inl (lO (lLeave u p9)))), (aN A, .inl (cI, 40, .inl (lNu (lLeave u p9)))), (aC A, .inl (cI, 40, .inl (lCk (lLeave u p9)))), (aK A, .inl (cJ, 40, .inr (.inl (lKe (lLeave u p9))))), (aT A, .inl (cJ, 40, .inr (.inl (lTi (lLeave u p9))))), (aG A, .inl (cJ, 40, .inr (.inl (lGa (lLeave u p9))))), (aF A, .inl (cI, 40, .inl (lOf (lLeave u p9))))] H _ := hw
  refine lv_aload_n F.1 F.2.1 dX0_retime_5 rfl (lv_at hl 0 rfl) ?_
  refine x_get F hw iX0 0 rfl rfl 4 (by decide) rfl (List.mem_of_getElem? (i := 1) rfl) rfl dX0_retime_6 ?_
  refine lv_aload_n F.1 F.2.1 dX0_retime_9 rfl (lv_at hl 0 rfl) ?_
  refine x_get F hw iX0 0 rfl rfl 0 (by decide) rfl (List.mem_of_getElem? (i := 2) rfl) rfl dX0_retime_10 ?_
  refine lv_aload_n F.1 F.2.1 dX0_retime_13 rfl (lv_at hl 0 rfl) ?_
  refine x_get F hw iX0 0 rfl rfl 7 (by decide) rfl (List.mem_of_getElem? (i := 3) rfl) rfl dX0_retime_14 ?_
  refine x_ialdN F hw 1 0 rfl rfl (lSz (lLeave u p9)) rfl (by omega) (by decide) dX0_retime_17 ?_
  refine lv_lload_n F.1 F.2.1 dX0_retime_18 rfl (lv_at hl 2 rfl) ?_
  refine x_last F hw 5 1 rfl rfl (hok2.2.1 _ (by omega)) dX0_retime_19 (fun H locs hw => ?_)
  have hw : xW G (xK cI cJ cZ cO) _ s.heap s [(aH A, .inr (0, [.ref (aO A), .ref (aN A), .ref (aC A), .ref (aK A), .ref (aT A), .ref (aG A), .ref (aF A), .int (nI (lSz (lLeave u p9)))])), (aO A, .inl (cI, 40, .inl (lO (lLeave u p9)))), (aN A, .inl (cI, 40, .inl (lNu (lLeave u p9)))), (aC A, .inl (cI, 40, .inl (lCk (lLeave u p9)))), (aK A, .inl (cJ, 40, .inr (.inl (lKe (lLeave u p9))))), (aT A, .inl (cJ, 40, .inr (.inl (vp_updL (lTi (lLeave u p9)) (lO (lLeave u p9) (lSz (lLeave u p9))).toNatClampNeg t)))), (aG A, .inl (cJ, 40, .inr (.inl (lGa (lLeave u p9))))), (aF A, .inl (cI, 40, .inl (lOf (lLeave u p9))))] H _ := hw
  have hw : xW G (xK cI cJ cZ cO) _ s.heap s [(aH A, .inr (0, [.ref (aO A), .ref (aN A), .ref (aC A), .ref (aK A), .ref (aT A), .ref (aG A), .ref (aF A), .int (nI (lSz (lPutT (lLeave u p9) t)))])), (aO A, .inl (cI, 40, .inl (lO (lPutT (lLeave u p9) t)))), (aN A, .inl (cI, 40, .inl (lNu (lPutT (lLeave u p9) t)))), (aC A, .inl (cI, 40, .inl (lCk (lPutT (lLeave u p9) t)))), (aK A, .inl (cJ, 40, .inr (.inl (lKe (lPutT (lLeave u p9) t))))), (aT A, .inl (cJ, 40, .inr (.inl (lTi (lPutT (lLeave u p9) t))))), (aG A, .inl (cJ, 40, .inr (.inl (lGa (lPutT (lLeave u p9) t))))), (aF A, .inl (cI, 40, .inl (lOf (lPutT (lLeave u p9) t))))] H _ := hw
  refine lv_aload_n F.1 F.2.1 dX0_retime_20 rfl (lv_at hl 0 rfl) ?_
  refine x_wv (wr := []) (va_runV (As := []) (rest := []) F (c_X0_sortInFirstFree l G cI cJ cZ cO (Array.size H) A (lPutT (lLeave u p9) t) k (lPutT_ok hok2 t) (show lSz u - 1 < 40 by omega) (show k ≤ lSz u - 1 by omega) (fun i hi => by rw [lPutT_at hok2 (by omega) t (by omega), show lSz (lPutT (lLeave u p9) t) = lSz (lLeave u p9) from rfl, lPutT_new, hnew]; exact h1 i hi) (fun i hi hi2 => by rw [lPutT_at hok2 (by omega) t hi2, show lSz (lPutT (lLeave u p9) t) = lSz (lLeave u p9) from rfl, lPutT_new, hnew]; exact h2 i hi hi2)) (cwV 0 F.2.2.2.2 gX0_retime_X0_sortInFirstFree rfl rfl rfl (by decide +kernel) ⟨Nat.le_of_ble_eq_true rfl, Nat.le_of_ble_eq_true rfl⟩) (x_preVW hw [0, 1, 2, 3, 4, 5, 6, 7] rfl (by decide) 0 rfl rfl) rfl rfl hl.1 rfl (lv_room (Nat.le_of_ble_eq_true rfl)) dX0_retime_21 ⟨Nat.le_of_ble_eq_true rfl, Nat.le_of_ble_eq_true rfl⟩) hw [0, 1, 2, 3, 4, 5, 6, 7] [] rfl rfl (by decide) (by decide) (fun u4 H locs hu4 hw => ?_)
  have hw : xW G (xK cI cJ cZ cO) _ s.heap s [(aH A, .inr (0, [.ref (aO A), .ref (aN A), .ref (aC A), .ref (aK A), .ref (aT A), .ref (aG A), .ref (aF A), .int (nI (lSz u4))])), (aO A, .inl (cI, 40, .inl (lO u4))), (aN A, .inl (cI, 40, .inl (lNu u4))), (aC A, .inl (cI, 40, .inl (lCk u4))), (aK A, .inl (cJ, 40, .inr (.inl (lKe u4)))), (aT A, .inl (cJ, 40, .inr (.inl (lTi u4)))), (aG A, .inl (cJ, 40, .inr (.inl (lGa u4)))), (aF A, .inl (cI, 40, .inl (lOf u4)))] H _ := hw
  subst hu4
  exact x_vret (f := fun u9 : LnR => wLn cI cJ A u9) (lSort (lPutT (lLeave u p9) t) k) F hr hlk hw (rfl) dX0_retime_24

set_option maxHeartbeats 8000000 in
set_option maxRecDepth 100000 in
/-- setAgain(place, number) -/
theorem c_X0_setAgain (l : Launch) (G : va_G) (cI cJ cZ cO : ClassId) (sz : Nat) (A : LnA) (u : LnR) (p9 : Nat) (x : Int32) (k : Nat) (hok : LnOk u) (hp : p9 < lSz u) (hk : k < lSz u) (h1 : ∀ i, i < k → eLt (lAt (lLeave u p9) i) (eAgain (lAt u p9) x) = true) (h2 : ∀ i, k ≤ i → i < lSz u - 1 → eLt (lAt (lLeave u p9) i) (eAgain (lAt u p9) x) = false) : Met l yX0_setAgain wsX0_setAgain ({ frames := 3, cells := 0, slots := 0, locals := 68 }) (xPc G (xK cI cJ cZ cO) sz [.ref (aH A), .int (nI p9), .int x] (wLn cI cJ A u)) (va_Qv (fun u2 => u2 = lSort (lAgain (lLeave u p9) x) k) (xB G (xK cI cJ cZ cO) (wLn cI cJ A u) sz (fun u9 : LnR => wLn cI cJ A u9)) (va_A (wLn cI cJ A u) sz)) 0 0 (va_A (wLn cI cJ A u) sz) := by
  refine x_body (by decide) rfl (Nat.le_of_ble_eq_true rfl) ?_
  intro p e s m below meth c F hr hlk hnm hsz hw ls hl
  subst hsz
  have F : CallFix p m c cX0_setAgain 4 s _ wsX0_setAgain RX0 := F
  have hl : lv_has ls 4 [(0, .ref (aH A)), (1, .int (nI p9)), (2, .int x)] := hl
  have hw : xW G (xK cI cJ cZ cO) _ s.heap s [(aH A, .inr (0, [.ref (aO A), .ref (aN A), .ref (aC A), .ref (aK A), .ref (aT A), .ref (aG A), .ref (aF A), .int (nI (lSz u))])), (aO A, .inl (cI, 40, .inl (lO u))), (aN A, .inl (cI, 40, .inl (lNu u))), (aC A, .inl (cI, 40, .inl (lCk u))), (aK A, .inl (cJ, 40, .inr (.inl (lKe u)))), (aT A, .inl (cJ, 40, .inr (.inl (lTi u)))), (aG A, .inl (cJ, 40, .inr (.inl (lGa u)))), (aF A, .inl (cI, 40, .inl (lOf u)))] s.heap [] := hw
  have iX0 : ∀ w ∈ wsX00, w ∈ wsX0_setAgain := by decide +kernel
  have h40 := hok.1
  have hok2 := lLeave_ok hok hp
  have hz : lSz (lLeave u p9) = lSz u - 1 := rfl
  have hnew : lAt (lLeave u p9) (lSz (lLeave u p9)) = lAt u p9 := by show lEnt u (lO (lLeave u p9) (lSz (lLeave u p9))).toNatClampNeg = _; rw [lLeave_sl hp]; rfl
  refine lv_aload_n F.1 F.2.1 dX0_setAgain_0 rfl (lv_at hl 0 rfl) ?_
  refine lv_iload_n F.1 F.2.1 dX0_setAgain_1 rfl (lv_at hl 1 rfl) ?_
  refine x_wv (wr := []) (va_runV (As := [.int (nI p9)]) (rest := []) F (c_X0_leave l G cI cJ cZ cO (Array.size _) A u p9 hok hp) (cwV 1 F.2.2.2.2 gX0_setAgain_X0_leave rfl rfl rfl (by decide +kernel) ⟨Nat.le_of_ble_eq_true rfl, Nat.le_of_ble_eq_true rfl⟩) (x_preVW hw [0, 1, 2, 3, 4, 5, 6, 7] rfl (by decide) 0 rfl rfl) rfl rfl hl.1 rfl (lv_room (Nat.le_of_ble_eq_true rfl)) dX0_setAgain_2 ⟨Nat.le_of_ble_eq_true rfl, Nat.le_of_ble_eq_true rfl⟩) hw [0, 1, 2, 3, 4, 5, 6, 7] [] rfl rfl (by decide) (by decide) (fun u3 H locs hu3 hw => ?_)
  have hw : xW G (xK cI cJ cZ cO) _ s.heap s [(aH A, .inr (0, [.ref (aO A), .ref (aN A), .ref (aC A), .ref (aK A), .ref (aT A), .ref (aG A), .ref (aF A), .int (nI (lSz u3))])), (aO A, .inl (cI, 40, .inl (lO u3))), (aN A, .inl (cI, 40, .inl (lNu u3))), (aC A, .inl (cI, 40, .inl (lCk u3))), (aK A, .inl (cJ, 40, .inr (.inl (lKe u3)))), (aT A, .inl (cJ, 40, .inr (.inl (lTi u3)))), (aG A, .inl (cJ, 40, .inr (.inl (lGa u3)))), (aF A, .inl (cI, 40, .inl (lOf u3)))] H _ := hw
  subst hu3
  have hw : xW G (xK cI cJ cZ cO) _ s.heap s [(aH A, .inr (0, [.ref (aO A), .ref (aN A), .ref (aC A), .ref (aK A), .ref (aT A), .ref (aG A), .ref (aF A), .int (nI (lSz (lLeave u p9)))])), (aO A, .inl (cI, 40, .inl (lO (lLeave u p9)))), (aN A, .inl (cI, 40, .inl (lNu (lLeave u p9)))), (aC A, .inl (cI, 40, .inl (lCk (lLeave u p9)))), (aK A, .inl (cJ, 40, .inr (.inl (lKe (lLeave u p9))))), (aT A, .inl (cJ, 40, .inr (.inl (lTi (lLeave u p9))))), (aG A, .inl (cJ, 40, .inr (.inl (lGa (lLeave u p9))))), (aF A, .inl (cI, 40, .inl (lOf (lLeave u p9))))] H _ := hw
  refine lv_aload_n F.1 F.2.1 dX0_setAgain_5 rfl (lv_at hl 0 rfl) ?_
  refine x_get F hw iX0 0 rfl rfl 0 (by decide) rfl (List.mem_of_getElem? (i := 1) rfl) rfl dX0_setAgain_6 ?_
  refine lv_aload_n F.1 F.2.1 dX0_setAgain_9 rfl (lv_at hl 0 rfl) ?_
  refine x_get F hw iX0 0 rfl rfl 7 (by decide) rfl (List.mem_of_getElem? (i := 2) rfl) rfl dX0_setAgain_10 ?_
  refine x_ialdN F hw 1 0 rfl rfl (lSz (lLeave u p9)) rfl (by omega) (by decide) dX0_setAgain_13 ?_
  refine lv_istore_n (lv' := [(3, .int (lO (lLeave u p9) (lSz (lLeave u p9)))), (0, .ref (aH A)), (1, .int (nI p9)), (2, .int x)]) F.1 F.2.1 dX0_setAgain_14 rfl hl (by decide) rfl (fun ls hl => ?_)
  refine lv_aload_n F.1 F.2.1 dX0_setAgain_15 rfl (lv_at hl 1 rfl) ?_
  refine x_get F hw iX0 0 rfl rfl 1 (by decide) rfl (List.mem_of_getElem? (i := 3) rfl) rfl dX0_setAgain_16 ?_
  refine lv_iload_n F.1 F.2.1 dX0_setAgain_19 rfl (lv_at hl 0 rfl) ?_
  refine lv_iload_n F.1 F.2.1 dX0_setAgain_20 rfl (lv_at hl 3 rfl) ?_
  refine x_iast F hw 2 0 rfl rfl (hok2.2.1 _ (by omega)) dX0_setAgain_21 (fun H locs hw => ?_)
  have hw : xW G (xK cI cJ cZ cO) _ s.heap s [(aH A, .inr (0, [.ref (aO A), .ref (aN A), .ref (aC A), .ref (aK A), .ref (aT A), .ref (aG A), .ref (aF A), .int (nI (lSz (lLeave u p9)))])), (aO A, .inl (cI, 40, .inl (lO (lLeave u p9)))), (aN A, .inl (cI, 40, .inl (upd (lNu (lLeave u p9)) (lO (lLeave u p9) (lSz (lLeave u p9))).toNatClampNeg x))), (aC A, .inl (cI, 40, .inl (lCk (lLeave u p9)))), (aK A, .inl (cJ, 40, .inr (.inl (lKe (lLeave u p9))))), (aT A, .inl (cJ, 40, .inr (.inl (lTi (lLeave u p9))))), (aG A, .inl (cJ, 40, .inr (.inl (lGa (lLeave u p9))))), (aF A, .inl (cI, 40, .inl (lOf (lLeave u p9))))] H _ := hw
  refine lv_aload_n F.1 F.2.1 dX0_setAgain_22 rfl (lv_at hl 1 rfl) ?_
  refine x_get F hw iX0 0 rfl rfl 4 (by decide) rfl (List.mem_of_getElem? (i := 4) rfl) rfl dX0_setAgain_23 ?_
  refine lv_iload_n F.1 F.2.1 dX0_setAgain_26 rfl (lv_at hl 0 rfl) ?_
  refine lv_dup2_11 F.1 F.2.1 dX0_setAgain_27 rfl rfl ?_
  refine x_lald F hw 5 1 rfl rfl (hok2.2.1 _ (by omega)) dX0_setAgain_28 ?_
  refine lv_aload_n F.1 F.2.1 dX0_setAgain_29 rfl (lv_at hl 1 rfl) ?_
  refine x_get F hw iX0 0 rfl rfl 5 (by decide) rfl (List.mem_of_getElem? (i := 5) rfl) rfl dX0_setAgain_30 ?_
  refine lv_iload_n F.1 F.2.1 dX0_setAgain_33 rfl (lv_at hl 0 rfl) ?_
  refine x_lald F hw 6 1 rfl rfl (hok2.2.1 _ (by omega)) dX0_setAgain_34 ?_
  refine lv_ladd F.1 F.2.1 dX0_setAgain_35 ?_
  refine x_last F hw 5 1 rfl rfl (hok2.2.1 _ (by omega)) dX0_setAgain_36 (fun H locs hw => ?_)
  have hw : xW G (xK cI cJ cZ cO) _ s.heap s [(aH A, .inr (0, [.ref (aO A), .ref (aN A), .ref (aC A), .ref (aK A), .ref (aT A), .ref (aG A), .ref (aF A), .int (nI (lSz (lLeave u p9)))])), (aO A, .inl (cI, 40, .inl (lO (lLeave u p9)))), (aN A, .inl (cI, 40, .inl (upd (lNu (lLeave u p9)) (lO (lLeave u p9) (lSz (lLeave u p9))).toNatClampNeg x))), (aC A, .inl (cI, 40, .inl (lCk (lLeave u p9)))), (aK A, .inl (cJ, 40, .inr (.inl (lKe (lLeave u p9))))), (aT A, .inl (cJ, 40, .inr (.inl (vp_updL (lTi (lLeave u p9)) (lO (lLeave u p9) (lSz (lLeave u p9))).toNatClampNeg ((lTi (lLeave u p9) (lO (lLeave u p9) (lSz (lLeave u p9))).toNatClampNeg) + (lGa (lLeave u p9) (lO (lLeave u p9) (lSz (lLeave u p9))).toNatClampNeg)))))), (aG A, .inl (cJ, 40, .inr (.inl (lGa (lLeave u p9))))), (aF A, .inl (cI, 40, .inl (lOf (lLeave u p9))))] H _ := hw
  refine lv_aload_n F.1 F.2.1 dX0_setAgain_37 rfl (lv_at hl 1 rfl) ?_
  refine x_get F hw iX0 0 rfl rfl 6 (by decide) rfl (List.mem_of_getElem? (i := 6) rfl) rfl dX0_setAgain_38 ?_
  refine lv_iload_n F.1 F.2.1 dX0_setAgain_41 rfl (lv_at hl 0 rfl) ?_
  refine lv_dup2_11 F.1 F.2.1 dX0_setAgain_42 rfl rfl ?_
  refine x_iald F hw 7 0 rfl rfl (hok2.2.1 _ (by omega)) dX0_setAgain_43 ?_
  refine lv_iconst (v := 1) F.1 F.2.1 dX0_setAgain_44 (by decide) ?_
  refine lv_isub F.1 F.2.1 dX0_setAgain_45 ?_
  refine x_iast F hw 7 0 rfl rfl (hok2.2.1 _ (by omega)) dX0_setAgain_46 (fun H locs hw => ?_)
  have hw : xW G (xK cI cJ cZ cO) _ s.heap s [(aH A, .inr (0, [.ref (aO A), .ref (aN A), .ref (aC A), .ref (aK A), .ref (aT A), .ref (aG A), .ref (aF A), .int (nI (lSz (lLeave u p9)))])), (aO A, .inl (cI, 40, .inl (lO (lLeave u p9)))), (aN A, .inl (cI, 40, .inl (upd (lNu (lLeave u p9)) (lO (lLeave u p9) (lSz (lLeave u p9))).toNatClampNeg x))), (aC A, .inl (cI, 40, .inl (lCk (lLeave u p9)))), (aK A, .inl (cJ, 40, .inr (.inl (lKe (lLeave u p9))))), (aT A, .inl (cJ, 40, .inr (.inl (vp_updL (lTi (lLeave u p9)) (lO (lLeave u p9) (lSz (lLeave u p9))).toNatClampNeg ((lTi (lLeave u p9) (lO (lLeave u p9) (lSz (lLeave u p9))).toNatClampNeg) + (lGa (lLeave u p9) (lO (lLeave u p9) (lSz (lLeave u p9))).toNatClampNeg)))))), (aG A, .inl (cJ, 40, .inr (.inl (lGa (lLeave u p9))))), (aF A, .inl (cI, 40, .inl (upd (lOf (lLeave u p9)) (lO (lLeave u p9) (lSz (lLeave u p9))).toNatClampNeg ((lOf (lLeave u p9) (lO (lLeave u p9) (lSz (lLeave u p9))).toNatClampNeg) - 1))))] H _ := hw
  have hw : xW G (xK cI cJ cZ cO) _ s.heap s [(aH A, .inr (0, [.ref (aO A), .ref (aN A), .ref (aC A), .ref (aK A), .ref (aT A), .ref (aG A), .ref (aF A), .int (nI (lSz (lAgain (lLeave u p9) x)))])), (aO A, .inl (cI, 40, .inl (lO (lAgain (lLeave u p9) x)))), (aN A, .inl (cI, 40, .inl (lNu (lAgain (lLeave u p9) x)))), (aC A, .inl (cI, 40, .inl (lCk (lAgain (lLeave u p9) x)))), (aK A, .inl (cJ, 40, .inr (.inl (lKe (lAgain (lLeave u p9) x))))), (aT A, .inl (cJ, 40, .inr (.inl (lTi (lAgain (lLeave u p9) x))))), (aG A, .inl (cJ, 40, .inr (.inl (lGa (lAgain (lLeave u p9) x))))), (aF A, .inl (cI, 40, .inl (lOf (lAgain (lLeave u p9) x))))] H _ := hw
  refine lv_aload_n F.1 F.2.1 dX0_setAgain_47 rfl (lv_at hl 1 rfl) ?_
  refine x_wv (wr := []) (va_runV (As := []) (rest := []) F (c_X0_sortInFirstFree l G cI cJ cZ cO (Array.size H) A (lAgain (lLeave u p9) x) k (lAgain_ok hok2 x) (show lSz u - 1 < 40 by omega) (show k ≤ lSz u - 1 by omega) (fun i hi => by rw [lAgain_at hok2 (by omega) x (by omega), show lSz (lAgain (lLeave u p9) x) = lSz (lLeave u p9) from rfl, lAgain_new, hnew]; exact h1 i hi) (fun i hi hi2 => by rw [lAgain_at hok2 (by omega) x hi2, show lSz (lAgain (lLeave u p9) x) = lSz (lLeave u p9) from rfl, lAgain_new, hnew]; exact h2 i hi hi2)) (cwV 0 F.2.2.2.2 gX0_setAgain_X0_sortInFirstFree rfl rfl rfl (by decide +kernel) ⟨Nat.le_of_ble_eq_true rfl, Nat.le_of_ble_eq_true rfl⟩) (x_preVW hw [0, 1, 2, 3, 4, 5, 6, 7] rfl (by decide) 0 rfl rfl) rfl rfl hl.1 rfl (lv_room (Nat.le_of_ble_eq_true rfl)) dX0_setAgain_48 ⟨Nat.le_of_ble_eq_true rfl, Nat.le_of_ble_eq_true rfl⟩) hw [0, 1, 2, 3, 4, 5, 6, 7] [] rfl rfl (by decide) (by decide) (fun u4 H locs hu4 hw => ?_)
  have hw : xW G (xK cI cJ cZ cO) _ s.heap s [(aH A, .inr (0, [.ref (aO A), .ref (aN A), .ref (aC A), .ref (aK A), .ref (aT A), .ref (aG A), .ref (aF A), .int (nI (lSz u4))])), (aO A, .inl (cI, 40, .inl (lO u4))), (aN A, .inl (cI, 40, .inl (lNu u4))), (aC A, .inl (cI, 40, .inl (lCk u4))), (aK A, .inl (cJ, 40, .inr (.inl (lKe u4)))), (aT A, .inl (cJ, 40, .inr (.inl (lTi u4)))), (aG A, .inl (cJ, 40, .inr (.inl (lGa u4)))), (aF A, .inl (cI, 40, .inl (lOf u4)))] H _ := hw
  subst hu4
  exact x_vret (f := fun u9 : LnR => wLn cI cJ A u9) (lSort (lAgain (lLeave u p9) x) k) F hr hlk hw (rfl) dX0_setAgain_51

set_option maxHeartbeats 8000000 in
set_option maxRecDepth 100000 in
/-- dueOf(clock, until) -/
theorem c_X0_dueOf (l : Launch) (G : va_G) (cI cJ cZ cO : ClassId) (sz : Nat) (A : LnA) (u : LnR) (x : Int32) (t : Int64) (hok : LnOk u) : Met l yX0_dueOf wsX0_dueOf ({ frames := 1, cells := 0, slots := 0, locals := 22 }) (xPc G (xK cI cJ cZ cO) sz [.ref (aH A), .int x, .long t] (wLn cI cJ A u)) (xQi (fun r => (∃ k, k < lSz u ∧ eC (lAt u k) = x ∧ (∀ i, i < k → eC (lAt u i) ≠ x) ∧ eT (lAt u k) ≤ t ∧ r = nI k) ∨ ((∀ k, k < lSz u → eC (lAt u k) = x → (∀ i, i < k → eC (lAt u i) ≠ x) → ¬ eT (lAt u k) ≤ t) ∧ r = -1))) 0 0 (fun _ => False) := by
  refine x_body (by decide) rfl (Nat.le_of_ble_eq_true rfl) ?_
  intro p e s m below meth c F hr hlk hnm hsz hw ls hl
  subst hsz
  have F : CallFix p m c cX0_dueOf 5 s _ wsX0_dueOf RX0 := F
  have hl : lv_has ls 5 [(0, .ref (aH A)), (1, .int x), (2, .long t)] := hl
  have hw : xW G (xK cI cJ cZ cO) _ s.heap s [(aH A, .inr (0, [.ref (aO A), .ref (aN A), .ref (aC A), .ref (aK A), .ref (aT A), .ref (aG A), .ref (aF A), .int (nI (lSz u))])), (aO A, .inl (cI, 40, .inl (lO u))), (aN A, .inl (cI, 40, .inl (lNu u))), (aC A, .inl (cI, 40, .inl (lCk u))), (aK A, .inl (cJ, 40, .inr (.inl (lKe u)))), (aT A, .inl (cJ, 40, .inr (.inl (lTi u)))), (aG A, .inl (cJ, 40, .inr (.inl (lGa u)))), (aF A, .inl (cI, 40, .inl (lOf u)))] s.heap [] := hw
  refine lv_aload_n F.1 F.2.1 dX0_dueOf_0 rfl (lv_at hl 0 rfl) ?_
  refine lv_iload_n F.1 F.2.1 dX0_dueOf_1 rfl (lv_at hl 1 rfl) ?_
  refine x_ri (va_runV (As := [.int x]) (rest := []) F (c_X0_headOf l G cI cJ cZ cO (Array.size _) A u x hok) (cwV 1 F.2.2.2.2 gX0_dueOf_X0_headOf rfl rfl rfl (by decide +kernel) ⟨Nat.le_of_ble_eq_true rfl, Nat.le_of_ble_eq_true rfl⟩) (x_preVW hw [0, 1, 2, 3, 4, 5, 6, 7] rfl (by decide) 0 rfl rfl) rfl rfl hl.1 rfl (lv_room (Nat.le_of_ble_eq_true rfl)) dX0_dueOf_2 ⟨Nat.le_of_ble_eq_true rfl, Nat.le_of_ble_eq_true rfl⟩) (fun r9 hr9 => ?_)
  refine lv_istore (lv' := [(4, .int r9), (0, .ref (aH A)), (1, .int x), (2, .long t)]) F.1 F.2.1 dX0_dueOf_5 hl (by decide) rfl (fun ls hl => ?_)
  refine lv_iload F.1 F.2.1 dX0_dueOf_7 (lv_at hl 0 rfl) ?_
  refine lv_iconst (v := (-1)) F.1 F.2.1 dX0_dueOf_9 (by decide) ?_
  refine lv_icmp_eq (tgt := 29) F.1 F.2.1 dX0_dueOf_10 (by decide) (fun c10 => ?_) (fun c10 => ?_)
  · refine lv_iconst (v := (-1)) F.1 F.2.1 dX0_dueOf_29 (by decide) ?_
    exact x_riret F hr hlk (Or.inr ⟨fun k hk hc hn h => by
        rcases hr9 with ⟨k2, hk2, -, -, e2⟩ | h9
        · have h40 := hok.1
          rw [e2] at c10
          exact absurd c10 (by have h8 := nI_pos' (n := k2) (by omega); intro e3; rw [e3] at h8; exact absurd h8 (by decide))
        · exact absurd hc (h9.1 k hk), rfl⟩) dX0_dueOf_30
  · obtain ⟨k9, hk9, hc9, hn9, rfl⟩ : ∃ k, k < lSz u ∧ eC (lAt u k) = x ∧ (∀ i, i < k → eC (lAt u i) ≠ x) ∧ r9 = nI k := by
      rcases hr9 with h | h
      · exact h
      · exact absurd h.2 c10
    have h40 := hok.1
    refine lv_aload_n F.1 F.2.1 dX0_dueOf_13 rfl (lv_at hl 1 rfl) ?_
    refine lv_iload F.1 F.2.1 dX0_dueOf_14 (lv_at hl 0 rfl) ?_
    refine x_rl (va_runV (As := [.int (nI k9)]) (rest := []) F (c_X0_timeAt l G cI cJ cZ cO (Array.size _) A u k9 hok (by omega)) (cwV 1 F.2.2.2.2 gX0_dueOf_X0_timeAt rfl rfl rfl (by decide +kernel) ⟨Nat.le_of_ble_eq_true rfl, Nat.le_of_ble_eq_true rfl⟩) (x_preVW hw [0, 1, 2, 3, 4, 5, 6, 7] rfl (by decide) 0 rfl rfl) rfl rfl hl.1 rfl (lv_room (Nat.le_of_ble_eq_true rfl)) dX0_dueOf_16 ⟨Nat.le_of_ble_eq_true rfl, Nat.le_of_ble_eq_true rfl⟩) (fun r8 hr8 => ?_)
    subst hr8
    refine lv_lload_n F.1 F.2.1 dX0_dueOf_19 rfl (lv_at hl 3 rfl) ?_
    refine x_l_gt (tgt := 29) F dX0_dueOf_20 dX0_dueOf_21 (by decide) (fun c20 => ?_) (fun c20 => ?_)
    · refine lv_iconst (v := (-1)) F.1 F.2.1 dX0_dueOf_29 (by decide) ?_
      exact x_riret F hr hlk (Or.inr ⟨fun k hk hc hn h => by
        have e9 : k = k9 := by
          rcases Nat.lt_trichotomy k k9 with q | q | q
          · exact absurd hc (hn9 k q)
          · exact q
          · exact absurd hc9 (hn k9 q)
        rw [e9] at h; exact absurd h (Int64.not_le.mpr c20), rfl⟩) dX0_dueOf_30
    · refine lv_iload F.1 F.2.1 dX0_dueOf_24 (lv_at hl 0 rfl) ?_
      refine lv_goto (tgt := 30) F.1 F.2.1 dX0_dueOf_26 (by decide) ?_
      exact x_riret F hr hlk (Or.inl ⟨k9, hk9, hc9, hn9, Int64.not_lt.mp c20, rfl⟩) dX0_dueOf_30
end
section
/-! Counting, and stores of natural numbers. -/
def cnt (P : Nat → Bool) : Nat → Nat
  | 0 => 0
  | n + 1 => cnt P n + if P n = true then 1 else 0
theorem cnt_1 {P : Nat → Bool} {n : Nat} (h : P n = true) : cnt P (n + 1) = cnt P n + 1 := by rw [cnt, if_pos h]
theorem cnt_0 {P : Nat → Bool} {n : Nat} (h : P n = false) : cnt P (n + 1) = cnt P n := by rw [cnt, if_neg (by rw [h]; decide)]; rfl
theorem cnt_le (P : Nat → Bool) : ∀ n, cnt P n ≤ n
  | 0 => Nat.le_refl _
  | n + 1 => by
    have := cnt_le P n
    rw [cnt]
    split <;> omega
theorem cnt_map {α : Type} (f : Nat → α) (q : α → Bool) : ∀ n, ((List.range n).map f).countP q = cnt (fun i => q (f i)) n
  | 0 => rfl
  | n + 1 => by
    rw [List.range_succ, List.map_append, List.countP_append, cnt_map f q n, cnt]
    simp [List.countP_cons]
theorem cnt_cong {P Q : Nat → Bool} : ∀ {n : Nat}, (∀ i, i < n → P i = Q i) → cnt P n = cnt Q n
  | 0, _ => rfl
  | n + 1, h => by rw [cnt, cnt, cnt_cong (fun i hi => h i (by omega)), h n (by omega)]
theorem up_nI (w : Nat → Nat) (k x : Nat) : upd (fun j => nI (w j)) k (nI x) = fun j => nI (va_up w k x j) := by
  funext j
  unfold upd va_up
  split <;> rfl
theorem nar_z {x : Int32} (h : x = 0 ∨ x = 1) : vp_nar .boolean x = x := by
  rcases h with h | h <;> subst h <;> rfl
theorem nar_zz {x : Int32} (h : x = 0 ∨ x = 1) : narrow .boolean (.int x) = .int x := by
  rcases h with h | h <;> subst h <;> rfl
section
variable {p : Program} {l : Launch} {e : Env} {R : Room} {s : State} {m : MethodId} {args : Array Value} {below : List Frame} {meth : Method} {c : Code} {H : Heap} {locs : List Loc} {cells slots : Nat} {Q : State → Prop}
variable {cc : ByteArray} {nL pc : Nat} {ls : Array Slot} {rest : List Value} {Ts : List Cond} {own : String} {G : va_G} {ty : xT} {A : Nat → Prop} {H0 : Heap} {ws : va_W}
theorem x_nastN (F : CallFix p m c cc nL s args Ts own) (hw : xW G ty A H0 s ws H locs) (q0 t0 : Nat) {a n : Nat} {cA : ClassId} {w : Nat → Nat} (ha : ws[q0]? = some (a, .inl (cA, n, .inl (fun j => nI (w j))))) (ht : ty[t0]? = some (cA, .int)) {i x : Int32} (k y : Nat) (hi : i = nI k) (hx : x = nI y) (hk : k < n) (hn : n < 2 ^ 31) (hd : decode cc pc = .ok (.iastore, 1))
    (kk : ∀ (H1 : Heap) (locs1 : List Loc), xW G ty A H0 s (ws.set q0 (a, .inl (cA, n, .inl (fun j => nI (va_up w k y j))))) H1 locs1 → W p l e R s m args below meth c H1 locs1 cells slots Q (F0 m (pc + 1) ls rest)) : W p l e R s m args below meth c H locs cells slots Q (F0 m pc ls (.int x :: .int i :: .ref a :: rest)) := by
  subst hx
  refine x_iastN F hw q0 t0 ha ht k hi hk hn hd ?_
  rw [up_nI]
  exact kk
end
/-- between two times, of a clock and a key -/
def eBet (c : Int32) (k fr to : Int64) (a : Ent) : Bool := decide (fr ≤ eT a) && decide (eT a ≤ to) && decide (eC a = c) && decide (eK a = k)
theorem eBet_1 {c : Int32} {k fr to : Int64} {a : Ent} (h1 : ¬ eT a < fr) (h2 : ¬ to < eT a) (h3 : eC a = c) (h4 : eK a = k) : eBet c k fr to a = true := by
  unfold eBet
  rw [decide_eq_true (Int64.not_lt.mp h1), decide_eq_true (Int64.not_lt.mp h2), decide_eq_true h3, decide_eq_true h4]; rfl
theorem eBet_a {c : Int32} {k fr to : Int64} {a : Ent} (h : eT a < fr) : eBet c k fr to a = false := by
  unfold eBet
  rw [decide_eq_false (Int64.not_le.mpr h)]; rfl
theorem eBet_b {c : Int32} {k fr to : Int64} {a : Ent} (h : to < eT a) : eBet c k fr to a = false := by
  unfold eBet
  rw [decide_eq_false (Int64.not_le.mpr h), Bool.and_false]; rfl
theorem eBet_c {c : Int32} {k fr to : Int64} {a : Ent} (h : ¬ eC a = c) : eBet c k fr to a = false := by
  unfold eBet
  rw [decide_eq_false h, Bool.and_false]; rfl
theorem eBet_d {c : Int32} {k fr to : Int64} {a : Ent} (h : ¬ eK a = k) : eBet c k fr to a = false := by
  unfold eBet
  rw [decide_eq_false h, Bool.and_false]
/-- a line's copy into another one's rows -/
def lCopy (u v : LnR) : LnR := (va_cpy (lO v) (lO u) 0 0 40, va_cpy (lNu v) (lNu u) 0 0 40, va_cpy (lCk v) (lCk u) 0 0 40, va_cpy (lKe v) (lKe u) 0 0 40, va_cpy (lTi v) (lTi u) 0 0 40, va_cpy (lGa v) (lGa u) 0 0 40, va_cpy (lOf v) (lOf u) 0 0 40, lSz v)
theorem cpy40 {α : Type} (f g : Nat → α) {j : Nat} (h : j < 40) : va_cpy f g 0 0 40 j = f j := by
  rw [pk_cpy_in (by omega) (by omega)]
  congr 1
  omega
theorem in40 {x : Int32} (h : vp_in x 40) : x.toNatClampNeg < 40 := Nat.not_le.mp (fun q => h (Or.inr q))
theorem lCopy_at {u v : LnR} (hv : LnOk v) {i : Nat} (hi : i < 40) : lAt (lCopy u v) i = lAt v i := by
  have e : lO (lCopy u v) i = lO v i := cpy40 _ _ hi
  have hj := in40 (hv.2.1 i hi)
  show lEnt (lCopy u v) (lO (lCopy u v) i).toNatClampNeg = lEnt v (lO v i).toNatClampNeg
  rw [e]
  show (va_cpy (lNu v) (lNu u) 0 0 40 _, va_cpy (lCk v) (lCk u) 0 0 40 _, va_cpy (lKe v) (lKe u) 0 0 40 _, va_cpy (lTi v) (lTi u) 0 0 40 _, va_cpy (lGa v) (lGa u) 0 0 40 _, va_cpy (lOf v) (lOf u) 0 0 40 _) = _
  rw [cpy40 _ _ hj, cpy40 _ _ hj, cpy40 _ _ hj, cpy40 _ _ hj, cpy40 _ _ hj, cpy40 _ _ hj]; rfl
theorem lCopy_ok {u v : LnR} (hv : LnOk v) : LnOk (lCopy u v) := by
  have e : ∀ i, i < 40 → lO (lCopy u v) i = lO v i := fun i hi => cpy40 _ _ hi
  refine ⟨hv.1, fun i hi => by rw [e i hi]; exact hv.2.1 i hi, fun i j hi hj h => ?_⟩
  rw [e i hi, e j hj] at h
  exact hv.2.2 i j hi hj h
theorem lCopy_ab {u v : LnR} (hv : LnOk v) : lAb (lCopy u v) = lAb v := lAb_cong rfl (fun i hi => lCopy_at hv (by have h1 : i < lSz v := hi; have h2 := hv.1; omega))
end
section
set_option maxHeartbeats 8000000 in
set_option maxRecDepth 100000 in
/-- countBetween(..) -/
theorem c_X0_countBetween (l : Launch) (G : va_G) (cI cJ cZ cO : ClassId) (sz : Nat) (A : LnA) (u : LnR) (x : Int32) (y t1 t2 : Int64) (hok : LnOk u) : Met l yX0_countBetween wsX0_countBetween ({ frames := 0, cells := 0, slots := 0, locals := 0 }) (xPc G (xK cI cJ cZ cO) sz [.ref (aH A), .int x, .long y, .long t1, .long t2] (wLn cI cJ A u)) (xQi (fun r => r = nI (cnt (fun j9 => eBet x y t1 t2 (lAt u j9)) (lSz u)))) 0 0 (fun _ => False) := by
  refine x_body (by decide) rfl (Nat.le_of_ble_eq_true rfl) ?_
  intro p e s m below meth c F hr hlk hnm hsz hw ls hl
  subst hsz
  have F : CallFix p m c cX0_countBetween 12 s _ wsX0_countBetween RX0 := F
  have hl : lv_has ls 12 [(0, .ref (aH A)), (1, .int x), (2, .long y), (4, .long t1), (6, .long t2)] := hl
  have hw : xW G (xK cI cJ cZ cO) _ s.heap s [(aH A, .inr (0, [.ref (aO A), .ref (aN A), .ref (aC A), .ref (aK A), .ref (aT A), .ref (aG A), .ref (aF A), .int (nI (lSz u))])), (aO A, .inl (cI, 40, .inl (lO u))), (aN A, .inl (cI, 40, .inl (lNu u))), (aC A, .inl (cI, 40, .inl (lCk u))), (aK A, .inl (cJ, 40, .inr (.inl (lKe u)))), (aT A, .inl (cJ, 40, .inr (.inl (lTi u)))), (aG A, .inl (cJ, 40, .inr (.inl (lGa u)))), (aF A, .inl (cI, 40, .inl (lOf u)))] s.heap [] := hw
  have iX0 : ∀ w ∈ wsX00, w ∈ wsX0_countBetween := by decide +kernel
  refine lv_iconst (v := 0) F.1 F.2.1 dX0_countBetween_0 (by decide) ?_
  refine lv_istore (lv' := [(8, .int 0), (0, .ref (aH A)), (1, .int x), (2, .long y), (4, .long t1), (6, .long t2)]) F.1 F.2.1 dX0_countBetween_1 hl (by decide) rfl (fun ls hl => ?_)
  refine lv_iconst (v := 0) F.1 F.2.1 dX0_countBetween_3 (by decide) ?_
  refine lv_istore (lv' := [(9, .int 0), (8, .int 0), (0, .ref (aH A)), (1, .int x), (2, .long y), (4, .long t1), (6, .long t2)]) F.1 F.2.1 dX0_countBetween_4 hl (by decide) rfl (fun ls hl => ?_)
  refine x_rec0 (α := Nat × Nat) (fun a9 => lSz u - a9.1) (fun a9 ls => lv_has ls 12 [(0, .ref (aH A)), (1, .int x), (2, .long y), (4, .long t1), (6, .long t2), (8, .int (nI a9.2)), (9, .int (nI a9.1))] ∧ a9.1 ≤ lSz u ∧ a9.2 = cnt (fun j9 => eBet x y t1 t2 (lAt u j9)) a9.1) ?_ ((0, 0)) ⟨lv_sub hl [2, 3, 4, 5, 6, 1, 0] rfl, Nat.zero_le _, rfl⟩
  rintro ⟨i, n⟩ ls ⟨hl, hi, hn⟩ ih
  try dsimp only at hi hn
  have h40 := hok.1
  have hl : lv_has ls 12 [(0, .ref (aH A)), (1, .int x), (2, .long y), (4, .long t1), (6, .long t2), (8, .int (nI n)), (9, .int (nI i))] := hl
  refine lv_iload F.1 F.2.1 dX0_countBetween_6 (lv_at hl 6 rfl) ?_
  refine lv_aload_n F.1 F.2.1 dX0_countBetween_8 rfl (lv_at hl 0 rfl) ?_
  refine x_get F hw iX0 0 rfl rfl 7 (by decide) rfl (List.mem_of_getElem? (i := 1) rfl) rfl dX0_countBetween_9 ?_
  refine lv_icmp_ge (tgt := 94) F.1 F.2.1 dX0_countBetween_12 (by decide) (fun c12 => ?_) (fun c12 => ?_)
  · refine lv_iload F.1 F.2.1 dX0_countBetween_94 (lv_at hl 5 rfl) ?_
    exact x_riret F hr hlk (by have h9 := x_le (by omega) (by omega) c12; rw [hn, show i = lSz u by omega]) dX0_countBetween_96
  · have hlt : i < lSz u := x_nle (by omega) (by omega) c12
    refine lv_aload_n F.1 F.2.1 dX0_countBetween_15 rfl (lv_at hl 0 rfl) ?_
    refine x_get F hw iX0 0 rfl rfl 0 (by decide) rfl (List.mem_of_getElem? (i := 2) rfl) rfl dX0_countBetween_16 ?_
    refine lv_iload F.1 F.2.1 dX0_countBetween_19 (lv_at hl 6 rfl) ?_
    refine x_ialdN F hw 1 0 rfl rfl i rfl (by omega) (by decide) dX0_countBetween_21 ?_
    refine lv_istore (lv' := [(10, .int (lO u i)), (0, .ref (aH A)), (1, .int x), (2, .long y), (4, .long t1), (6, .long t2), (8, .int (nI n)), (9, .int (nI i))]) F.1 F.2.1 dX0_countBetween_22 hl (by decide) rfl (fun ls hl => ?_)
    refine lv_aload_n F.1 F.2.1 dX0_countBetween_24 rfl (lv_at hl 1 rfl) ?_
    refine x_get F hw iX0 0 rfl rfl 4 (by decide) rfl (List.mem_of_getElem? (i := 3) rfl) rfl dX0_countBetween_25 ?_
    refine lv_iload F.1 F.2.1 dX0_countBetween_28 (lv_at hl 0 rfl) ?_
    refine x_lald F hw 5 1 rfl rfl (hok.2.1 _ (by omega)) dX0_countBetween_30 ?_
    refine lv_lload F.1 F.2.1 dX0_countBetween_31 (lv_at hl 4 rfl) ?_
    refine x_l_lt (tgt := 54) F dX0_countBetween_33 dX0_countBetween_34 (by decide) (fun c33 => ?_) (fun c33 => ?_)
    · refine lv_iconst (v := 0) F.1 F.2.1 dX0_countBetween_54 (by decide) ?_
      refine lv_istore (lv' := [(11, .int 0), (10, .int (lO u i)), (0, .ref (aH A)), (1, .int x), (2, .long y), (4, .long t1), (6, .long t2), (8, .int (nI n)), (9, .int (nI i))]) F.1 F.2.1 dX0_countBetween_55 hl (by decide) rfl (fun ls hl => ?_)
      refine lv_iload F.1 F.2.1 dX0_countBetween_57 (lv_at hl 0 rfl) ?_
      refine lv_if_eq (tgt := 88) F.1 F.2.1 dX0_countBetween_59 (by decide) (fun c59 => ?_) (fun c59 => ?_)
      rotate_left
      · exact absurd (by decide) c59
      refine lv_iinc (v := nI (i + 1)) (lv' := [(9, .int (nI (i + 1))), (11, .int 0), (10, .int (lO u i)), (0, .ref (aH A)), (1, .int x), (2, .long y), (4, .long t1), (6, .long t2), (8, .int (nI n))]) F.1 F.2.1 dX0_countBetween_88 hl (k := 8) rfl (by rw [show Int32.ofInt 1 = 1 from rfl]; exact nI_1 _) (by decide) rfl (fun ls hl => ?_)
      refine lv_goto (tgt := 6) F.1 F.2.1 dX0_countBetween_91 (by decide) ?_
      exact ih ((i + 1, n)) _ (by simp only []; omega) ⟨lv_sub hl [3, 4, 5, 6, 7, 8, 0] rfl, by omega, by rw [cnt_0 (P := fun j9 => eBet x y t1 t2 (lAt u j9)) (eBet_a c33), hn]⟩
    · refine lv_aload_n F.1 F.2.1 dX0_countBetween_37 rfl (lv_at hl 1 rfl) ?_
      refine x_get F hw iX0 0 rfl rfl 4 (by decide) rfl (List.mem_of_getElem? (i := 3) rfl) rfl dX0_countBetween_38 ?_
      refine lv_iload F.1 F.2.1 dX0_countBetween_41 (lv_at hl 0 rfl) ?_
      refine x_lald F hw 5 1 rfl rfl (hok.2.1 _ (by omega)) dX0_countBetween_43 ?_
      refine lv_lload F.1 F.2.1 dX0_countBetween_44 (lv_at hl 5 rfl) ?_
      refine x_l_gt (tgt := 54) F dX0_countBetween_46 dX0_countBetween_47 (by decide) (fun c46 => ?_) (fun c46 => ?_)
      · refine lv_iconst (v := 0) F.1 F.2.1 dX0_countBetween_54 (by decide) ?_
        refine lv_istore (lv' := [(11, .int 0), (10, .int (lO u i)), (0, .ref (aH A)), (1, .int x), (2, .long y), (4, .long t1), (6, .long t2), (8, .int (nI n)), (9, .int (nI i))]) F.1 F.2.1 dX0_countBetween_55 hl (by decide) rfl (fun ls hl => ?_)
        refine lv_iload F.1 F.2.1 dX0_countBetween_57 (lv_at hl 0 rfl) ?_
        refine lv_if_eq (tgt := 88) F.1 F.2.1 dX0_countBetween_59 (by decide) (fun c59 => ?_) (fun c59 => ?_)
        rotate_left
        · exact absurd (by decide) c59
        refine lv_iinc (v := nI (i + 1)) (lv' := [(9, .int (nI (i + 1))), (11, .int 0), (10, .int (lO u i)), (0, .ref (aH A)), (1, .int x), (2, .long y), (4, .long t1), (6, .long t2), (8, .int (nI n))]) F.1 F.2.1 dX0_countBetween_88 hl (k := 8) rfl (by rw [show Int32.ofInt 1 = 1 from rfl]; exact nI_1 _) (by decide) rfl (fun ls hl => ?_)
        refine lv_goto (tgt := 6) F.1 F.2.1 dX0_countBetween_91 (by decide) ?_
        exact ih ((i + 1, n)) _ (by simp only []; omega) ⟨lv_sub hl [3, 4, 5, 6, 7, 8, 0] rfl, by omega, by rw [cnt_0 (P := fun j9 => eBet x y t1 t2 (lAt u j9)) (eBet_b c46), hn]⟩
      · refine lv_iconst (v := 1) F.1 F.2.1 dX0_countBetween_50 (by decide) ?_
        refine lv_goto (tgt := 55) F.1 F.2.1 dX0_countBetween_51 (by decide) ?_
        refine lv_istore (lv' := [(11, .int 1), (10, .int (lO u i)), (0, .ref (aH A)), (1, .int x), (2, .long y), (4, .long t1), (6, .long t2), (8, .int (nI n)), (9, .int (nI i))]) F.1 F.2.1 dX0_countBetween_55 hl (by decide) rfl (fun ls hl => ?_)
        refine lv_iload F.1 F.2.1 dX0_countBetween_57 (lv_at hl 0 rfl) ?_
        refine lv_if_eq (tgt := 88) F.1 F.2.1 dX0_countBetween_59 (by decide) (fun c59 => ?_) (fun c59 => ?_)
        · exact absurd c59 (by decide)
        refine lv_aload_n F.1 F.2.1 dX0_countBetween_62 rfl (lv_at hl 2 rfl) ?_
        refine x_get F hw iX0 0 rfl rfl 2 (by decide) rfl (List.mem_of_getElem? (i := 4) rfl) rfl dX0_countBetween_63 ?_
        refine lv_iload F.1 F.2.1 dX0_countBetween_66 (lv_at hl 1 rfl) ?_
        refine x_iald F hw 3 0 rfl rfl (hok.2.1 _ (by omega)) dX0_countBetween_68 ?_
        refine lv_iload_n F.1 F.2.1 dX0_countBetween_69 rfl (lv_at hl 3 rfl) ?_
        refine lv_icmp_ne (tgt := 88) F.1 F.2.1 dX0_countBetween_70 (by decide) (fun c70 => ?_) (fun c70 => ?_)
        · refine lv_iinc (v := nI (i + 1)) (lv' := [(9, .int (nI (i + 1))), (11, .int 1), (10, .int (lO u i)), (0, .ref (aH A)), (1, .int x), (2, .long y), (4, .long t1), (6, .long t2), (8, .int (nI n))]) F.1 F.2.1 dX0_countBetween_88 hl (k := 8) rfl (by rw [show Int32.ofInt 1 = 1 from rfl]; exact nI_1 _) (by decide) rfl (fun ls hl => ?_)
          refine lv_goto (tgt := 6) F.1 F.2.1 dX0_countBetween_91 (by decide) ?_
          exact ih ((i + 1, n)) _ (by simp only []; omega) ⟨lv_sub hl [3, 4, 5, 6, 7, 8, 0] rfl, by omega, by rw [cnt_0 (P := fun j9 => eBet x y t1 t2 (lAt u j9)) (eBet_c c70), hn]⟩
        · refine lv_aload_n F.1 F.2.1 dX0_countBetween_73 rfl (lv_at hl 2 rfl) ?_
          refine x_get F hw iX0 0 rfl rfl 3 (by decide) rfl (List.mem_of_getElem? (i := 5) rfl) rfl dX0_countBetween_74 ?_
          refine lv_iload F.1 F.2.1 dX0_countBetween_77 (lv_at hl 1 rfl) ?_
          refine x_lald F hw 4 1 rfl rfl (hok.2.1 _ (by omega)) dX0_countBetween_79 ?_
          refine lv_lload_n F.1 F.2.1 dX0_countBetween_80 rfl (lv_at hl 4 rfl) ?_
          refine x_l_ne (tgt := 88) F dX0_countBetween_81 dX0_countBetween_82 (by decide) (fun c81 => ?_) (fun c81 => ?_)
          · refine lv_iinc (v := nI (i + 1)) (lv' := [(9, .int (nI (i + 1))), (11, .int 1), (10, .int (lO u i)), (0, .ref (aH A)), (1, .int x), (2, .long y), (4, .long t1), (6, .long t2), (8, .int (nI n))]) F.1 F.2.1 dX0_countBetween_88 hl (k := 8) rfl (by rw [show Int32.ofInt 1 = 1 from rfl]; exact nI_1 _) (by decide) rfl (fun ls hl => ?_)
            refine lv_goto (tgt := 6) F.1 F.2.1 dX0_countBetween_91 (by decide) ?_
            exact ih ((i + 1, n)) _ (by simp only []; omega) ⟨lv_sub hl [3, 4, 5, 6, 7, 8, 0] rfl, by omega, by rw [cnt_0 (P := fun j9 => eBet x y t1 t2 (lAt u j9)) (eBet_d c81), hn]⟩
          · refine lv_iinc (v := nI (n + 1)) (lv' := [(8, .int (nI (n + 1))), (11, .int 1), (10, .int (lO u i)), (0, .ref (aH A)), (1, .int x), (2, .long y), (4, .long t1), (6, .long t2), (9, .int (nI i))]) F.1 F.2.1 dX0_countBetween_85 hl (k := 7) rfl (by rw [show Int32.ofInt 1 = 1 from rfl]; exact nI_1 _) (by decide) rfl (fun ls hl => ?_)
            refine lv_iinc (v := nI (i + 1)) (lv' := [(9, .int (nI (i + 1))), (8, .int (nI (n + 1))), (11, .int 1), (10, .int (lO u i)), (0, .ref (aH A)), (1, .int x), (2, .long y), (4, .long t1), (6, .long t2)]) F.1 F.2.1 dX0_countBetween_88 hl (k := 8) rfl (by rw [show Int32.ofInt 1 = 1 from rfl]; exact nI_1 _) (by decide) rfl (fun ls hl => ?_)
            refine lv_goto (tgt := 6) F.1 F.2.1 dX0_countBetween_91 (by decide) ?_
            exact ih ((i + 1, n + 1)) _ (by simp only []; omega) ⟨lv_sub hl [4, 5, 6, 7, 8, 1, 0] rfl, by omega, by rw [cnt_1 (P := fun j9 => eBet x y t1 t2 (lAt u j9)) (eBet_1 c33 c46 c70 c81), hn]⟩

set_option maxHeartbeats 8000000 in
set_option maxRecDepth 100000 in
/-- copyFrom(other) -/
theorem c_X0_copyFrom (l : Launch) (G : va_G) (cI cJ cZ cO : ClassId) (sz : Nat) (A B : LnA) (u v : LnR) : Met l yX0_copyFrom wsX0_copyFrom ({ frames := 1, cells := 0, slots := 0, locals := 40 }) (xPc G (xK cI cJ cZ cO) sz [.ref (aH A), .ref (aH B)] (wLn cI cJ A u ++ wLn cI cJ B v)) (va_Qv (fun u2 => u2 = lCopy u v) (xB G (xK cI cJ cZ cO) (wLn cI cJ A u ++ wLn cI cJ B v) sz (fun u9 : LnR => wLn cI cJ A u9 ++ wLn cI cJ B v)) (va_A (wLn cI cJ A u ++ wLn cI cJ B v) sz)) 0 0 (va_A (wLn cI cJ A u ++ wLn cI cJ B v) sz) := by
  refine x_body (by decide) rfl (Nat.le_of_ble_eq_true rfl) ?_
  intro p e s m below meth c F hr hlk hnm hsz hw ls hl
  subst hsz
  have F : CallFix p m c cX0_copyFrom 2 s _ wsX0_copyFrom RX0 := F
  have hl : lv_has ls 2 [(0, .ref (aH A)), (1, .ref (aH B))] := hl
  have hw : xW G (xK cI cJ cZ cO) _ s.heap s [(aH A, .inr (0, [.ref (aO A), .ref (aN A), .ref (aC A), .ref (aK A), .ref (aT A), .ref (aG A), .ref (aF A), .int (nI (lSz u))])), (aO A, .inl (cI, 40, .inl (lO u))), (aN A, .inl (cI, 40, .inl (lNu u))), (aC A, .inl (cI, 40, .inl (lCk u))), (aK A, .inl (cJ, 40, .inr (.inl (lKe u)))), (aT A, .inl (cJ, 40, .inr (.inl (lTi u)))), (aG A, .inl (cJ, 40, .inr (.inl (lGa u)))), (aF A, .inl (cI, 40, .inl (lOf u))), (aH B, .inr (0, [.ref (aO B), .ref (aN B), .ref (aC B), .ref (aK B), .ref (aT B), .ref (aG B), .ref (aF B), .int (nI (lSz v))])), (aO B, .inl (cI, 40, .inl (lO v))), (aN B, .inl (cI, 40, .inl (lNu v))), (aC B, .inl (cI, 40, .inl (lCk v))), (aK B, .inl (cJ, 40, .inr (.inl (lKe v)))), (aT B, .inl (cJ, 40, .inr (.inl (lTi v)))), (aG B, .inl (cJ, 40, .inr (.inl (lGa v)))), (aF B, .inl (cI, 40, .inl (lOf v)))] s.heap [] := hw
  have iX0 : ∀ w ∈ wsX00, w ∈ wsX0_copyFrom := by decide +kernel
  refine lv_aload_n F.1 F.2.1 dX0_copyFrom_0 rfl (lv_at hl 1 rfl) ?_
  refine x_get F hw iX0 8 rfl rfl 0 (by decide) rfl (List.mem_of_getElem? (i := 1) rfl) rfl dX0_copyFrom_1 ?_
  refine lv_iconst (v := 0) F.1 F.2.1 dX0_copyFrom_4 (by decide) ?_
  refine lv_aload_n F.1 F.2.1 dX0_copyFrom_5 rfl (lv_at hl 0 rfl) ?_
  refine x_get F hw iX0 0 rfl rfl 0 (by decide) rfl (List.mem_of_getElem? (i := 1) rfl) rfl dX0_copyFrom_6 ?_
  refine lv_iconst (v := 0) F.1 F.2.1 dX0_copyFrom_9 (by decide) ?_
  refine lv_bipush (v := 40) F.1 F.2.1 dX0_copyFrom_10 (by decide) ?_
  refine x_copyi F hw (List.mem_of_getElem? (i := 2) rfl) (List.mem_of_getElem? (i := 3) rfl) (List.mem_of_getElem? (i := 4) rfl) (List.mem_of_getElem? (i := 5) rfl) 9 1 0 rfl rfl rfl rfl (sp := 0) (dp := 0) (n := 40) rfl rfl rfl (by omega) (by omega) (by decide) (by decide) hl.1 (Nat.le_of_ble_eq_true rfl) (Nat.le_of_ble_eq_true rfl) dX0_copyFrom_12 (fun H locs hw => ?_)
  have hw : xW G (xK cI cJ cZ cO) _ s.heap s [(aH A, .inr (0, [.ref (aO A), .ref (aN A), .ref (aC A), .ref (aK A), .ref (aT A), .ref (aG A), .ref (aF A), .int (nI (lSz u))])), (aO A, .inl (cI, 40, .inl (va_cpy (lO v) (lO u) 0 0 40))), (aN A, .inl (cI, 40, .inl (lNu u))), (aC A, .inl (cI, 40, .inl (lCk u))), (aK A, .inl (cJ, 40, .inr (.inl (lKe u)))), (aT A, .inl (cJ, 40, .inr (.inl (lTi u)))), (aG A, .inl (cJ, 40, .inr (.inl (lGa u)))), (aF A, .inl (cI, 40, .inl (lOf u))), (aH B, .inr (0, [.ref (aO B), .ref (aN B), .ref (aC B), .ref (aK B), .ref (aT B), .ref (aG B), .ref (aF B), .int (nI (lSz v))])), (aO B, .inl (cI, 40, .inl (lO v))), (aN B, .inl (cI, 40, .inl (lNu v))), (aC B, .inl (cI, 40, .inl (lCk v))), (aK B, .inl (cJ, 40, .inr (.inl (lKe v)))), (aT B, .inl (cJ, 40, .inr (.inl (lTi v)))), (aG B, .inl (cJ, 40, .inr (.inl (lGa v)))), (aF B, .inl (cI, 40, .inl (lOf v)))] H _ := hw
  refine lv_aload_n F.1 F.2.1 dX0_copyFrom_15 rfl (lv_at hl 1 rfl) ?_
  refine x_get F hw iX0 8 rfl rfl 1 (by decide) rfl (List.mem_of_getElem? (i := 6) rfl) rfl dX0_copyFrom_16 ?_
  refine lv_iconst (v := 0) F.1 F.2.1 dX0_copyFrom_19 (by decide) ?_
  refine lv_aload_n F.1 F.2.1 dX0_copyFrom_20 rfl (lv_at hl 0 rfl) ?_
  refine x_get F hw iX0 0 rfl rfl 1 (by decide) rfl (List.mem_of_getElem? (i := 6) rfl) rfl dX0_copyFrom_21 ?_
  refine lv_iconst (v := 0) F.1 F.2.1 dX0_copyFrom_24 (by decide) ?_
  refine lv_bipush (v := 40) F.1 F.2.1 dX0_copyFrom_25 (by decide) ?_
  refine x_copyi F hw (List.mem_of_getElem? (i := 2) rfl) (List.mem_of_getElem? (i := 3) rfl) (List.mem_of_getElem? (i := 4) rfl) (List.mem_of_getElem? (i := 5) rfl) 10 2 0 rfl rfl rfl rfl (sp := 0) (dp := 0) (n := 40) rfl rfl rfl (by omega) (by omega) (by decide) (by decide) hl.1 (Nat.le_of_ble_eq_true rfl) (Nat.le_of_ble_eq_true rfl) dX0_copyFrom_27 (fun H locs hw => ?_)
  have hw : xW G (xK cI cJ cZ cO) _ s.heap s [(aH A, .inr (0, [.ref (aO A), .ref (aN A), .ref (aC A), .ref (aK A), .ref (aT A), .ref (aG A), .ref (aF A), .int (nI (lSz u))])), (aO A, .inl (cI, 40, .inl (va_cpy (lO v) (lO u) 0 0 40))), (aN A, .inl (cI, 40, .inl (va_cpy (lNu v) (lNu u) 0 0 40))), (aC A, .inl (cI, 40, .inl (lCk u))), (aK A, .inl (cJ, 40, .inr (.inl (lKe u)))), (aT A, .inl (cJ, 40, .inr (.inl (lTi u)))), (aG A, .inl (cJ, 40, .inr (.inl (lGa u)))), (aF A, .inl (cI, 40, .inl (lOf u))), (aH B, .inr (0, [.ref (aO B), .ref (aN B), .ref (aC B), .ref (aK B), .ref (aT B), .ref (aG B), .ref (aF B), .int (nI (lSz v))])), (aO B, .inl (cI, 40, .inl (lO v))), (aN B, .inl (cI, 40, .inl (lNu v))), (aC B, .inl (cI, 40, .inl (lCk v))), (aK B, .inl (cJ, 40, .inr (.inl (lKe v)))), (aT B, .inl (cJ, 40, .inr (.inl (lTi v)))), (aG B, .inl (cJ, 40, .inr (.inl (lGa v)))), (aF B, .inl (cI, 40, .inl (lOf v)))] H _ := hw
  refine lv_aload_n F.1 F.2.1 dX0_copyFrom_30 rfl (lv_at hl 1 rfl) ?_
  refine x_get F hw iX0 8 rfl rfl 2 (by decide) rfl (List.mem_of_getElem? (i := 7) rfl) rfl dX0_copyFrom_31 ?_
  refine lv_iconst (v := 0) F.1 F.2.1 dX0_copyFrom_34 (by decide) ?_
  refine lv_aload_n F.1 F.2.1 dX0_copyFrom_35 rfl (lv_at hl 0 rfl) ?_
  refine x_get F hw iX0 0 rfl rfl 2 (by decide) rfl (List.mem_of_getElem? (i := 7) rfl) rfl dX0_copyFrom_36 ?_
  refine lv_iconst (v := 0) F.1 F.2.1 dX0_copyFrom_39 (by decide) ?_
  refine lv_bipush (v := 40) F.1 F.2.1 dX0_copyFrom_40 (by decide) ?_
  refine x_copyi F hw (List.mem_of_getElem? (i := 2) rfl) (List.mem_of_getElem? (i := 3) rfl) (List.mem_of_getElem? (i := 4) rfl) (List.mem_of_getElem? (i := 5) rfl) 11 3 0 rfl rfl rfl rfl (sp := 0) (dp := 0) (n := 40) rfl rfl rfl (by omega) (by omega) (by decide) (by decide) hl.1 (Nat.le_of_ble_eq_true rfl) (Nat.le_of_ble_eq_true rfl) dX0_copyFrom_42 (fun H locs hw => ?_)
  have hw : xW G (xK cI cJ cZ cO) _ s.heap s [(aH A, .inr (0, [.ref (aO A), .ref (aN A), .ref (aC A), .ref (aK A), .ref (aT A), .ref (aG A), .ref (aF A), .int (nI (lSz u))])), (aO A, .inl (cI, 40, .inl (va_cpy (lO v) (lO u) 0 0 40))), (aN A, .inl (cI, 40, .inl (va_cpy (lNu v) (lNu u) 0 0 40))), (aC A, .inl (cI, 40, .inl (va_cpy (lCk v) (lCk u) 0 0 40))), (aK A, .inl (cJ, 40, .inr (.inl (lKe u)))), (aT A, .inl (cJ, 40, .inr (.inl (lTi u)))), (aG A, .inl (cJ, 40, .inr (.inl (lGa u)))), (aF A, .inl (cI, 40, .inl (lOf u))), (aH B, .inr (0, [.ref (aO B), .ref (aN B), .ref (aC B), .ref (aK B), .ref (aT B), .ref (aG B), .ref (aF B), .int (nI (lSz v))])), (aO B, .inl (cI, 40, .inl (lO v))), (aN B, .inl (cI, 40, .inl (lNu v))), (aC B, .inl (cI, 40, .inl (lCk v))), (aK B, .inl (cJ, 40, .inr (.inl (lKe v)))), (aT B, .inl (cJ, 40, .inr (.inl (lTi v)))), (aG B, .inl (cJ, 40, .inr (.inl (lGa v)))), (aF B, .inl (cI, 40, .inl (lOf v)))] H _ := hw
  refine lv_aload_n F.1 F.2.1 dX0_copyFrom_45 rfl (lv_at hl 1 rfl) ?_
  refine x_get F hw iX0 8 rfl rfl 3 (by decide) rfl (List.mem_of_getElem? (i := 8) rfl) rfl dX0_copyFrom_46 ?_
  refine lv_iconst (v := 0) F.1 F.2.1 dX0_copyFrom_49 (by decide) ?_
  refine lv_aload_n F.1 F.2.1 dX0_copyFrom_50 rfl (lv_at hl 0 rfl) ?_
  refine x_get F hw iX0 0 rfl rfl 3 (by decide) rfl (List.mem_of_getElem? (i := 8) rfl) rfl dX0_copyFrom_51 ?_
  refine lv_iconst (v := 0) F.1 F.2.1 dX0_copyFrom_54 (by decide) ?_
  refine lv_bipush (v := 40) F.1 F.2.1 dX0_copyFrom_55 (by decide) ?_
  refine x_copyl F hw (List.mem_of_getElem? (i := 2) rfl) (List.mem_of_getElem? (i := 3) rfl) (List.mem_of_getElem? (i := 4) rfl) (List.mem_of_getElem? (i := 5) rfl) 12 4 1 rfl rfl rfl rfl (sp := 0) (dp := 0) (n := 40) rfl rfl rfl (by omega) (by omega) (by decide) (by decide) hl.1 (Nat.le_of_ble_eq_true rfl) (Nat.le_of_ble_eq_true rfl) dX0_copyFrom_57 (fun H locs hw => ?_)
  have hw : xW G (xK cI cJ cZ cO) _ s.heap s [(aH A, .inr (0, [.ref (aO A), .ref (aN A), .ref (aC A), .ref (aK A), .ref (aT A), .ref (aG A), .ref (aF A), .int (nI (lSz u))])), (aO A, .inl (cI, 40, .inl (va_cpy (lO v) (lO u) 0 0 40))), (aN A, .inl (cI, 40, .inl (va_cpy (lNu v) (lNu u) 0 0 40))), (aC A, .inl (cI, 40, .inl (va_cpy (lCk v) (lCk u) 0 0 40))), (aK A, .inl (cJ, 40, .inr (.inl (va_cpy (lKe v) (lKe u) 0 0 40)))), (aT A, .inl (cJ, 40, .inr (.inl (lTi u)))), (aG A, .inl (cJ, 40, .inr (.inl (lGa u)))), (aF A, .inl (cI, 40, .inl (lOf u))), (aH B, .inr (0, [.ref (aO B), .ref (aN B), .ref (aC B), .ref (aK B), .ref (aT B), .ref (aG B), .ref (aF B), .int (nI (lSz v))])), (aO B, .inl (cI, 40, .inl (lO v))), (aN B, .inl (cI, 40, .inl (lNu v))), (aC B, .inl (cI, 40, .inl (lCk v))), (aK B, .inl (cJ, 40, .inr (.inl (lKe v)))), (aT B, .inl (cJ, 40, .inr (.inl (lTi v)))), (aG B, .inl (cJ, 40, .inr (.inl (lGa v)))), (aF B, .inl (cI, 40, .inl (lOf v)))] H _ := hw
  refine lv_aload_n F.1 F.2.1 dX0_copyFrom_60 rfl (lv_at hl 1 rfl) ?_
  refine x_get F hw iX0 8 rfl rfl 4 (by decide) rfl (List.mem_of_getElem? (i := 9) rfl) rfl dX0_copyFrom_61 ?_
  refine lv_iconst (v := 0) F.1 F.2.1 dX0_copyFrom_64 (by decide) ?_
  refine lv_aload_n F.1 F.2.1 dX0_copyFrom_65 rfl (lv_at hl 0 rfl) ?_
  refine x_get F hw iX0 0 rfl rfl 4 (by decide) rfl (List.mem_of_getElem? (i := 9) rfl) rfl dX0_copyFrom_66 ?_
  refine lv_iconst (v := 0) F.1 F.2.1 dX0_copyFrom_69 (by decide) ?_
  refine lv_bipush (v := 40) F.1 F.2.1 dX0_copyFrom_70 (by decide) ?_
  refine x_copyl F hw (List.mem_of_getElem? (i := 2) rfl) (List.mem_of_getElem? (i := 3) rfl) (List.mem_of_getElem? (i := 4) rfl) (List.mem_of_getElem? (i := 5) rfl) 13 5 1 rfl rfl rfl rfl (sp := 0) (dp := 0) (n := 40) rfl rfl rfl (by omega) (by omega) (by decide) (by decide) hl.1 (Nat.le_of_ble_eq_true rfl) (Nat.le_of_ble_eq_true rfl) dX0_copyFrom_72 (fun H locs hw => ?_)
  have hw : xW G (xK cI cJ cZ cO) _ s.heap s [(aH A, .inr (0, [.ref (aO A), .ref (aN A), .ref (aC A), .ref (aK A), .ref (aT A), .ref (aG A), .ref (aF A), .int (nI (lSz u))])), (aO A, .inl (cI, 40, .inl (va_cpy (lO v) (lO u) 0 0 40))), (aN A, .inl (cI, 40, .inl (va_cpy (lNu v) (lNu u) 0 0 40))), (aC A, .inl (cI, 40, .inl (va_cpy (lCk v) (lCk u) 0 0 40))), (aK A, .inl (cJ, 40, .inr (.inl (va_cpy (lKe v) (lKe u) 0 0 40)))), (aT A, .inl (cJ, 40, .inr (.inl (va_cpy (lTi v) (lTi u) 0 0 40)))), (aG A, .inl (cJ, 40, .inr (.inl (lGa u)))), (aF A, .inl (cI, 40, .inl (lOf u))), (aH B, .inr (0, [.ref (aO B), .ref (aN B), .ref (aC B), .ref (aK B), .ref (aT B), .ref (aG B), .ref (aF B), .int (nI (lSz v))])), (aO B, .inl (cI, 40, .inl (lO v))), (aN B, .inl (cI, 40, .inl (lNu v))), (aC B, .inl (cI, 40, .inl (lCk v))), (aK B, .inl (cJ, 40, .inr (.inl (lKe v)))), (aT B, .inl (cJ, 40, .inr (.inl (lTi v)))), (aG B, .inl (cJ, 40, .inr (.inl (lGa v)))), (aF B, .inl (cI, 40, .inl (lOf v)))] H _ := hw
  refine lv_aload_n F.1 F.2.1 dX0_copyFrom_75 rfl (lv_at hl 1 rfl) ?_
  refine x_get F hw iX0 8 rfl rfl 5 (by decide) rfl (List.mem_of_getElem? (i := 10) rfl) rfl dX0_copyFrom_76 ?_
  refine lv_iconst (v := 0) F.1 F.2.1 dX0_copyFrom_79 (by decide) ?_
  refine lv_aload_n F.1 F.2.1 dX0_copyFrom_80 rfl (lv_at hl 0 rfl) ?_
  refine x_get F hw iX0 0 rfl rfl 5 (by decide) rfl (List.mem_of_getElem? (i := 10) rfl) rfl dX0_copyFrom_81 ?_
  refine lv_iconst (v := 0) F.1 F.2.1 dX0_copyFrom_84 (by decide) ?_
  refine lv_bipush (v := 40) F.1 F.2.1 dX0_copyFrom_85 (by decide) ?_
  refine x_copyl F hw (List.mem_of_getElem? (i := 2) rfl) (List.mem_of_getElem? (i := 3) rfl) (List.mem_of_getElem? (i := 4) rfl) (List.mem_of_getElem? (i := 5) rfl) 14 6 1 rfl rfl rfl rfl (sp := 0) (dp := 0) (n := 40) rfl rfl rfl (by omega) (by omega) (by decide) (by decide) hl.1 (Nat.le_of_ble_eq_true rfl) (Nat.le_of_ble_eq_true rfl) dX0_copyFrom_87 (fun H locs hw => ?_)
  have hw : xW G (xK cI cJ cZ cO) _ s.heap s [(aH A, .inr (0, [.ref (aO A), .ref (aN A), .ref (aC A), .ref (aK A), .ref (aT A), .ref (aG A), .ref (aF A), .int (nI (lSz u))])), (aO A, .inl (cI, 40, .inl (va_cpy (lO v) (lO u) 0 0 40))), (aN A, .inl (cI, 40, .inl (va_cpy (lNu v) (lNu u) 0 0 40))), (aC A, .inl (cI, 40, .inl (va_cpy (lCk v) (lCk u) 0 0 40))), (aK A, .inl (cJ, 40, .inr (.inl (va_cpy (lKe v) (lKe u) 0 0 40)))), (aT A, .inl (cJ, 40, .inr (.inl (va_cpy (lTi v) (lTi u) 0 0 40)))), (aG A, .inl (cJ, 40, .inr (.inl (va_cpy (lGa v) (lGa u) 0 0 40)))), (aF A, .inl (cI, 40, .inl (lOf u))), (aH B, .inr (0, [.ref (aO B), .ref (aN B), .ref (aC B), .ref (aK B), .ref (aT B), .ref (aG B), .ref (aF B), .int (nI (lSz v))])), (aO B, .inl (cI, 40, .inl (lO v))), (aN B, .inl (cI, 40, .inl (lNu v))), (aC B, .inl (cI, 40, .inl (lCk v))), (aK B, .inl (cJ, 40, .inr (.inl (lKe v)))), (aT B, .inl (cJ, 40, .inr (.inl (lTi v)))), (aG B, .inl (cJ, 40, .inr (.inl (lGa v)))), (aF B, .inl (cI, 40, .inl (lOf v)))] H _ := hw
  refine lv_aload_n F.1 F.2.1 dX0_copyFrom_90 rfl (lv_at hl 1 rfl) ?_
  refine x_get F hw iX0 8 rfl rfl 6 (by decide) rfl (List.mem_of_getElem? (i := 11) rfl) rfl dX0_copyFrom_91 ?_
  refine lv_iconst (v := 0) F.1 F.2.1 dX0_copyFrom_94 (by decide) ?_
  refine lv_aload_n F.1 F.2.1 dX0_copyFrom_95 rfl (lv_at hl 0 rfl) ?_
  refine x_get F hw iX0 0 rfl rfl 6 (by decide) rfl (List.mem_of_getElem? (i := 11) rfl) rfl dX0_copyFrom_96 ?_
  refine lv_iconst (v := 0) F.1 F.2.1 dX0_copyFrom_99 (by decide) ?_
  refine lv_bipush (v := 40) F.1 F.2.1 dX0_copyFrom_100 (by decide) ?_
  refine x_copyi F hw (List.mem_of_getElem? (i := 2) rfl) (List.mem_of_getElem? (i := 3) rfl) (List.mem_of_getElem? (i := 4) rfl) (List.mem_of_getElem? (i := 5) rfl) 15 7 0 rfl rfl rfl rfl (sp := 0) (dp := 0) (n := 40) rfl rfl rfl (by omega) (by omega) (by decide) (by decide) hl.1 (Nat.le_of_ble_eq_true rfl) (Nat.le_of_ble_eq_true rfl) dX0_copyFrom_102 (fun H locs hw => ?_)
  have hw : xW G (xK cI cJ cZ cO) _ s.heap s [(aH A, .inr (0, [.ref (aO A), .ref (aN A), .ref (aC A), .ref (aK A), .ref (aT A), .ref (aG A), .ref (aF A), .int (nI (lSz u))])), (aO A, .inl (cI, 40, .inl (va_cpy (lO v) (lO u) 0 0 40))), (aN A, .inl (cI, 40, .inl (va_cpy (lNu v) (lNu u) 0 0 40))), (aC A, .inl (cI, 40, .inl (va_cpy (lCk v) (lCk u) 0 0 40))), (aK A, .inl (cJ, 40, .inr (.inl (va_cpy (lKe v) (lKe u) 0 0 40)))), (aT A, .inl (cJ, 40, .inr (.inl (va_cpy (lTi v) (lTi u) 0 0 40)))), (aG A, .inl (cJ, 40, .inr (.inl (va_cpy (lGa v) (lGa u) 0 0 40)))), (aF A, .inl (cI, 40, .inl (va_cpy (lOf v) (lOf u) 0 0 40))), (aH B, .inr (0, [.ref (aO B), .ref (aN B), .ref (aC B), .ref (aK B), .ref (aT B), .ref (aG B), .ref (aF B), .int (nI (lSz v))])), (aO B, .inl (cI, 40, .inl (lO v))), (aN B, .inl (cI, 40, .inl (lNu v))), (aC B, .inl (cI, 40, .inl (lCk v))), (aK B, .inl (cJ, 40, .inr (.inl (lKe v)))), (aT B, .inl (cJ, 40, .inr (.inl (lTi v)))), (aG B, .inl (cJ, 40, .inr (.inl (lGa v)))), (aF B, .inl (cI, 40, .inl (lOf v)))] H _ := hw
  refine lv_aload_n F.1 F.2.1 dX0_copyFrom_105 rfl (lv_at hl 0 rfl) ?_
  refine lv_aload_n F.1 F.2.1 dX0_copyFrom_106 rfl (lv_at hl 1 rfl) ?_
  refine x_get F hw iX0 8 rfl rfl 7 (by decide) rfl (List.mem_of_getElem? (i := 12) rfl) rfl dX0_copyFrom_107 ?_
  refine x_put F hw iX0 tyX0 tyX0_ok nmX0 0 rfl rfl 7 (by decide) rfl (List.mem_of_getElem? (i := 12) rfl) (rfl) (rfl) (Nat.le_of_ble_eq_true rfl) dX0_copyFrom_110 (fun H locs hw => ?_)
  have hw : xW G (xK cI cJ cZ cO) _ s.heap s [(aH A, .inr (0, [.ref (aO A), .ref (aN A), .ref (aC A), .ref (aK A), .ref (aT A), .ref (aG A), .ref (aF A), .int (nI (lSz v))])), (aO A, .inl (cI, 40, .inl (va_cpy (lO v) (lO u) 0 0 40))), (aN A, .inl (cI, 40, .inl (va_cpy (lNu v) (lNu u) 0 0 40))), (aC A, .inl (cI, 40, .inl (va_cpy (lCk v) (lCk u) 0 0 40))), (aK A, .inl (cJ, 40, .inr (.inl (va_cpy (lKe v) (lKe u) 0 0 40)))), (aT A, .inl (cJ, 40, .inr (.inl (va_cpy (lTi v) (lTi u) 0 0 40)))), (aG A, .inl (cJ, 40, .inr (.inl (va_cpy (lGa v) (lGa u) 0 0 40)))), (aF A, .inl (cI, 40, .inl (va_cpy (lOf v) (lOf u) 0 0 40))), (aH B, .inr (0, [.ref (aO B), .ref (aN B), .ref (aC B), .ref (aK B), .ref (aT B), .ref (aG B), .ref (aF B), .int (nI (lSz v))])), (aO B, .inl (cI, 40, .inl (lO v))), (aN B, .inl (cI, 40, .inl (lNu v))), (aC B, .inl (cI, 40, .inl (lCk v))), (aK B, .inl (cJ, 40, .inr (.inl (lKe v)))), (aT B, .inl (cJ, 40, .inr (.inl (lTi v)))), (aG B, .inl (cJ, 40, .inr (.inl (lGa v)))), (aF B, .inl (cI, 40, .inl (lOf v)))] H _ := hw
  exact x_vret (f := fun u9 : LnR => wLn cI cJ A u9 ++ wLn cI cJ B v) (lCopy u v) F hr hlk hw (rfl) dX0_copyFrom_113

set_option maxHeartbeats 8000000 in
set_option maxRecDepth 100000 in
/-- a new line -/
theorem c_X0_init (l : Launch) (G : va_G) (cI cJ cZ cO : ClassId) (sz : Nat) (h : Nat) : Met l yX0_init wsX0_init ({ frames := 1, cells := 7, slots := 280, locals := 12 }) (xPc G (xK cI cJ cZ cO) sz [.ref h] ([(h, .inr (0, [.null, .null, .null, .null, .null, .null, .null, .int 0]))])) (va_Qv (fun w2 => aH w2.1 = h ∧ LnOk w2.2 ∧ lSz w2.2 = 0) (xB G (xK cI cJ cZ cO) ([(h, .inr (0, [.null, .null, .null, .null, .null, .null, .null, .int 0]))]) sz (fun u9 : LnA × LnR => wLn cI cJ u9.1 u9.2)) (va_A ([(h, .inr (0, [.null, .null, .null, .null, .null, .null, .null, .int 0]))]) sz)) 7 280 (va_A ([(h, .inr (0, [.null, .null, .null, .null, .null, .null, .null, .int 0]))]) sz) := by
  refine x_body (by decide) rfl (Nat.le_of_ble_eq_true rfl) ?_
  intro p e s m below meth c F hr hlk hnm hsz hw ls hl
  subst hsz
  have F : CallFix p m c cX0_init 2 s _ wsX0_init RX0 := F
  have hl : lv_has ls 2 [(0, .ref h)] := hl
  have hw : xW G (xK cI cJ cZ cO) _ s.heap s [(h, .inr (0, [.null, .null, .null, .null, .null, .null, .null, .int 0]))] s.heap [] := hw
  have iX0 : ∀ w ∈ wsX00, w ∈ wsX0_init := by decide +kernel
  refine lv_aload_n F.1 F.2.1 dX0_init_0 rfl (lv_at hl 0 rfl) ?_
  refine W.objInit F.1 F.2.1 F.2.2.2.1 (F.2.2.2.2 _ (List.mem_of_getElem? (i := 1) rfl)) (F.2.2.2.2 _ (List.mem_of_getElem? (i := 2) rfl)) (F.2.2.2.2 _ (List.mem_of_getElem? (i := 3) rfl)) rfl (by rw [F.2.2.1]; exact hl.1) rfl dX0_init_1 (Nat.le_of_ble_eq_true rfl) (Nat.le_of_ble_eq_true rfl) ?_
  refine W.eq (g2 := F0 m 4 ls []) rfl ?_
  refine lv_aload_n F.1 F.2.1 dX0_init_4 rfl (lv_at hl 0 rfl) ?_
  refine lv_bipush (v := 40) F.1 F.2.1 dX0_init_5 (by decide) ?_
  refine x_newa F hw (t := .int) (a0 := (40, .inl (fun _ => 0))) (List.mem_of_getElem? (i := 4) rfl) rfl 0 rfl (fun _ => rfl) (by decide) (by decide) (by decide) (Nat.le_of_ble_eq_true rfl) (Nat.le_of_ble_eq_true rfl) dX0_init_7 (fun q1 H hw => ?_)
  have hw : xW G (xK cI cJ cZ cO) _ s.heap s [(h, .inr (0, [.null, .null, .null, .null, .null, .null, .null, .int 0])), (q1, .inl (cI, 40, .inl (fun _ => 0)))] H _ := hw
  refine x_putF F hw hnm iX0 tyX0 tyX0_ok nmX0 0 rfl rfl 0 (by decide) rfl (List.mem_of_getElem? (i := 5) rfl) (rfl) (rfl) (Nat.le_of_ble_eq_true rfl) dX0_init_9 (fun H locs hw => ?_)
  have hw : xW G (xK cI cJ cZ cO) _ s.heap s [(h, .inr (0, [.ref q1, .null, .null, .null, .null, .null, .null, .int 0])), (q1, .inl (cI, 40, .inl (fun _ => 0)))] H _ := hw
  refine lv_aload_n F.1 F.2.1 dX0_init_12 rfl (lv_at hl 0 rfl) ?_
  refine lv_bipush (v := 40) F.1 F.2.1 dX0_init_13 (by decide) ?_
  refine x_newa F hw (t := .int) (a0 := (40, .inl (fun _ => 0))) (List.mem_of_getElem? (i := 4) rfl) rfl 0 rfl (fun _ => rfl) (by decide) (by decide) (by decide) (Nat.le_of_ble_eq_true rfl) (Nat.le_of_ble_eq_true rfl) dX0_init_15 (fun q2 H hw => ?_)
  have hw : xW G (xK cI cJ cZ cO) _ s.heap s [(h, .inr (0, [.ref q1, .null, .null, .null, .null, .null, .null, .int 0])), (q1, .inl (cI, 40, .inl (fun _ => 0))), (q2, .inl (cI, 40, .inl (fun _ => 0)))] H _ := hw
  refine x_putF F hw hnm iX0 tyX0 tyX0_ok nmX0 0 rfl rfl 1 (by decide) rfl (List.mem_of_getElem? (i := 6) rfl) (rfl) (rfl) (Nat.le_of_ble_eq_true rfl) dX0_init_17 (fun H locs hw => ?_)
  have hw : xW G (xK cI cJ cZ cO) _ s.heap s [(h, .inr (0, [.ref q1, .ref q2, .null, .null, .null, .null, .null, .int 0])), (q1, .inl (cI, 40, .inl (fun _ => 0))), (q2, .inl (cI, 40, .inl (fun _ => 0)))] H _ := hw
  refine lv_aload_n F.1 F.2.1 dX0_init_20 rfl (lv_at hl 0 rfl) ?_
  refine lv_bipush (v := 40) F.1 F.2.1 dX0_init_21 (by decide) ?_
  refine x_newa F hw (t := .int) (a0 := (40, .inl (fun _ => 0))) (List.mem_of_getElem? (i := 4) rfl) rfl 0 rfl (fun _ => rfl) (by decide) (by decide) (by decide) (Nat.le_of_ble_eq_true rfl) (Nat.le_of_ble_eq_true rfl) dX0_init_23 (fun q3 H hw => ?_)
  have hw : xW G (xK cI cJ cZ cO) _ s.heap s [(h, .inr (0, [.ref q1, .ref q2, .null, .null, .null, .null, .null, .int 0])), (q1, .inl (cI, 40, .inl (fun _ => 0))), (q2, .inl (cI, 40, .inl (fun _ => 0))), (q3, .inl (cI, 40, .inl (fun _ => 0)))] H _ := hw
  refine x_putF F hw hnm iX0 tyX0 tyX0_ok nmX0 0 rfl rfl 2 (by decide) rfl (List.mem_of_getElem? (i := 7) rfl) (rfl) (rfl) (Nat.le_of_ble_eq_true rfl) dX0_init_25 (fun H locs hw => ?_)
  have hw : xW G (xK cI cJ cZ cO) _ s.heap s [(h, .inr (0, [.ref q1, .ref q2, .ref q3, .null, .null, .null, .null, .int 0])), (q1, .inl (cI, 40, .inl (fun _ => 0))), (q2, .inl (cI, 40, .inl (fun _ => 0))), (q3, .inl (cI, 40, .inl (fun _ => 0)))] H _ := hw
  refine lv_aload_n F.1 F.2.1 dX0_init_28 rfl (lv_at hl 0 rfl) ?_
  refine lv_bipush (v := 40) F.1 F.2.1 dX0_init_29 (by decide) ?_
  refine x_newa F hw (t := .long) (a0 := (40, .inr (.inl (fun _ => 0)))) (List.mem_of_getElem? (i := 8) rfl) rfl 1 rfl (fun _ => rfl) (by decide) (by decide) (by decide) (Nat.le_of_ble_eq_true rfl) (Nat.le_of_ble_eq_true rfl) dX0_init_31 (fun q4 H hw => ?_)
  have hw : xW G (xK cI cJ cZ cO) _ s.heap s [(h, .inr (0, [.ref q1, .ref q2, .ref q3, .null, .null, .null, .null, .int 0])), (q1, .inl (cI, 40, .inl (fun _ => 0))), (q2, .inl (cI, 40, .inl (fun _ => 0))), (q3, .inl (cI, 40, .inl (fun _ => 0))), (q4, .inl (cJ, 40, .inr (.inl (fun _ => 0))))] H _ := hw
  refine x_putF F hw hnm iX0 tyX0 tyX0_ok nmX0 0 rfl rfl 3 (by decide) rfl (List.mem_of_getElem? (i := 9) rfl) (rfl) (rfl) (Nat.le_of_ble_eq_true rfl) dX0_init_33 (fun H locs hw => ?_)
  have hw : xW G (xK cI cJ cZ cO) _ s.heap s [(h, .inr (0, [.ref q1, .ref q2, .ref q3, .ref q4, .null, .null, .null, .int 0])), (q1, .inl (cI, 40, .inl (fun _ => 0))), (q2, .inl (cI, 40, .inl (fun _ => 0))), (q3, .inl (cI, 40, .inl (fun _ => 0))), (q4, .inl (cJ, 40, .inr (.inl (fun _ => 0))))] H _ := hw
  refine lv_aload_n F.1 F.2.1 dX0_init_36 rfl (lv_at hl 0 rfl) ?_
  refine lv_bipush (v := 40) F.1 F.2.1 dX0_init_37 (by decide) ?_
  refine x_newa F hw (t := .long) (a0 := (40, .inr (.inl (fun _ => 0)))) (List.mem_of_getElem? (i := 8) rfl) rfl 1 rfl (fun _ => rfl) (by decide) (by decide) (by decide) (Nat.le_of_ble_eq_true rfl) (Nat.le_of_ble_eq_true rfl) dX0_init_39 (fun q5 H hw => ?_)
  have hw : xW G (xK cI cJ cZ cO) _ s.heap s [(h, .inr (0, [.ref q1, .ref q2, .ref q3, .ref q4, .null, .null, .null, .int 0])), (q1, .inl (cI, 40, .inl (fun _ => 0))), (q2, .inl (cI, 40, .inl (fun _ => 0))), (q3, .inl (cI, 40, .inl (fun _ => 0))), (q4, .inl (cJ, 40, .inr (.inl (fun _ => 0)))), (q5, .inl (cJ, 40, .inr (.inl (fun _ => 0))))] H _ := hw
  refine x_putF F hw hnm iX0 tyX0 tyX0_ok nmX0 0 rfl rfl 4 (by decide) rfl (List.mem_of_getElem? (i := 10) rfl) (rfl) (rfl) (Nat.le_of_ble_eq_true rfl) dX0_init_41 (fun H locs hw => ?_)
  have hw : xW G (xK cI cJ cZ cO) _ s.heap s [(h, .inr (0, [.ref q1, .ref q2, .ref q3, .ref q4, .ref q5, .null, .null, .int 0])), (q1, .inl (cI, 40, .inl (fun _ => 0))), (q2, .inl (cI, 40, .inl (fun _ => 0))), (q3, .inl (cI, 40, .inl (fun _ => 0))), (q4, .inl (cJ, 40, .inr (.inl (fun _ => 0)))), (q5, .inl (cJ, 40, .inr (.inl (fun _ => 0))))] H _ := hw
  refine lv_aload_n F.1 F.2.1 dX0_init_44 rfl (lv_at hl 0 rfl) ?_
  refine lv_bipush (v := 40) F.1 F.2.1 dX0_init_45 (by decide) ?_
  refine x_newa F hw (t := .long) (a0 := (40, .inr (.inl (fun _ => 0)))) (List.mem_of_getElem? (i := 8) rfl) rfl 1 rfl (fun _ => rfl) (by decide) (by decide) (by decide) (Nat.le_of_ble_eq_true rfl) (Nat.le_of_ble_eq_true rfl) dX0_init_47 (fun q6 H hw => ?_)
  have hw : xW G (xK cI cJ cZ cO) _ s.heap s [(h, .inr (0, [.ref q1, .ref q2, .ref q3, .ref q4, .ref q5, .null, .null, .int 0])), (q1, .inl (cI, 40, .inl (fun _ => 0))), (q2, .inl (cI, 40, .inl (fun _ => 0))), (q3, .inl (cI, 40, .inl (fun _ => 0))), (q4, .inl (cJ, 40, .inr (.inl (fun _ => 0)))), (q5, .inl (cJ, 40, .inr (.inl (fun _ => 0)))), (q6, .inl (cJ, 40, .inr (.inl (fun _ => 0))))] H _ := hw
  refine x_putF F hw hnm iX0 tyX0 tyX0_ok nmX0 0 rfl rfl 5 (by decide) rfl (List.mem_of_getElem? (i := 11) rfl) (rfl) (rfl) (Nat.le_of_ble_eq_true rfl) dX0_init_49 (fun H locs hw => ?_)
  have hw : xW G (xK cI cJ cZ cO) _ s.heap s [(h, .inr (0, [.ref q1, .ref q2, .ref q3, .ref q4, .ref q5, .ref q6, .null, .int 0])), (q1, .inl (cI, 40, .inl (fun _ => 0))), (q2, .inl (cI, 40, .inl (fun _ => 0))), (q3, .inl (cI, 40, .inl (fun _ => 0))), (q4, .inl (cJ, 40, .inr (.inl (fun _ => 0)))), (q5, .inl (cJ, 40, .inr (.inl (fun _ => 0)))), (q6, .inl (cJ, 40, .inr (.inl (fun _ => 0))))] H _ := hw
  refine lv_aload_n F.1 F.2.1 dX0_init_52 rfl (lv_at hl 0 rfl) ?_
  refine lv_bipush (v := 40) F.1 F.2.1 dX0_init_53 (by decide) ?_
  refine x_newa F hw (t := .int) (a0 := (40, .inl (fun _ => 0))) (List.mem_of_getElem? (i := 4) rfl) rfl 0 rfl (fun _ => rfl) (by decide) (by decide) (by decide) (Nat.le_of_ble_eq_true rfl) (Nat.le_of_ble_eq_true rfl) dX0_init_55 (fun q7 H hw => ?_)
  have hw : xW G (xK cI cJ cZ cO) _ s.heap s [(h, .inr (0, [.ref q1, .ref q2, .ref q3, .ref q4, .ref q5, .ref q6, .null, .int 0])), (q1, .inl (cI, 40, .inl (fun _ => 0))), (q2, .inl (cI, 40, .inl (fun _ => 0))), (q3, .inl (cI, 40, .inl (fun _ => 0))), (q4, .inl (cJ, 40, .inr (.inl (fun _ => 0)))), (q5, .inl (cJ, 40, .inr (.inl (fun _ => 0)))), (q6, .inl (cJ, 40, .inr (.inl (fun _ => 0)))), (q7, .inl (cI, 40, .inl (fun _ => 0)))] H _ := hw
  refine x_putF F hw hnm iX0 tyX0 tyX0_ok nmX0 0 rfl rfl 6 (by decide) rfl (List.mem_of_getElem? (i := 12) rfl) (rfl) (rfl) (Nat.le_of_ble_eq_true rfl) dX0_init_57 (fun H locs hw => ?_)
  have hw : xW G (xK cI cJ cZ cO) _ s.heap s [(h, .inr (0, [.ref q1, .ref q2, .ref q3, .ref q4, .ref q5, .ref q6, .ref q7, .int 0])), (q1, .inl (cI, 40, .inl (fun _ => 0))), (q2, .inl (cI, 40, .inl (fun _ => 0))), (q3, .inl (cI, 40, .inl (fun _ => 0))), (q4, .inl (cJ, 40, .inr (.inl (fun _ => 0)))), (q5, .inl (cJ, 40, .inr (.inl (fun _ => 0)))), (q6, .inl (cJ, 40, .inr (.inl (fun _ => 0)))), (q7, .inl (cI, 40, .inl (fun _ => 0)))] H _ := hw
  refine lv_iconst (v := 0) F.1 F.2.1 dX0_init_60 (by decide) ?_
  refine lv_istore_n (lv' := [(1, .int 0), (0, .ref h)]) F.1 F.2.1 dX0_init_61 rfl hl (by decide) rfl (fun ls hl => ?_)
  refine x_rec (α := Nat × (Nat → Int32)) (fun a9 => 40 - a9.1) (fun a9 H locs ls => lv_has ls 2 [(0, .ref h), (1, .int (nI a9.1))] ∧ xW G (xK cI cJ cZ cO) _ s.heap s [(h, .inr (0, [.ref q1, .ref q2, .ref q3, .ref q4, .ref q5, .ref q6, .ref q7, .int 0])), (q1, .inl (cI, 40, .inl a9.2)), (q2, .inl (cI, 40, .inl (fun _ => 0))), (q3, .inl (cI, 40, .inl (fun _ => 0))), (q4, .inl (cJ, 40, .inr (.inl (fun _ => 0)))), (q5, .inl (cJ, 40, .inr (.inl (fun _ => 0)))), (q6, .inl (cJ, 40, .inr (.inl (fun _ => 0)))), (q7, .inl (cI, 40, .inl (fun _ => 0)))] H locs ∧ a9.1 ≤ 40 ∧ ∀ j, j < a9.1 → a9.2 j = nI j) ?_ ((0, fun _ => 0)) ⟨lv_sub hl [1, 0] rfl, hw, Nat.zero_le _, x_upto0⟩
  rintro ⟨i, f⟩ H locs ls ⟨hl, hw, hi, hf⟩ ih
  try dsimp only at hi hf
  have hl : lv_has ls 2 [(0, .ref h), (1, .int (nI i))] := hl
  have hw : xW G (xK cI cJ cZ cO) _ s.heap s [(h, .inr (0, [.ref q1, .ref q2, .ref q3, .ref q4, .ref q5, .ref q6, .ref q7, .int 0])), (q1, .inl (cI, 40, .inl f)), (q2, .inl (cI, 40, .inl (fun _ => 0))), (q3, .inl (cI, 40, .inl (fun _ => 0))), (q4, .inl (cJ, 40, .inr (.inl (fun _ => 0)))), (q5, .inl (cJ, 40, .inr (.inl (fun _ => 0)))), (q6, .inl (cJ, 40, .inr (.inl (fun _ => 0)))), (q7, .inl (cI, 40, .inl (fun _ => 0)))] H _ := hw
  refine lv_iload_n F.1 F.2.1 dX0_init_62 rfl (lv_at hl 1 rfl) ?_
  refine lv_bipush (v := 40) F.1 F.2.1 dX0_init_63 (by decide) ?_
  refine lv_icmp_ge (tgt := 81) F.1 F.2.1 dX0_init_65 (by decide) (fun c65 => ?_) (fun c65 => ?_)
  · have h9 := x_le (a := 40) (by omega) (by omega) c65
    refine lv_aload_n F.1 F.2.1 dX0_init_81 rfl (lv_at hl 0 rfl) ?_
    refine lv_iconst (v := 0) F.1 F.2.1 dX0_init_82 (by decide) ?_
    refine x_put F hw iX0 tyX0 tyX0_ok nmX0 0 rfl rfl 7 (by decide) rfl (List.mem_of_getElem? (i := 13) rfl) (rfl) (rfl) (Nat.le_of_ble_eq_true rfl) dX0_init_83 (fun H locs hw => ?_)
    have hw : xW G (xK cI cJ cZ cO) _ s.heap s [(h, .inr (0, [.ref q1, .ref q2, .ref q3, .ref q4, .ref q5, .ref q6, .ref q7, .int 0])), (q1, .inl (cI, 40, .inl f)), (q2, .inl (cI, 40, .inl (fun _ => 0))), (q3, .inl (cI, 40, .inl (fun _ => 0))), (q4, .inl (cJ, 40, .inr (.inl (fun _ => 0)))), (q5, .inl (cJ, 40, .inr (.inl (fun _ => 0)))), (q6, .inl (cJ, 40, .inr (.inl (fun _ => 0)))), (q7, .inl (cI, 40, .inl (fun _ => 0)))] H _ := hw
    refine W.widen (k := 7) (n := 280) (by omega) (by omega) ?_
    exact x_vret (f := fun u9 : LnA × LnR => wLn cI cJ u9.1 u9.2) ((h, q1, q2, q3, q4, q5, q6, q7), (f, fun _ => 0, fun _ => 0, fun _ => 0, fun _ => 0, fun _ => 0, fun _ => 0, 0)) F hr hlk hw (⟨rfl, ⟨Nat.zero_le _, fun j hj => by show vp_in (f j) 40; rw [hf j (by omega)]; exact vp_in_nI hj (by decide), fun j k hj hk e => by have e2 : f j = f k := e; rw [hf j (by omega), hf k (by omega)] at e2; exact (nI_eq (by omega) (by omega)).mp e2⟩, rfl⟩) dX0_init_86
  · have hlt : i < 40 := x_nle (a := 40) (by omega) (by omega) c65
    refine lv_aload_n F.1 F.2.1 dX0_init_68 rfl (lv_at hl 0 rfl) ?_
    refine x_get F hw iX0 0 rfl rfl 0 (by decide) rfl (List.mem_of_getElem? (i := 5) rfl) rfl dX0_init_69 ?_
    refine lv_iload_n F.1 F.2.1 dX0_init_72 rfl (lv_at hl 1 rfl) ?_
    refine lv_iload_n F.1 F.2.1 dX0_init_73 rfl (lv_at hl 1 rfl) ?_
    refine x_iastN F hw 1 0 rfl rfl i rfl (by omega) (by decide) dX0_init_74 (fun H locs hw => ?_)
    have hw : xW G (xK cI cJ cZ cO) _ s.heap s [(h, .inr (0, [.ref q1, .ref q2, .ref q3, .ref q4, .ref q5, .ref q6, .ref q7, .int 0])), (q1, .inl (cI, 40, .inl (upd f i (nI i)))), (q2, .inl (cI, 40, .inl (fun _ => 0))), (q3, .inl (cI, 40, .inl (fun _ => 0))), (q4, .inl (cJ, 40, .inr (.inl (fun _ => 0)))), (q5, .inl (cJ, 40, .inr (.inl (fun _ => 0)))), (q6, .inl (cJ, 40, .inr (.inl (fun _ => 0)))), (q7, .inl (cI, 40, .inl (fun _ => 0)))] H _ := hw
    refine lv_iinc (v := nI (i + 1)) (lv' := [(1, .int (nI (i + 1))), (0, .ref h)]) F.1 F.2.1 dX0_init_75 hl (k := 1) rfl (by rw [show Int32.ofInt 1 = 1 from rfl]; exact nI_1 _) (by decide) rfl (fun ls hl => ?_)
    refine lv_goto (tgt := 62) F.1 F.2.1 dX0_init_78 (by decide) ?_
    exact ih ((i + 1, upd f i (nI i))) _ _ _ (by simp only []; omega) ⟨lv_sub hl [1, 0] rfl, hw, by omega, x_upto (fun j hj => (pk_un (by omega)).trans (hf j hj)) pk_us⟩
end
