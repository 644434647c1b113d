/-! A thrown object's way down a method's own table, row by row, to the row that takes it. Rests on the library's laws of a row that is not asked (findHandler_go_skip) and of a class that links (resolveClass_links). -/
section WX
/-- down the rows: not asked, or asked and refused, and at last taken: the handler stands at h -/
def wx_Way (pl : Platform) (s : State) (d : ClassId) (n : Nat) (thr : ClassId) (h : Nat) : List ExceptionTableEntry → Prop
  | [] => False
  | y :: t => (covers y n = false ∧ wx_Way pl s d n thr h t) ∨
      (covers y n = true ∧ y.catchType ≠ 0 ∧ ∃ k, s.vm.ClassLinks pl d y.catchType k ∧ ((s.vm.assignable thr k = true ∧ y.handlerPc = h) ∨ (s.vm.assignable thr k = false ∧ wx_Way pl s d n thr h t)))
theorem wx_split {pl : Platform} {s : State} {d : ClassId} {n : Nat} {thr k : ClassId} {x : ExceptionTableEntry} {suf : List ExceptionTableEntry} (hx : covers x n = true) (h0 : x.catchType ≠ 0) (lk : s.vm.ClassLinks pl d x.catchType k) (fit : s.vm.assignable thr k = true) :
    ∀ pre : List ExceptionTableEntry, (∀ z ∈ pre, covers z n = false ∨ (z.catchType ≠ 0 ∧ ∃ k', s.vm.ClassLinks pl d z.catchType k' ∧ s.vm.assignable thr k' = false)) → wx_Way pl s d n thr x.handlerPc (pre ++ x :: suf)
  | [], _ => Or.inr ⟨hx, h0, k, lk, Or.inl ⟨fit, rfl⟩⟩
  | z :: t, hp => by
    have ih := wx_split (suf := suf) hx h0 lk fit t (fun w hw => hp w (List.mem_cons_of_mem _ hw))
    cases hz : covers z n with
    | false => exact Or.inl ⟨hz, ih⟩
    | true =>
      rcases hp z List.mem_cons_self with q | ⟨q1, k', q2, q3⟩
      · rw [hz] at q; cases q
      · exact Or.inr ⟨hz, q1, k', q2, Or.inr ⟨q3, ih⟩⟩
/-- one row is asked: its class comes to be linked, and then it takes the object or doesn't -/
theorem wx_ask {e : Env} {s S : State} {f : JFrame} {a : Addr} {o : Cell} {y : ExceptionTableEntry} {k : ClassId} (hW : s.WarmedH S.vm) (ho : S.heap[a]? = some o) (hn : ∀ z, o.vm ≠ .statics z) (hko : ∃ z, s.vm.classes[o.cls]? = some z)
    (c0 : covers y f.pc = true) (c1 : y.catchType ≠ 0) (lk : s.vm.ClassLinks e.platform f.method.cls y.catchType k) :
    ∃ v, s.WarmedH v ∧ ∀ (t : List ExceptionTableEntry) (Q : Handler → Pre) (E : CtlPost) (b : Bool) (w : List Action),
      (s.vm.assignable o.cls k = true → Q (.found y.handlerPc) b w (S.setVm v)) → (s.vm.assignable o.cls k = false → wp (findHandler.go f a t) Q E e b w (S.setVm v)) → wp (findHandler.go f a (y :: t)) Q E e b w S := by
  obtain ⟨_, _, _, _, w1, _, _, _, _, w2, _, w3⟩ := lk.here
  have hv := hW.noted w1 w3 (State.rightAt_cls lk)
  obtain ⟨z, hz⟩ := hko
  obtain ⟨_, u1, -⟩ := hv.alike.2.2 _ _ hz
  obtain ⟨_, u2, -⟩ := hv.alike.2.2 _ _ w2
  have u3 := fun p q => congrFun (congrFun (funext fun p => funext fun q => hv.alike.assignable p q) p) q
  have r := (resolveClass_links e.toSetting (hW.classLinks lk)).op (op := .resolveClass f.method.cls y.catchType) rfl
  refine ⟨_, hv, fun t Q E b w yes no => ?_⟩
  simp only [covers] at c0
  have u4 := u3 o.cls k
  cases hb : s.vm.assignable o.cls k with
  | true =>
    have q := yes hb
    rw [hb] at u4
    simp [findHandler.go, c0, c1, r.1, r.2, ho, hn, u1, u2, u4, VmOp.dirties, VmOp.acts, q]
  | false =>
    have q := no hb
    rw [hb] at u4
    simp [findHandler.go, c0, c1, r.1, r.2, ho, hn, u1, u2, u4, VmOp.dirties, VmOp.acts, q]
/-- the search ends at h -/
theorem wx_walk {e : Env} {s : State} {f : JFrame} {a : Addr} {o : Cell} {h : Nat} (hn : ∀ z, o.vm ≠ .statics z) (hko : ∃ z, s.vm.classes[o.cls]? = some z) :
    ∀ (t : List ExceptionTableEntry) (S : State), s.WarmedH S.vm → S.heap[a]? = some o → wx_Way e.platform s f.method.cls f.pc o.cls h t →
      ∃ v, s.WarmedH v ∧ ∀ (Q : Handler → Pre) (E : CtlPost) (b : Bool) (w : List Action), Q (.found h) b w (S.setVm v) → wp (findHandler.go f a t) Q E e b w S
  | [], _, _, _, way => way.elim
  | y :: t, S, hW, ho, way => by
    rcases way with ⟨c0, way⟩ | ⟨c0, c1, k, lk, way⟩
    · obtain ⟨v, hv, go⟩ := wx_walk hn hko t S hW ho way
      exact ⟨v, hv, fun Q E b w q => (W.findHandler_go_skip c0).mpr (go Q E b w q)⟩
    · obtain ⟨v, hv, ask⟩ := wx_ask hW ho hn hko c0 c1 lk
      rcases way with ⟨yes, he⟩ | ⟨no, way⟩
      · exact ⟨v, hv, fun Q E b w q => ask t Q E b w (fun _ => by rw [he]; exact q) (fun z => by rw [yes] at z; cases z)⟩
      · obtain ⟨v2, hv2, go⟩ := wx_walk hn hko t (S.setVm v) hv ho way
        exact ⟨v2, hv2, fun Q E b w q => ask t Q E b w (fun z => by rw [no] at z; cases z) (fun _ => go Q E b w q)⟩
/-- from the note 'a is thrown' into the handler -/
theorem wx_into {tb : Tables} {e : Env} {S : State} {g : JFrame} {c : Code} {below : List Frame} {a : Addr} {h : Nat} {v : Vm} (hA : At S g.method c below)
    (go : ∀ (Q : Handler → Pre) (E : CtlPost) (b : Bool) (w : List Action), Q (.found h) b w (((S.setTop g).pushFrame (.throwing a)).setVm v) → wp (findHandler g a) Q E e b w ((S.setTop g).pushFrame (.throwing a))) :
    Steps tb e below ((S.setTop g).pushFrame (.throwing a)) ((S.setVm v).setTop { g with pc := h, stack := [.ref a] }) := by
  have one : ∀ r : List Frame, (stepThrowing e ((S.setTop g).pushFrame (.throwing a)) a (.java g :: r)).1 = (((S.setTop g).pushFrame (.throwing a)).setVm v).setFrames (.java { g with pc := h, stack := [.ref a] } :: r) := by
    intro r
    unfold stepThrowing searchFrame vmDo
    dsimp only
    generalize hq : Sem.go _ e false [] ((S.setTop g).pushFrame (.throwing a)) = res
    obtain ⟨_, rfl, -⟩ := Sem.eq_ok_of hq (a := .found h) (s' := ((S.setTop g).pushFrame (.throwing a)).setVm v) (acts' := []) (by
      simp
      exact go _ _ _ _ (by simp))
    rfl
  obtain ⟨on, inn⟩ := hA.throwing a
  refine Steps.head on inn ?_
  rw [stepThread_throwing (frames_entered hA.top _), one]
  obtain ⟨g0, hg0⟩ := Option.isSome_iff_exists.mp hA.top
  obtain ⟨r, hr⟩ := State.topJava?_eq_some.mp hg0
  have e1 : (S.setVm v).setTop { g with pc := h, stack := [.ref a] } = (S.setVm v).setFrames (.java { g with pc := h, stack := [.ref a] } :: r) := State.setTop_of_frames _ hr
  have e2 : (S.setTop g).pushFrame (.throwing a) = S.setFrames (.throwing a :: (S.setTop g).frames) := by
    rw [State.pushFrame, State.setTop_of_frames _ hr, State.setFrames_setFrames]
  rw [e1, e2, hr]
  exact (State.setFrames_setFrames (S.setVm v) _ _).symm ▸ Steps.refl _
theorem wx_caught {p : Program} {l : Launch} {e : Env} {R : Room} {s : State} {m : MethodId} {args : Array Value} {below : List Frame} {meth : Method} {c : Code} {T : State} {locs : List Loc} {cells slots : Nat}
    (X : Stand p l e R s m args below meth c T locs cells slots) (a : Addr) {g : JFrame} (hg : g.method = m) {o : Cell} (ho : T.heap[a]? = some o) (hn : ∀ z, o.vm ≠ .statics z) (hko : ∃ z, s.vm.classes[o.cls]? = some z)
    {h : Nat} (way : wx_Way e.platform s m.cls g.pc o.cls h c.exceptionTable.toList) :
    ∃ v, Stand p l e R s m args below meth c (T.setVm v) locs cells slots ∧ Steps p.tables e below ((T.setTop g).pushFrame (.throwing a)) ((T.setVm v).setTop { g with pc := h, stack := [.ref a] }) := by
  subst hg
  obtain ⟨v, hv, go⟩ := wx_walk (e := e) (f := g) (a := a) hn hko c.exceptionTable.toList ((T.setTop g).pushFrame (.throwing a)) X.warmed ho way
  exact ⟨v, X.noted hv, wx_into X.here (fun Q E b w q => (W.findHandler_eq (s := (T.setTop g).pushFrame (.throwing a)) (meth := meth) X.method' X.code).mpr (go Q E b w q))⟩
end WX
