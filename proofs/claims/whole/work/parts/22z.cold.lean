/-! A THROW THAT IS CAUGHT, where the classes that the table's rows name may be linked or not yet -/
/-- one row that covers the place: its class is linked, then asked -/
theorem xcrow {Q : Handler → Pre} {E : CtlPost} {e : Env} {d : Bool} {acts : List Action} {S : State} {f : JFrame} {a : Addr} {x : ExceptionTableEntry} {t : List ExceptionTableEntry} {c : ClassId} {cell : Cell} (hx : covers x f.pc = true) (h0 : x.catchType ≠ 0)
    (hl : S.vm.ClassLinks e.platform f.method.cls x.catchType c) (hcell : S.heap[a]? = some cell) (hobj : ∀ k, cell.vm ≠ .statics k) (hk : ∃ k, S.vm.classes[cell.cls]? = some k) (hc : ∃ k, S.vm.classes[c]? = some k) (b : Bool) (hb : S.vm.assignable cell.cls c = b) :
    wp (findHandler.go f a (x :: t)) Q E e d acts S ↔ (if b = true then Q (.found x.handlerPc) d acts (S.setVm (S.vm.noted f.method.cls x.catchType (.cls c))) else wp (findHandler.go f a t) Q E e d acts (S.setVm (S.vm.noted f.method.cls x.catchType (.cls c)))) := by
  have al : S.vm.Alike (S.vm.noted f.method.cls x.catchType (.cls c)) := (Vm.Alike.refl S.vm).noted _ _ _
  have hb2 : (S.vm.noted f.method.cls x.catchType (.cls c)).assignable cell.cls c = b := by rw [al.assignable]; exact hb
  have g := (resolveClass_links e.toSetting hl).op (op := VmOp.resolveClass f.method.cls x.catchType) rfl
  obtain ⟨k1, q1⟩ := hk
  obtain ⟨k2, q2⟩ := hc
  obtain ⟨k3, q3, -⟩ := al.2.2 _ _ q1
  obtain ⟨k4, q4, -⟩ := al.2.2 _ _ q2
  simp only [covers] at hx
  cases b <;> simp [findHandler.go, hx, h0, g.1, g.2, hcell, hobj, q3, q4, hb2, VmOp.dirties, VmOp.acts]
/-- a link that the start has, later -/
theorem xclink {u : State} {v : Vm} {pl : Platform} {d i c : Nat} (hW : u.WarmedH v) (hl : u.vm.ClassLinks pl d i c) : u.WarmedH (v.noted d i (.cls c)) ∧ v.ClassLinks pl d i c ∧ ∃ k, v.classes[c]? = some k := by
  obtain ⟨dk, _, _, kt, hd, _, _, _, _, hkt, _, hres⟩ := hl.here
  obtain ⟨k1, q1, -⟩ := hW.alike.2.2 _ _ hkt
  exact ⟨hW.noted hd hres (State.rightAt_cls hl), hW.classLinks hl, k1, q1⟩
/-- a row that lets a class pass -/
def xcpass (pl : Platform) (u : State) (d : ClassId) (pc : Nat) (t : ClassId) (y : ExceptionTableEntry) : Prop := covers y pc = false ∨ (y.catchType ≠ 0 ∧ ∃ c, u.vm.ClassLinks pl d y.catchType c ∧ u.vm.assignable t c = false)
/-- the search through a table -/
theorem xcsearch {e : Env} {u : State} {f : JFrame} {a : Addr} {cell : Cell} {x : ExceptionTableEntry} {suf : List ExceptionTableEntry} {c : ClassId} (hobj : ∀ k, cell.vm ≠ .statics k) (hk : ∃ k, u.vm.classes[cell.cls]? = some k) (hx : covers x f.pc = true) (h0 : x.catchType ≠ 0)
    (hl : u.vm.ClassLinks e.platform f.method.cls x.catchType c) (hfit : u.vm.assignable cell.cls c = true) : ∀ (pre : List ExceptionTableEntry) (S : State), u.WarmedH S.vm → S.heap[a]? = some cell → (∀ y ∈ pre, xcpass e.platform u f.method.cls f.pc cell.cls y) →
      ∃ v : Vm, u.WarmedH v ∧ ∀ (Q : Handler → Pre) (E : CtlPost) (d : Bool) (acts : List Action), wp (findHandler.go f a (pre ++ x :: suf)) Q E e d acts S ↔ Q (.found x.handlerPc) d acts (S.setVm v) := by
  obtain ⟨k0, q0⟩ := hk
  intro pre
  induction pre with
  | nil =>
    intro S hW hcell _
    obtain ⟨g1, g2, g3⟩ := xclink hW hl
    obtain ⟨k1, q1, -⟩ := hW.alike.2.2 _ _ q0
    refine ⟨_, g1, fun Q E d acts => ?_⟩
    have := xcrow (Q := Q) (E := E) (e := e) (d := d) (acts := acts) (t := suf) hx h0 g2 hcell hobj ⟨k1, q1⟩ g3 true (by rw [hW.alike.assignable]; exact hfit)
    rw [if_pos rfl] at this
    exact this
  | cons y r ih =>
    intro S hW hcell hp
    have hr : ∀ z ∈ r, xcpass e.platform u f.method.cls f.pc cell.cls z := fun z hz => hp z (List.mem_cons_of_mem _ hz)
    obtain ⟨k1, q1, -⟩ := hW.alike.2.2 _ _ q0
    cases hy : covers y f.pc with
    | false =>
      obtain ⟨v, hv, hw⟩ := ih S hW hcell hr
      exact ⟨v, hv, fun Q E d acts => (_root_.Jvm.W.findHandler_go_skip (t := r ++ x :: suf) hy).trans (hw Q E d acts)⟩
    | true =>
      rcases hp y List.mem_cons_self with h | ⟨hy0, c1, hl1, hn1⟩
      · rw [hy] at h; cases h
      · obtain ⟨g1, g2, g3⟩ := xclink hW hl1
        obtain ⟨v, hv, hw⟩ := ih (S.setVm (S.vm.noted f.method.cls y.catchType (.cls c1))) g1 hcell hr
        refine ⟨v, hv, fun Q E d acts => ?_⟩
        have := xcrow (Q := Q) (E := E) (e := e) (d := d) (acts := acts) (t := r ++ x :: suf) hy hy0 g2 hcell hobj ⟨k1, q1⟩ g3 false (by rw [hW.alike.assignable]; exact hn1)
        rw [if_neg (by decide)] at this
        exact this.trans (hw Q E d acts)
/-- what is thrown into a frame goes on at the handler -/
theorem xccaught {p : Program} {l : Launch} {e : Env} {R : Room} {s : State} {m : MethodId} {args : Array Value} {below : List Frame} {meth : Method} {c : Code} {T : State} {locs : List Loc} {cells slots : Nat} (X : Stand p l e R s m args below meth c T locs cells slots) (a : Addr) {g : JFrame} (hg : g.method = m)
    {cell : Cell} (hcell : T.heap[a]? = some cell) (hobj : cell.vm.isStatics = false) (hk : ∃ k, s.vm.classes[cell.cls]? = some k) (pre : List ExceptionTableEntry) (x : ExceptionTableEntry) (suf : List ExceptionTableEntry) (hsplit : c.exceptionTable.toList = pre ++ x :: suf)
    (hp : ∀ y ∈ pre, xcpass e.platform s m.cls g.pc cell.cls y) (hx : covers x g.pc = true) (h0 : x.catchType ≠ 0) {cT : ClassId} (hl : s.vm.ClassLinks e.platform m.cls x.catchType cT) (hfit : s.vm.assignable cell.cls cT = true) :
    ∃ v : Vm, Stand p l e R s m args below meth c (T.setVm v) locs cells slots ∧ Steps p.tables e below ((T.setTop g).pushFrame (.throwing a)) ((T.setVm v).setTop { g with pc := x.handlerPc, stack := [.ref a] }) := by
  subst hg
  have eh : ((T.setTop g).pushFrame (.throwing a)).heap[a]? = some cell := by rw [Stand.throwing_heap]; exact hcell
  have ew : s.WarmedH ((T.setTop g).pushFrame (.throwing a)).vm := by rw [Stand.throwing_vm]; exact X.warmed
  obtain ⟨v, hv, hw⟩ := xcsearch (e := e) (u := s) (f := g) (suf := suf) (VmData.ne_statics_of hobj) hk hx h0 hl hfit pre _ ew eh hp
  refine ⟨v, X.noted hv, ?_⟩
  have em : ((T.setTop g).pushFrame (.throwing a)).vm.method? g.method = some meth := by rw [Stand.throwing_vm]; exact X.method'
  have hfind : ∀ (Q : Handler → Pre) (E : CtlPost) (d : Bool) (acts : List Action), wp (findHandler g a) Q E e d acts ((T.setTop g).pushFrame (.throwing a)) ↔ Q (.found x.handlerPc) d acts (((T.setTop g).pushFrame (.throwing a)).setVm v) := fun Q E d acts => by
    rw [_root_.Jvm.W.findHandler_eq em X.code, hsplit]
    exact hw Q E d acts
  have hs : ∀ r : List Frame, (stepThrowing e ((T.setTop g).pushFrame (.throwing a)) a (.java g :: r)).1 = (((T.setTop g).pushFrame (.throwing a)).setVm v).setFrames (.java { g with pc := x.handlerPc, stack := [.ref a] } :: r) := fun r => by
    simp only [stepThrowing, searchFrame, vmDo]
    generalize hr : Sem.go _ e false [] ((T.setTop g).pushFrame (.throwing a)) = res
    obtain ⟨as, rfl, -⟩ := Sem.eq_ok_of hr (a := Handler.found x.handlerPc) (s' := ((T.setTop g).pushFrame (.throwing a)).setVm v) (acts' := []) (by simp [hfind _ _ _ _])
    rfl
  obtain ⟨hgo, hwi⟩ := X.here.throwing a
  refine Steps.head hgo hwi ?_
  rw [stepThread_throwing (frames_entered X.here.top _), hs]
  obtain ⟨g0, hfr⟩ := X.frames_eq
  have hfr2 : (T.setVm v).frames = .java g0 :: below := hfr
  have hc : ∀ (U : State) (F G : List Frame), ((U.setFrames F).setVm v).setFrames G = (U.setVm v).setFrames G := fun U F G => by
    show ((U.setVm v).setFrames F).setFrames G = _
    rw [State.setFrames_setFrames]
  rw [hfr, List.tail_cons, State.pushFrame, hc, State.setTop_of_frames _ hfr, hc, State.setTop_of_frames _ hfr2]
  exact Steps.refl _
