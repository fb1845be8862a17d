/-- the names of what is thrown -/
def xen : Nat → String
  | 0 => "java/lang/IllegalStateException"
  | 1 => "java/lang/IllegalArgumentException"
  | 2 => "java/lang/UnsupportedOperationException"
  | _ => "java/lang/IndexOutOfBoundsException"
abbrev xnms : List String := ["java/lang/RuntimeException", "java/lang/Exception"]
theorem xkept {s U : State} {k n : Nat} (h : s.sameButNew ({ U with vm := s.vm } : State) [] k n) : s.heap.size ≤ U.heap.size ∧ ∀ q : Nat, q < s.heap.size → U.heap[q]? = s.heap[q]? := by
  obtain ⟨-, h2, -, -, -, h6⟩ := h
  refine ⟨h2, fun q hq => ?_⟩
  obtain ⟨c9, e1, e2, -, e4⟩ := h6 q _ (Array.getElem?_eq_getElem hq)
  have hs : c9.slots = (s.heap[q]).slots := Array.ext_getElem? fun i => e4 i (fun z => by cases z)
  have e1 : U.heap[q]? = some c9 := e1
  rw [e1, Array.getElem?_eq_getElem hq, e2, hs]
section XTH
variable {p : Program} {l : Launch} {e : Env} {R : Room} {s : State} {m : MethodId} {args : Array Value} {below : List Frame} {meth : Method} {c : Code} {Q : State → Prop}
variable {cc : ByteArray} {pc : Nat} {ls : Array Slot} {rest : List Value}
theorem xd_throw (hexec : p.tables.exec = Jvm.exec) (hb : c.code = cc) (hlt : l.stackTraces = false) (hlocks : meth.locks = false) (hnoh : ∀ x ∈ c.exceptionTable.toList, False) {own cls : String} {names : List String} {ik ic : Nat} (hown : s.vm.findClass own = some m.cls) (hcls : Bundle.fit cls = true) (hnames : ∀ n ∈ names, Bundle.fit n = true) (hk : (Cond.classLink own ik cls).before args s = true) (hinst : (Cond.instantiable cls 6).before args s = true) (hini : (Cond.initialized cls).before args s = true) (hat : ∀ w ∈ Bundle.ownAtoms0 own ic cls names, w.before args s = true) (hsize : ls.size = c.maxLocals)
    (d0 : decode cc pc = .ok (.new ik, 3)) (d3 : decode cc (pc + 3) = .ok (.dup, 1)) (d4 : decode cc (pc + 4) = .ok (.invokespecial ic, 3)) (d7 : decode cc (pc + 7) = .ok (.athrow, 1)) (hRf : names.length + 3 < R.frames) (hRl : (rest.map fun v => v.category).sum + (13 * (names.length + 1) + 42) ≤ R.locals) (hRc : 1 ≤ R.cells) (hRs : 6 ≤ R.slots)
    (hq : ∀ (t : State) (q : Addr) (ce : Cell), t.status = .running → Ended t below (.threw q) → t.heap[q]? = some ce → ce.vm = .none → s.vm.findClass cls = some ce.cls → s.WarmedH t.vm → s.sameButNew ({ t with vm := s.vm } : State) [] 1 6 → Q t) :
    W p l e R s m args below meth c s.heap [] 0 0 Q (F0 m pc ls rest) := by
  obtain ⟨cX, kX, hfc, hkX, -, -⟩ := Cond.instantiable_spec hinst
  refine W.newcK hexec hb hown hk hinst hini rfl d0 (by omega) (by omega) hfc rfl fun H1 kC hkC e1 z1 o1 => ?_
  refine lv_dup (pc := pc + 3) hexec hb d3 rfl ?_
  intro T hT X
  have htr : e.platform.stackTraces = false := (show e.platform.stackTraces = l.stackTraces by rw [X.admits.platform]).trans hlt
  obtain ⟨U, st, hrun, hend, hW, hsame, ce, hce, hoc⟩ := X.ctorThrow0 (a := s.heap.size) (rest := rest) hexec htr hown hcls hnames hat (fun x hx => by cases hx) hfc hkC (by rw [hT]; exact e1) (Nat.le_refl _) (g := F0 m (pc + 4) ls (.ref s.heap.size :: .ref s.heap.size :: rest)) rfl hsize rfl rfl rfl (by rw [hb]; exact d4) (by rw [hb]; exact d7) (fun x hx => (hnoh x hx).elim) hRf (by show 2 * 0 + (1 + (rest.map fun v => v.category).sum) + _ ≤ _; omega) hlocks
  exact ⟨U, st, hq U s.heap.size ce hrun hend hce hoc.vm hoc.cls hW hsame⟩
end XTH
section XCX
variable (tb : List Cond) (cl : List vw_C) (ft : Nat → Nat → FieldType) (dA : Nat → ClassId) (D : va_G) (tys : List (ClassId × FieldType)) (sT : String × String × String) (A : Nat → Prop) (X : xX)
/-- a start where something may be thrown -/
def xPcX (as : List xV) (h : xH) (E : xPhi) : Array Value → State → Prop := fun a U => xPc tb cl ft dA D tys sT A X as h E a U ∧ xTx tb A U U.heap
/-- an end by a throw: nothing that was there has changed -/
def xQx (k : Nat) (h h' : xH) (E : xPhi) (mc ms : Nat) : Array Value → State → Outcome → State → Prop := fun _ st o t => ∃ (q : Addr) (ce : Cell), o = .threw q ∧ t.heap[q]? = some ce ∧ ce.vm = .none ∧ st.vm.findClass (xen k) = some ce.cls ∧ st.WarmedH t.vm ∧ st.sameButNew ({ t with vm := st.vm } : State) [] mc ms ∧ xPt cl ft dA D E h' t.heap ∧ xWf A E h' ∧ xle h h' ∧ xN h' = xN h
def xConX (l : Launch) (it : xMi) (as : List xV) (h : xH) (k : Nat) (h' : xH) : Prop := ∀ E : xPhi, xWf A E h → (∀ w ∈ as, xwt h w) → MetFree l it.1 (headSpec (.code it.1 it.2.1 it.2.2.1 it.2.2.2.1 :: tb.filter goodWord) { frames := it.2.2.2.2.1, cells := xQ h' - xQ h, slots := xZ h' - xZ h, locals := it.2.2.2.2.2.1 }) (xPcX tb cl ft dA D tys sT A X as h E) (fun _ _ _ _ _ => True) (xQx cl ft dA D A k h h' E (xQ h' - xQ h) (xZ h' - xZ h))
end XCX
/-- a throwing row's own check: the four instructions, their words -/
def xthr (tb : List Cond) (me : xMi) (pc : Nat) (q : xT) : Bool := match q.1 with
  | .new ik => decide (2000 ≤ q.2.2.1) && (decide (q.2.2.2.1 = 6) && (match decode me.2.1 (pc + 4) with
    | .ok (.invokespecial ic, 3) => decide (decode me.2.1 (pc + 3) = .ok (.dup, 1)) && (decide (decode me.2.1 (pc + 7) = .ok (.athrow, 1)) && (xthB tb me.1.cls (xen (q.2.2.1 - 2000)) ic xnms && (decide (q.2.1 = 3) && (xhas tb (xcp q.2.2.2.2) (.classLink me.1.cls ik (xen (q.2.2.1 - 2000))) && (decide (Cond.instantiable (xen (q.2.2.1 - 2000)) 6 ∈ tb) && decide (Cond.initialized (xen (q.2.2.1 - 2000)) ∈ tb))))))
    | _ => false))
  | _ => true
theorem xen_fit : ∀ k, Bundle.fit (xen k) = true := fun k => match k with
  | 0 => by decide
  | 1 => by decide
  | 2 => by decide
  | _ + 3 => show Bundle.fit "java/lang/IndexOutOfBoundsException" = true by decide
theorem xnms_fit : ∀ n ∈ xnms, Bundle.fit n = true := by decide
