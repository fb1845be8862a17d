theorem xPcX_blind (tb : List Cond) (cl : List vw_C) (ft : Nat → Nat → FieldType) (dA : Nat → ClassId) (D : va_G) (tys : List (ClassId × FieldType)) (sT : String × String × String) (A : Nat → Prop) (X : xX) (as : List xV) (h : xH) (E : xPhi) : FrameBlind (xPcX tb cl ft dA D tys sT A X as h E) := by
  intro a U g mk q
  exact ⟨xPc_blind tb cl ft dA D tys sT A X as h E a U g mk q.1, xTx.same (s := U) (U := U.calling g mk a) (show U.vm = (U.calling g mk a).vm from rfl) q.2⟩
/-- the kinds of what is thrown are apart -/
def xNa (U : State) : Prop := ∀ i j, i < 4 → j < 4 → i ≠ j → va_Nc (xen i) (xen j) U
section XCG
variable {p : Program} {l : Launch} {e : Env} {R : Room} {s : State} {m : MethodId} {args : Array Value} {below : List Frame} {meth : Method} {c : Code} {H : Heap} {locs : List Loc} {cells slots : Nat} {Q : State → Prop}
variable {cc : ByteArray} {pc : Nat} {ls : Array Slot} {D : va_G} {cl : List vw_C} {ft : Nat → Nat → FieldType} {dA : Nat → ClassId} {tys : List (ClassId × FieldType)} {sT : String × String × String} {A : Nat → Prop} {X : xX} {E : xPhi} {h h1 : xH} {rest : List xV} {L : xL} {nL idx k : Nat} {tb : List Cond} {own host : String} {it : xMi}
set_option maxHeartbeats 4000000 in
/-- a call with a receiver: the callee threw, and a handler of this method's takes it -/
theorem xs_callX (hexec : p.tables.exec = Jvm.exec) (hb : c.code = cc) (hml : c.maxLocals = nL) (hown : s.vm.findClass own = some m.cls) (hts : ∀ w ∈ tb, goodWord w = true → w.before args s = true) (hK : xKx tb D cl tys s) (hX : xHx sT A E X s s.heap) (hT0 : xTx tb A s s.heap) (hNa : xNa s) (hA : ∀ q, s.heap.size ≤ q → A q) (hok : xMok tb it) (hk0 : it.2.2.2.2.2.2.1 = 2) (hfr : it.2.2.2.2.1 + 1 ≤ R.frames) (hlo : 8 + (it.2.2.1 + 11) + it.2.2.2.2.2.1 ≤ R.locals)
    (hlk : (Cond.methodLink own idx it.1).before args s = true) (hS : va_S A s.heap H locs) (hP : xPt cl ft dA D E h H) (hW : xWf A E h) (hl : lv_has ls nL (xtL E L)) {as : List xV} {k0 q0 : Nat} {r : vw_C} (h40 : k0 < 40) (hc : cl[k0]? = some r) (hrc : r.1 = it.1.cls) (hna : as.length = it.2.2.2.2.2.2.2) (hw : xwts h L (as.reverse ++ vr k0 q0 :: rest)) (hwd : xwd rest ≤ 8) (hcon : xConX tb cl ft dA D tys sT A X l it (vr k0 q0 :: as) h k h1) (hk4 : k < 4) (hcl : cells + (xQ h1 - xQ h) ≤ R.cells) (hsl : slots + (xZ h1 - xZ h) ≤ R.slots) (hdg : decode cc pc = .ok (.invokevirtual idx, 3))
    (pre : List ExceptionTableEntry) (x : ExceptionTableEntry) (suf : List ExceptionTableEntry) (hsplit : c.exceptionTable.toList = pre ++ x :: suf) (hpre : ∀ z ∈ pre, covers z pc = false ∨ (z.catchType ≠ 0 ∧ ∃ j, j < 4 ∧ j ≠ k ∧ (Cond.classLink own z.catchType (xen j)).before args s = true)) (hcov : covers x pc = true) (hx0 : x.catchType ≠ 0) (hxl : (Cond.classLink own x.catchType (xen k)).before args s = true) (hxc : (Cond.castable (xen k) (xen k)).before args s = true)
    (kk : ∀ (H1 : Heap) (locs1 : List Loc) (q : Nat), xPt cl ft dA D E h1 H1 → xWf A E h1 → va_S A s.heap H1 locs1 → W p l e R s m args below meth c H1 locs1 (cells + (xQ h1 - xQ h)) (slots + (xZ h1 - xZ h)) Q (F0 m x.handlerPc ls [.ref q])) : W p l e R s m args below meth c H locs cells slots Q (F0 m pc ls ((as.reverse ++ vr k0 q0 :: rest).map (xtr E))) := by
  have hM := hcon E hW (fun w g => by
    rcases List.mem_cons.mp g with rfl | g
    · exact hw.2 _ (List.mem_append_right _ List.mem_cons_self)
    · exact hw.2 w (List.mem_append_left _ (List.mem_reverse.mpr g)))
  have hst : (as.reverse ++ vr k0 q0 :: rest).map (xtr E) = (as.map (xtr E)).reverse ++ .ref (xad E k0 q0) :: rest.map (xtr E) := by
    rw [List.map_append, List.map_reverse]
    rfl
  rw [hst]
  have hwq := xwt_in (hw.2 _ (List.mem_append_right _ List.mem_cons_self)) (Or.inl (by omega))
  obtain ⟨cellB, hcB, hoB, hclB⟩ : ∃ cell : Cell, H[xad E k0 q0]? = some cell ∧ cell.vm.isStatics = false ∧ s.vm.findClass r.1 = some cell.cls := by
    rw [xad_in E q0 (Or.inl (by omega))]
    exact va_recv hK.1 (xPt_one hP hwq.2 (xcell_o hwq.1 h40)) hc (q0 := 0) rfl
  rw [hrc] at hclB
  obtain ⟨w1, w2, hy, -, h5, -, -, w8⟩ := id hok
  obtain ⟨w81, w82⟩ := w8 hk0
  have hcode := hts _ w1 rfl
  have hini := hts _ w2 rfl
  have hinst := hts _ w81 rfl
  have hsel := hts _ w82 rfl
  obtain ⟨hcb1, hcb2, hcb3, hcb4, hws, -⟩ := xCallB (R := R) (own := own) (idx := idx) (mc := xQ h1 - xQ h) (ms := xZ h1 - xZ h) hts hok hfr hlo hlk
  intro T hT X1
  obtain ⟨mk, methM, hnamed, hmethM, hstM, habM⟩ := Cond.instanceMethod_spec hinst
  obtain ⟨methM', cM, hmethM', -, -, -, -, -, -, hsigM⟩ := Cond.code_spec hnamed hcode
  cases hmethM.symm.trans hmethM'
  obtain ⟨c2, r2, m2, q1, q2, q3, q4, kP, hkP, hkPi⟩ := Cond.selects_spec hsel
  cases hclB.symm.trans q1
  cases (State.methodFound?_of_named hnamed hy).symm.trans q2
  cases hnamed.symm.trans q3
  have hselP : selectMethod e.platform s.vm cellB.cls mk = .method mk := by rw [Launch.admits_selectMethod X1.admits]; exact q4
  obtain ⟨vm₁, X₁, hstep₁⟩ := X1.invokevirtual hexec hown hlk hnamed hmethM hstM hkP hkPi hy (a := xad E k0 q0) (cell := cellB) (by rw [hT]; exact hcB)
    (fun z h => by rw [h] at hoB; cases hoB) hselP hmethM habM hkP hkPi (g := F0 m pc ls ((as.map (xtr E)).reverse ++ .ref (xad E k0 q0) :: rest.map (xtr E))) rfl (argsL := as.map (xtr E)) (rest := rest.map (xtr E)) (by
      rw [List.length_map, hna]
      have h6 := h5
      rw [hsigM] at h6
      exact (Option.some.inj h6).symm) rfl (by rw [hb]; exact hdg)
  have hPc : xPcX tb cl ft dA D tys sT A X (vr k0 q0 :: as) h E (Value.ref (xad E k0 q0) :: as.map (xtr E)).toArray (T.setVm vm₁) :=
    ⟨xPc_at (vr k0 q0 :: as) hK hX hS hP hA (T.setVm vm₁) hT X₁.warmed, hT0.warm X₁.warmed (fun a g1 g2 => by show T.heap[a]? = _; rw [hT]; exact hS.2.1 a g1 g2)⟩
  have hAt : At (T.setVm vm₁) (F0 m pc ls (rest.map (xtr E))).method c below := X₁.here
  obtain ⟨methY, cY, hmY, hcY, -, hlY, -, -, -, -⟩ := Cond.code_spec (X₁.named hnamed) (hws _ List.mem_cons_self (Value.ref (xad E k0 q0) :: as.map (xtr E)).toArray (T.setVm vm₁) X₁.warmed)
  obtain ⟨kY, hkY, -⟩ := className_of_methodNamed (X₁.named hnamed)
  have hinitY : kY.init = .initialized := Cond.initialized_spec (findClass_of_methodNamed (X₁.named hnamed)) hkY (word_at (a' := #[]) X₁.warmed (Or.inl (by first | rfl | simp [Cond.onTables, Cond.keeps, Cond.steady])) hini)
  have happ := Spec.appliesLoose_calling (S := headSpec (.code it.1 it.2.1 it.2.2.1 it.2.2.2.1 :: tb.filter goodWord) { frames := it.2.2.2.2.1, cells := xQ h1 - xQ h, slots := xZ h1 - xZ h, locals := it.2.2.2.2.2.1 }) (args := (Value.ref (xad E k0 q0) :: as.map (xtr E)).toArray) (e := e) (g := F0 m pc ls (rest.map (xtr E))) hAt (by rw [hb]; exact hdg) (X₁.named hnamed) hkY hinitY
    (X₁.room_calling (g := F0 m pc ls (rest.map (xtr E))) (R' := { frames := it.2.2.2.2.1, cells := xQ h1 - xQ h, slots := xZ h1 - xZ h, locals := it.2.2.2.2.2.1 }) (by rw [hml]; exact hl.1) hmY hcY hfr (by show 2 * 0 + _ + _ + it.2.2.2.2.2.1 ≤ R.locals; rw [xwd_sum, hlY]; omega) hcl hsl) (atoms_intro fun w hw => hws w hw _ _ X₁.warmed)
  obtain ⟨mid, hmid⟩ := hAt.above
  have hfr9 : ((T.setVm vm₁).setTop (F0 m pc ls (rest.map (xtr E)))).frames = (.java (F0 m pc ls (rest.map (xtr E))) :: mid) ++ below := by rw [State.frames_setTop' _ hAt.top, hmid]; rfl
  obtain ⟨o, s₂, hsteps, -, hend, hq⟩ := Steps.callFree hM p X₁.admits X₁.cas X₁.clock (acts := []) hfr9 happ (xPcX_blind tb cl ft dA D tys sT A X (vr k0 q0 :: as) h E _ _ (F0 m pc ls (rest.map (xtr E))) mk hPc) trivial
  obtain ⟨q, ce, rfl, hce, hcv, hclE, hWm, hsame, hP1, hW1, hle1, hn1⟩ := hq
  rw [State.frames_setTop' _ hAt.top, X₁.tail] at hend
  obtain ⟨T', X', hW', hB, ht⟩ := X₁.outOfThrown (g := F0 m pc ls (rest.map (xtr E))) rfl hend hWm hsame
  have hheap : s₂.heap = T'.heap := by rw [ht, Stand.throwing_heap]
  rw [hheap] at hce hP1
  have hclE2 : s.vm.findClass (xen k) = some ce.cls := by
    have g1 : (T.setVm vm₁).vm.findClass (xen k) = some ce.cls := hclE
    rw [X₁.warmed.alike.findClass] at g1
    exact g1
  have hpl : e.platform.magicAccessors = ({} : Platform).magicAccessors := by rw [X1.admits.platform]
  obtain ⟨c3, c4, hc3, hc4, hasg⟩ := Cond.castable_spec hxc
  cases Option.some.inj (hc3.symm.trans hclE2)
  obtain ⟨c5, hc5, hcl5⟩ := Cond.classLink_spec hown hxl e.platform hpl
  cases Option.some.inj (hc4.symm.trans hc5)
  obtain ⟨vm', X'', st⟩ := xccaught X' q (g := F0 m pc ls (rest.map (xtr E))) rfl hce (by rw [hcv]; rfl) (by obtain ⟨k9, h9, -⟩ := Vm.findClass_spec hclE2; exact ⟨k9, h9⟩) pre x suf hsplit
    (fun z hz => by
      rcases hpre z hz with g | ⟨hz0, j, hj4, hjk, hl1⟩
      · exact Or.inl g
      · obtain ⟨c6, hc6, hcl6⟩ := Cond.classLink_spec hown hl1 e.platform hpl
        obtain ⟨a8, b8, g1, g2, g3⟩ := hNa k j hk4 hj4 (Ne.symm hjk)
        cases Option.some.inj (g1.symm.trans hclE2)
        cases Option.some.inj (g2.symm.trans hc6)
        exact Or.inr ⟨hz0, _, hcl6, g3⟩) hcov hx0 hcl5 hasg
  obtain ⟨z1, z2⟩ := xkept hsame
  have hS1 : va_S A s.heap T'.heap (locs ++ []) := by
    have z1 : T.heap.size ≤ s₂.heap.size := z1
    have z2 : ∀ q : Nat, q < T.heap.size → s₂.heap[q]? = T.heap[q]? := z2
    rw [hheap, hT] at z1
    refine ⟨Nat.le_trans hS.1 z1, fun a g1 g2 => ?_, fun y hy => ?_⟩
    · have g3 : a < T.heap.size := by rw [hT]; exact Nat.lt_of_lt_of_le g1 hS.1
      rw [← hheap, z2 a g3, hT]
      exact hS.2.1 a g1 g2
    · rw [List.append_nil] at hy
      exact hS.2.2 y hy
  obtain ⟨t9, a1, b1⟩ := kk T'.heap (locs ++ []) q hP1 hW1 hS1 (T'.setVm vm') rfl X''
  refine ⟨t9, hstep₁ _ fun acts => ?_, b1⟩
  rw [doInvoke_state]
  refine hsteps.trans ?_
  rw [ht]
  exact st.trans a1
end XCG
