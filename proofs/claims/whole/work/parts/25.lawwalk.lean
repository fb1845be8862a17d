/-- a row's check, for fewer methods -/
theorem xok2_fewer {cl : List vw_C} {ft : Nat → Nat → FieldType} {tb : List Cond} {host : String} {sT : String × String × String} {MI : Nat → xMi} {NM NM2 y : Nat} {i : Instr} {len a b : Nat} {v : xV} (h : xok2 cl ft tb host sT MI NM y i len a b v = true) (ha : a < NM2) : xok2 cl ft tb host sT MI NM2 y i len a b v = true := by
  have hd : decide (a < NM2) = true := decide_eq_true ha
  cases i with
  | invokestatic idx =>
    simp only [xok2] at h ⊢
    cases hb : Nat.ble 1000 a with
    | true => rw [hb] at h; exact h
    | false =>
      rw [hb] at h
      simp only [cond_false, Bool.and_eq_true] at h ⊢
      exact ⟨h.1, hd, h.2.2⟩
  | invokevirtual idx =>
    simp only [xok2, Bool.and_eq_true] at h ⊢
    exact ⟨h.1, hd, h.2.2⟩
  | invokespecial idx =>
    simp only [xok2] at h ⊢
    cases hb : Nat.beq a 999 with
    | true => rw [hb] at h; exact h
    | false =>
      rw [hb] at h
      simp only [cond_false, Bool.and_eq_true] at h ⊢
      exact ⟨h.1, hd, h.2.2⟩
  | _ => exact h
theorem xok2_lib {cl : List vw_C} {ft : Nat → Nat → FieldType} {tb : List Cond} {host : String} {sT : String × String × String} {MI : Nat → xMi} {NM NM2 y : Nat} {i : Instr} {len a b : Nat} {v : xV} (h : xok2 cl ft tb host sT MI NM y i len a b v = true) (hi : ∀ idx, i ≠ .invokestatic idx ∧ i ≠ .invokevirtual idx ∧ i ≠ .invokespecial idx) : xok2 cl ft tb host sT MI NM2 y i len a b v = true := by
  cases i with
  | invokestatic idx => exact absurd rfl (hi idx).1
  | invokevirtual idx => exact absurd rfl (hi idx).2.1
  | invokespecial idx => exact absurd rfl (hi idx).2.2
  | _ => exact h
/-- what the words say of a static method with handlers -/
def xMokW (tb : List Cond) (it : xMi) (hh : List (Nat × Nat × Nat × Nat)) : Prop := Cond.codeWith it.1 it.2.1 it.2.2.1 it.2.2.2.1 hh ∈ tb ∧ Cond.initialized it.1.cls ∈ tb ∧ (it.1.cls ≠ "java/lang/invoke/MethodHandle" ∧ it.1.cls ≠ "java/lang/invoke/VarHandle") ∧ (parseMethodDescriptor it.1.desc).map (fun d => d.parameters.length) = some it.2.2.2.2.2.2.2 ∧ Cond.static it.1 ∈ tb
section XLW
variable {p : Program} {l : Launch} {e : Env} {R : Room} {s : State} {m : MethodId} {args : Array Value} {below : List Frame} {meth : Method} {c : Code} {H : Heap} {locs : List Loc} {cells slots : Nat} {Q : State → Prop}
variable {cc : ByteArray} {pc : Nat} {ls : Array Slot} {D : va_G} {cl : List vw_C} {ft : Nat → Nat → FieldType} {dA : Nat → ClassId} {tys : List (ClassId × FieldType)} {sT : String × String × String} {A : Nat → Prop} {X : xX} {E : xPhi} {h h1 : xH} {rest : List xV} {v : Option xV} {L : xL} {nL idx : Nat} {tb : List Cond} {own : String} {it : xMi} {hh : List (Nat × Nat × Nat × Nat)}
set_option maxHeartbeats 4000000 in
/-- a call of a static method with handlers -/
theorem xs_callW (hexec : p.tables.exec = Jvm.exec) (hb : c.code = cc) (hml : c.maxLocals = nL) (hown : s.vm.findClass own = some m.cls) (hts : ∀ w ∈ tb, goodWord w = true → w.before args s = true) (hK : xKx tb D cl tys s) (hX : xHx sT A E X s s.heap) (hT0 : xTx tb A s s.heap) (hNa : xNa s) (hA : ∀ q, s.heap.size ≤ q → A q) (hok : xMokW tb it hh) (hfr : it.2.2.2.2.1 + 1 ≤ R.frames) (hlo : 8 + (it.2.2.1 + 11) + it.2.2.2.2.2.1 ≤ R.locals)
    (hlk : (Cond.methodLink own idx it.1).before args s = true) (hS : va_S A s.heap H locs) (hP : xPt cl ft dA D E h H) (hW : xWf A E h) (hl : lv_has ls nL (xtL E L)) (hle : xle h h1) {as : List xV} (hna : as.length = it.2.2.2.2.2.2.2) (hw : xwts h L (as.reverse ++ rest)) (hwd : xwd rest ≤ 8) (hcon : xConW tb cl ft dA D tys sT A X l it hh as h v h1) (hcl : cells + (xQ h1 - xQ h) ≤ R.cells) (hsl : slots + (xZ h1 - xZ h) ≤ R.slots) (hdg : decode cc pc = .ok (.invokestatic idx, 3))
    (kk : ∀ (E1 : xPhi) (H1 : Heap) (locs1 : List Loc), (∀ a, a < xN h → E1.1 a = E.1 a) → E1.2 = E.2 → xPt cl ft dA D E1 h1 H1 → xWf A E1 h1 → va_S A s.heap H1 locs1 → lv_has ls nL (xtL E1 L) → xwts h1 L (v.toList ++ rest) → W p l e R s m args below meth c H1 locs1 (cells + (xQ h1 - xQ h)) (slots + (xZ h1 - xZ h)) Q (F0 m (pc + 3) ls ((v.toList ++ rest).map (xtr E1)))) : W p l e R s m args below meth c H locs cells slots Q (F0 m pc ls ((as.reverse ++ rest).map (xtr E))) := by
  have hwr : xwts h L rest := ⟨hw.1, fun w g => hw.2 w (List.mem_append_right _ g)⟩
  have hM := hcon E hW (fun w g => hw.2 w (List.mem_append_left _ (List.mem_reverse.mpr g)))
  have hst : (as.reverse ++ rest).map (xtr E) = (as.map (xtr E)).reverse ++ rest.map (xtr E) := by rw [List.map_append, List.map_reverse]
  rw [hst]
  obtain ⟨w1, w2, hy, h5, w6⟩ := hok
  have hcode := hts _ w1 rfl
  have hini := hts _ w2 rfl
  have hstat := hts _ w6 rfl
  have hblind : FrameBlind (xPcW tb cl ft dA D tys sT A X as h E) := by
    intro a U g mk q
    exact ⟨xPcX_blind tb cl ft dA D tys sT A X as h E a U g mk q.1, fun i j hi hj hij => (q.2 i j hi hj hij).moved (Vm.Alike.refl U.vm)⟩
  have hws : ∀ w ∈ (Cond.codeWith it.1 it.2.1 it.2.2.1 it.2.2.2.1 hh :: tb.filter goodWord), ∀ (a' : Array Value) (U : State), s.WarmedH U.vm → w.before a' U = true := by
    intro w hw a' U hW
    rcases List.mem_cons.mp hw with rfl | hw
    · exact word_at hW (good_of_word (w := .codeWith it.1 it.2.1 it.2.2.1 it.2.2.2.1 hh) rfl) hcode
    · obtain ⟨g1, g2⟩ := List.mem_filter.mp hw
      exact word_at hW (good_of_word g2) (hts w g1 g2)
  have hBack : Back l R p e below s args it.1 3 8 (PreOf R (xQ h1 - xQ h) (xZ h1 - xZ h) (xPcW tb cl ft dA D tys sT A X as h E)) (PostOf (xQc cl ft dA D A h E v h1) (xQ h1 - xQ h) (xZ h1 - xZ h) A) :=
    va_backW (hh := hh) (bytes := it.2.1) (maxL := it.2.2.1) (ret := it.2.2.2.1) hM hblind rfl rfl hfr hlo hws List.mem_cons_self (fun a' U hW => word_at hW (Or.inl (by first | rfl | simp [Cond.onTables, Cond.keeps, Cond.steady])) hini)
  refine xs_run (av := (as.map (xtr E)).toArray) ?_ hS hl hwr hle kk
  intro T hT X1
  obtain ⟨mk, methM, cM, hnamed, hmethM, -, -, -, -, -, -, hsigM⟩ := Cond.codeWith_spec hcode
  have hstatic : methM.isStatic = true := Cond.static_spec hnamed hmethM hstat
  obtain ⟨kP, hkP, -⟩ := className_of_methodNamed hnamed
  have hinitP : kP.init = .initialized := Cond.initialized_spec (findClass_of_methodNamed hnamed) hkP hini
  obtain ⟨vm₁, X₁, hstep₁⟩ := X1.invokestatic hexec hown hlk hnamed hmethM hstatic hkP hinitP hy (g := F0 m pc ls ((as.map (xtr E)).reverse ++ rest.map (xtr E))) rfl (argsL := as.map (xtr E)) (rest := rest.map (xtr E)) (by
      rw [List.length_map, hna]
      have h6 := h5
      rw [hsigM] at h6
      exact (Option.some.inj h6).symm) rfl (by rw [hb]; exact hdg)
  have hPc : xPcW tb cl ft dA D tys sT A X as h E (as.map (xtr E)).toArray (T.setVm vm₁) :=
    ⟨⟨xPc_at as hK hX hS hP hA (T.setVm vm₁) hT X₁.warmed, hT0.warm X₁.warmed (fun a g1 g2 => by show T.heap[a]? = _; rw [hT]; exact hS.2.1 a g1 g2)⟩, fun i j hi hj hij => (hNa i j hi hj hij).moved X₁.warmed.alike⟩
  obtain ⟨v9, ⟨U', l2, c2, s2⟩, X', ⟨g', mk9, t, L0, e1, e2, hq, g1, hL, g2, g3⟩, hsteps⟩ := hBack m meth c ⟨T.setVm vm₁, locs, cells, slots⟩ (F0 m pc ls (rest.map (xtr E))) (.invokestatic idx) mk (as.map (xtr E)).toArray X₁ rfl (by rw [hml]; exact hl.1) (by rw [hb]; exact hdg) (by show 2 * 0 + _ ≤ 8; rw [xwd_sum]; omega) (X₁.named hnamed) ⟨hcl, hsl, hPc⟩
  dsimp only [Pt.U, Pt.locs, Pt.cells, Pt.slots] at X' e1 e2 g1 g2 g3 hsteps
  subst g1; subst g2; subst g3
  exact ⟨v9, (T.setVm vm₁).calling g' mk9 (as.map (xtr E)).toArray, t, U', L0, hT, X', hL, e1, e2, hq, fun target hh9 => hstep₁ _ fun acts => by rw [doInvoke_state]; exact hsteps.trans hh9⟩
end XLW
