section XTW
variable {p : Program} {l : Launch} {e : Env} {R : Room} {s : State} {m : MethodId} {args : Array Value} {below : List Frame} {meth : Method} {c : Code}
variable {D : va_G} {cl : List vw_C} {ft : Nat → Nat → FieldType} {dA : Nat → ClassId} {tys : List (ClassId × FieldType)} {sT : String × String × String} {A : Nat → Prop} {X : xX} {E : xPhi} {h h' : xH} {tb : List Cond} {host : String} {MI : Nat → xMi} {NM y d k : Nat} {C : Nat → List xV → xH → xO → xH → Prop}
theorem xro9_of {P : xP} {pc : Nat} {q : xT} (h : (xro9 P).1 pc = some q) : P.1 pc = some q ∧ xroR q = true := by
  have h : (match P.1 pc with | some q => bif xroR q then some q else none | none => none) = some q := h
  cases hq : P.1 pc with
  | none => rw [hq] at h; cases h
  | some q1 =>
    rw [hq] at h
    cases hb : xroR q1 with
    | false =>
      have h : (bif xroR q1 then some q1 else none) = some q := h
      rw [hb] at h
      cases h
    | true =>
      have h : (bif xroR q1 then some q1 else none) = some q := h
      rw [hb] at h
      cases h
      exact ⟨rfl, hb⟩
set_option maxHeartbeats 4000000 in
/-- the walk to a throw: it only reads -/
theorem xwalkX {P : xP} (hsur : xSur p s m args meth c R tb cl D tys A (MI y).2.1 (MI y).2.2.1 (MI y)) (htab : xTab tb cl ft dA tys MI NM) (hlt : l.stackTraces = false) (hlocks : meth.locks = false) (hnoh : ∀ x ∈ c.exceptionTable.toList, False) (hT : xTx tb A s s.heap) (hrow : xRows cl ft tb host sT MI NM y P) (hthr : ∀ pc q, P.1 pc = some q → 2000 ≤ q.2.2.1 → (∃ idx, q.1 = .new idx) → xthr tb (MI y) pc q = true) (hP : xPt cl ft dA D E h s.heap) (hW : xWf A E h) (hRf : 6 ≤ R.frames) (hRl : 83 ≤ R.locals) (hRc : xQ h' - xQ h ≤ R.cells) (hRs : xZ h' - xZ h ≤ R.slots) :
    ∀ (n pc : Nat) (L : xL) (st : List xV) (ls : Array Slot), xC X d C (xro9 P) n pc L st h (.inr k) h' → lv_has ls (MI y).2.2.1 (xtL E L) → xwts h L st → W p l e R s m args below meth c s.heap [] 0 0 (fun t => ∃ o, t.status = .running ∧ Ended t below o ∧ xQx cl ft dA D A k h h' E (xQ h' - xQ h) (xZ h' - xZ h) args s o t) (F0 m pc ls (st.map (xtr E))) := by
  intro n
  induction n with
  | zero => intro pc L st ls hx; exact hx.elim
  | succ n ih =>
    intro pc L st ls hx hl hw
    unfold xC at hx
    cases hq0 : (xro9 P).1 pc with
    | none => rw [hq0] at hx; exact hx.elim
    | some q =>
      rw [hq0] at hx
      obtain ⟨hq, hro⟩ := xro9_of hq0
      obtain ⟨hdg, hok, -⟩ := hrow pc q hq
      obtain ⟨i, len, a, b, v⟩ := q
      dsimp only at hx hdg hok
      have go0 : ∀ (pc1 : Nat) (L1 : xL) (st1 : List xV) (ls1 : Array Slot), xC X d C (xro9 P) n pc1 L1 st1 h (.inr k) h' → lv_has ls1 (MI y).2.2.1 (xtL E L1) → xwts h L1 st1 → W p l e R s m args below meth c s.heap [] 0 0 (fun t => ∃ o, t.status = .running ∧ Ended t below o ∧ xQx cl ft dA D A k h h' E (xQ h' - xQ h) (xZ h' - xZ h) args s o t) (F0 m pc1 ls1 (st1.map (xtr E))) := fun pc1 L1 st1 ls1 k1 k2 k3 => ih pc1 L1 st1 ls1 k1 k2 k3
      obtain ⟨hexec, hb, hml, hown, hmn, hts, hK, hA, -, -⟩ := id hsur
      have pure : xok1 (MI y).2.2.1 pc i len a v = true → W p l e R s m args below meth c s.heap [] 0 0 (fun t => ∃ o, t.status = .running ∧ Ended t below o ∧ xQx cl ft dA D A k h h' E (xQ h' - xQ h) (xZ h' - xZ h) args s o t) (F0 m pc ls (st.map (xtr E))) := fun g => xs_pure hexec hb g hdg hx hl hw go0
      cases i with
      | new idx =>
        have ha : 2000 ≤ a := Nat.le_of_ble_eq_true hro
        have ht := hthr pc _ hq ha ⟨idx, rfl⟩
        have h40 : Nat.blt a 40 = false := by
          cases hz : Nat.blt a 40 with
          | false => rfl
          | true =>
            have g1 : a + 1 ≤ 40 := Nat.le_of_ble_eq_true hz
            omega
        simp only [xDo] at hx
        rw [h40] at hx
        obtain ⟨rfl, e1, rfl⟩ := hx
        have e1 := Sum.inr.inj e1
        simp only [xthr, Bool.and_eq_true, decide_eq_true_eq] at ht
        obtain ⟨-, rfl, ht⟩ := ht
        rw [← e1] at ht
        split at ht
        · rename_i ic d4
          simp only [Bool.and_eq_true, decide_eq_true_eq] at ht
          obtain ⟨d3, d7, hth, rfl, hlk, hin1, hin2⟩ := ht
          obtain ⟨g1, g2⟩ := xhas_of hlk
          have hq1 : xQ (xgone h 6) = xQ h + 1 := rfl
          have hz1 : xZ (xgone h 6) = xZ h + 6 := rfl
          have e5 : xQ (xgone h 6) - xQ h = 1 := by rw [hq1]; omega
          have e6 : xZ (xgone h 6) - xZ h = 6 := by rw [hz1]; omega
          rw [e5, e6]
          rw [e5] at hRc
          rw [e6] at hRs
          refine xd_throw (names := xnms) hexec hb hlt hlocks hnoh hown (xen_fit _) xnms_fit (hts _ g1 g2) (hts _ hin1 rfl) (hts _ hin2 rfl) (xth_of hth hts hT) (by rw [hml]; exact hl.1) hdg d3 d4 d7 (by show 2 + 3 < R.frames; omega) (by show 0 + (13 * 3 + 42) ≤ R.locals; omega) hRc hRs ?_
          intro t q ce hrun hend hce hcv hcl hWm hsame
          obtain ⟨k1, k2⟩ := xkept hsame
          refine ⟨.threw q, hrun, hend, q, ce, rfl, hce, hcv, hcl, hWm, hsame, ?_, hW, xle_gone h 6, rfl⟩
          intro a1 ha1
          have e7 : xcell cl ft dA E (xgone h 6) a1 = xcell cl ft dA E h a1 := xcell_eq rfl (fun _ => rfl) (fun _ => rfl) (fun _ => rfl)
          rw [e7]
          exact (hP a1 ha1).kept (k2 _ (xPt_lt hP ha1))
        · cases ht
      | getfield idx =>
        rcases hok with g | g | g | g
        · cases g
        · cases g
        · exact xd_get hexec hb hown hts hK htab.1 g hdg hx hl hw hP hW go0
        · cases g
      | iconst n => rcases hok with g | g | g | g <;> first | exact pure g | cases g
      | bipush n => rcases hok with g | g | g | g <;> first | exact pure g | cases g
      | sipush n => rcases hok with g | g | g | g <;> first | exact pure g | cases g
      | iload n => rcases hok with g | g | g | g <;> first | exact pure g | cases g
      | iload_n n => rcases hok with g | g | g | g <;> first | exact pure g | cases g
      | aload n => rcases hok with g | g | g | g <;> first | exact pure g | cases g
      | aload_n n => rcases hok with g | g | g | g <;> first | exact pure g | cases g
      | goto n => rcases hok with g | g | g | g <;> first | exact pure g | cases g
      | ifCond n o => rcases hok with g | g | g | g <;> first | exact pure g | cases g
      | if_icmp n o => rcases hok with g | g | g | g <;> first | exact pure g | cases g
      | isub => rcases hok with g | g | g | g <;> first | exact pure g | cases g
      | iadd => rcases hok with g | g | g | g <;> first | exact pure g | cases g
      | _ => cases hro
end XTW
section XSX
variable {l : Launch} {D : va_G} {cl : List vw_C} {ft : Nat → Nat → FieldType} {dA : Nat → ClassId} {tys : List (ClassId × FieldType)} {sT : String × String × String} {A : Nat → Prop} {X : xX} {h h' : xH} {tb : List Cond} {host : String} {MI : Nat → xMi} {NM y d k : Nat} {C : Nat → List xV → xH → xO → xH → Prop} {as : List xV}
set_option maxHeartbeats 4000000 in
/-- a method that throws: its contract -/
theorem xsoundX {P : xP} (hpl : plainName (MI y).1.cls = true) (htab : xTab tb cl ft dA tys MI NM) (hlt : l.stackTraces = false) (hrow : xRows cl ft tb host sT MI NM y P) (hthr : ∀ pc q, P.1 pc = some q → 2000 ≤ q.2.2.1 → (∃ idx, q.1 = .new idx) → xthr tb (MI y) pc q = true) (hP2 : P.2.2 = (MI y).2.2.1) (hRf : 6 ≤ (MI y).2.2.2.2.1) (hRl : 83 ≤ (MI y).2.2.2.2.2.1) (hwd : xwd as ≤ P.2.2) {n : Nat} (hx : xC X d C (xro9 P) n 0 (xarg 0 as) [] h (.inr k) h') : xConX tb cl ft dA D tys sT A X l (MI y) as h k h' := by
  intro E hW hwt
  refine MetFree.of_bodyS (code := (MI y).2.1) (maxLocals := (MI y).2.2.1) (ret := (MI y).2.2.2.1) hpl ?_ ?_
  · intro args s m h0 hn
    obtain ⟨meth, c, h1, h2, h3, h4, h5, h6, -, -⟩ := Cond.code_spec hn (atoms_spec (ws := .code (MI y).1 (MI y).2.1 (MI y).2.2.1 (MI y).2.2.2.1 :: tb.filter goodWord) h0 _ List.mem_cons_self)
    exact ⟨meth, c, h1, h2, h3, h4, h5, h6⟩
  · intro p e s m args below meth c s₁ B hml hv _
    obtain ⟨⟨rfl, hK, hX, hP, hA⟩, hT⟩ := hv
    have hh0 : s₁.heap = s.heap := by rw [B.state]; rfl
    have hts := atoms_spec (ws := .code (MI y).1 (MI y).2.1 (MI y).2.2.1 (MI y).2.2.2.1 :: tb.filter goodWord) B.pre
    have hts2 : ∀ w ∈ tb, goodWord w = true → w.before ((as.map (xtr E)).toArray) s = true := fun w g1 g2 => hts w (List.mem_cons_of_mem _ (List.mem_filter.mpr ⟨g1, g2⟩))
    have hown : s.vm.findClass (MI y).1.cls = some m.cls := findClass_of_methodNamed B.named
    have hmn : meth.name = (MI y).1.name := (name_of_methodNamed B.named B.method).1
    have hnoh : ∀ x ∈ c.exceptionTable.toList, False := by
      obtain ⟨meth9, c9, h1, h2, -, -, -, -, h7, -⟩ := Cond.code_spec B.named (hts _ List.mem_cons_self)
      cases Option.some.inj (h1.symm.trans B.method)
      cases Option.some.inj (h2.symm.trans (Stand.of_body B).code)
      intro x hx
      rw [Array.isEmpty_iff.mp h7] at hx
      cases hx
    have hl := lv_entry (as.map (xtr E)) (n := (MI y).2.2.1) (by rw [xwd_sl, ← hP2]; exact hwd)
    rw [← xarg_tr E as 0] at hl
    obtain ⟨t, a1, o, b1, b2, b3⟩ := xwalkX (host := host) (NM := NM) (d := d) (C := C) (P := P) (E := E) (k := k) (h' := h') (e := e) (below := below) (R := { frames := (MI y).2.2.2.2.1, cells := xQ h' - xQ h, slots := xZ h' - xZ h, locals := (MI y).2.2.2.2.2.1 }) ⟨B.exec, B.bytes, hml, hown, hmn, hts2, hK, hA, Nat.le_refl _, Nat.le_refl _⟩ htab hlt B.notSynchronized hnoh hT hrow hthr hP hW hRf hRl (Nat.le_refl _) (Nat.le_refl _) n 0 (xarg 0 as) [] _ hx hl ⟨xarg_wt as 0 hwt, fun _ g => by cases g⟩ s₁ hh0 (Stand.of_body B)
    rw [show F0 m 0 ((lg_sl (as.map (xtr E)) ++ List.replicate ((MI y).2.2.1 - (lg_sl (as.map (xtr E))).length) Slot.unset).toArray) (([] : List xV).map (xtr E)) = entryFrame m (as.map (xtr E)).toArray (MI y).2.2.1 from (lg_entry_eq m (as.map (xtr E)) (MI y).2.2.1).symm] at a1
    exact ⟨t, o, a1, b1, b2, b3⟩
end XSX
