/-- handlers: the words' rows beside the pure machine's -/
def xhdB (tb : List Cond) (me : xMi) : List (Nat × Nat × Nat × Nat) → xB → Bool
  | [], [] => true
  | a :: r, b :: t => decide (a.1 = b.1) && (decide (a.2.1 = b.2.1) && (decide (a.2.2.1 = b.2.2.1) && (decide (a.2.2.2 ≠ 0) && (decide (b.2.2.2.1 < 4) && (decide (Cond.classLink me.1.cls a.2.2.2 (xen b.2.2.2.1) ∈ tb) && ((decide (decode me.2.1 b.2.2.1 = .ok (.astore b.2.2.2.2.1, 2)) && decide (b.2.2.2.2.2 = b.2.2.1 + 2) || (match decode me.2.1 b.2.2.1 with
      | .ok (.astore_n n, 1) => decide ((n : Nat) = b.2.2.2.2.1) && decide (b.2.2.2.2.2 = b.2.2.1 + 1)
      | _ => false)) && (decide (b.2.2.2.2.1 < me.2.2.1) && xhdB tb me r t)))))))
  | _, _ => false
/-- what a row that takes it says -/
theorem xcatch_of {tb : List Cond} {me : xMi} {pc k : Nat} {q : Nat × Nat} : ∀ (hh : List (Nat × Nat × Nat × Nat)) (hd : xB), xhdB tb me hh hd = true → xcatch hd pc k = some q → k < 4 ∧ ∃ (pre : List ExceptionTableEntry) (x : ExceptionTableEntry) (suf : List ExceptionTableEntry), tableOf hh = pre ++ x :: suf ∧ (∀ z ∈ pre, covers z pc = false ∨ (z.catchType ≠ 0 ∧ ∃ j, j < 4 ∧ j ≠ k ∧ Cond.classLink me.1.cls z.catchType (xen j) ∈ tb)) ∧ covers x pc = true ∧ x.catchType ≠ 0 ∧ Cond.classLink me.1.cls x.catchType (xen k) ∈ tb ∧ q.1 < me.2.2.1 ∧ ((decode me.2.1 x.handlerPc = .ok (.astore q.1, 2) ∧ q.2 = x.handlerPc + 2) ∨ ∃ n : Fin 4, (n : Nat) = q.1 ∧ decode me.2.1 x.handlerPc = .ok (.astore_n n, 1) ∧ q.2 = x.handlerPc + 1) := by
  intro hh
  induction hh with
  | nil =>
    intro hd hB hq
    cases hd with
    | nil => cases hq
    | cons b t => cases hB
  | cons a r ih =>
    intro hd hB hq
    cases hd with
    | nil => cases hB
    | cons b t =>
      simp only [xhdB, Bool.and_eq_true, Bool.or_eq_true, decide_eq_true_eq] at hB
      obtain ⟨e1, e2, e3, e4, e5, e6, e7, e8, e9⟩ := hB
      unfold xcatch at hq
      have hcov : covers (⟨a.1, a.2.1, a.2.2.1, a.2.2.2⟩ : ExceptionTableEntry) pc = (Nat.ble b.1 pc && Nat.blt pc b.2.1) := by
        rw [← e1, ← e2]
        have z1 : decide (a.1 ≤ pc) = Nat.ble a.1 pc := by
          rw [Bool.eq_iff_iff, decide_eq_true_eq]
          exact ⟨Nat.ble_eq_true_of_le, Nat.le_of_ble_eq_true⟩
        have z2 : decide (pc < a.2.1) = Nat.blt pc a.2.1 := by
          rw [Bool.eq_iff_iff, decide_eq_true_eq]
          exact ⟨fun g => Nat.ble_eq_true_of_le g, fun g => Nat.le_of_ble_eq_true g⟩
        show (decide (a.1 ≤ pc) && decide (pc < a.2.1)) = _
        rw [z1, z2]
      cases hb1 : Nat.ble b.1 pc && (Nat.blt pc b.2.1 && Nat.beq b.2.2.2.1 k) with
      | true =>
        rw [hb1] at hq
        cases hq
        simp only [Bool.and_eq_true] at hb1
        obtain ⟨g1, g2, g3⟩ := hb1
        have g3 := Nat.eq_of_beq_eq_true g3
        refine ⟨g3 ▸ e5, [], ⟨a.1, a.2.1, a.2.2.1, a.2.2.2⟩, tableOf r, rfl, (fun z hz => by cases hz), (by rw [hcov, g1, g2]; rfl), e4, g3 ▸ e6, e8, ?_⟩
        show (decode me.2.1 a.2.2.1 = _ ∧ _ = a.2.2.1 + 2) ∨ ∃ n : Fin 4, _ ∧ decode me.2.1 a.2.2.1 = _ ∧ _ = a.2.2.1 + 1
        rw [e3]
        rcases e7 with ⟨g4, g5⟩ | g4
        · exact Or.inl ⟨g4, g5⟩
        · split at g4
          · rename_i n g6
            simp only [Bool.and_eq_true, decide_eq_true_eq] at g4
            exact Or.inr ⟨n, g4.1, g6, g4.2⟩
          · cases g4
      | false =>
        rw [hb1] at hq
        obtain ⟨k4, pre, x, suf, f1, f2, f3⟩ := ih t e9 hq
        refine ⟨k4, ⟨a.1, a.2.1, a.2.2.1, a.2.2.2⟩ :: pre, x, suf, by show _ :: tableOf r = _; rw [f1]; rfl, fun z hz => ?_, f3⟩
        rcases List.mem_cons.mp hz with rfl | hz
        · cases hc9 : (Nat.ble b.1 pc && Nat.blt pc b.2.1) with
          | false => exact Or.inl (by rw [hcov, hc9])
          | true =>
            refine Or.inr ⟨e4, b.2.2.2.1, e5, fun hjk => ?_, e6⟩
            rw [Bool.and_eq_true] at hc9
            rw [hc9.1, hc9.2, hjk] at hb1
            simp at hb1
        · exact f2 z hz
/-- a start of a method that catches -/
def xPcW (tb : List Cond) (cl : List vw_C) (ft : Nat → Nat → FieldType) (dA : Nat → ClassId) (D : va_G) (tys : List (ClassId × FieldType)) (sT : String × String × String) (A : Nat → Prop) (X : xX) (as : List xV) (h : xH) (E : xPhi) : Array Value → State → Prop := fun a U => xPcX tb cl ft dA D tys sT A X as h E a U ∧ xNa U
def xConW (tb : List Cond) (cl : List vw_C) (ft : Nat → Nat → FieldType) (dA : Nat → ClassId) (D : va_G) (tys : List (ClassId × FieldType)) (sT : String × String × String) (A : Nat → Prop) (X : xX) (l : Launch) (it : xMi) (hh : List (Nat × Nat × Nat × Nat)) (as : List xV) (h : xH) (v : Option xV) (h' : xH) : Prop := ∀ E : xPhi, xWf A E h → (∀ w ∈ as, xwt h w) → Met l it.1 (.codeWith it.1 it.2.1 it.2.2.1 it.2.2.2.1 hh :: tb.filter goodWord) { frames := it.2.2.2.2.1, cells := xQ h' - xQ h, slots := xZ h' - xZ h, locals := it.2.2.2.2.2.1 } (xPcW tb cl ft dA D tys sT A X as h E) (xQc cl ft dA D A h E v h') (xQ h' - xQ h) (xZ h' - xZ h) A
section XSW
variable {l : Launch} {D : va_G} {cl : List vw_C} {ft : Nat → Nat → FieldType} {dA : Nat → ClassId} {tys : List (ClassId × FieldType)} {sT : String × String × String} {A : Nat → Prop} {X : xX} {h h' : xH} {tb : List Cond} {host : String} {MI : Nat → xMi} {NM y d : Nat} {C : Nat → List xV → xH → xO → xH → Prop} {v0 : Option xV} {as : List xV}
set_option maxHeartbeats 4000000 in
/-- a method with handlers: its contract out of its callees' -/
theorem xsoundW {P : xP} {hh : List (Nat × Nat × Nat × Nat)} (hpl : plainName (MI y).1.cls = true) (htab : xTab tb cl ft dA tys MI NM) (hMz : ∀ z, z < NM → xMok tb (MI z)) (hrow : xRows cl ft tb host sT MI NM y P) (hvirt : ∀ pc q, P.1 pc = some q → ∀ idx, q.1 ≠ .invokestatic idx ∧ q.1 ≠ .invokespecial idx) (hhd : xhdB tb (MI y) hh P.2.1 = true) (hcs : ∀ k, k < 4 → Cond.castable (xen k) (xen k) ∈ tb) (hP2 : P.2.2 = (MI y).2.2.1) (hplain : ∀ pc q, P.1 pc = some q → ∀ idx, q.1 = .invokevirtual idx → xhas tb (xcp q.2.2.2.2) (.methodLink (MI y).1.cls idx (MI q.2.2.1).1) = true)
    (hC : ∀ (z : Nat) (as : List xV) (h : xH) (v1 : Option xV) (h1 : xH), z < NM → C z as h (.inl v1) h1 → xCon tb cl ft dA D tys sT A X l (MI z) as h v1 h1) (hCX : ∀ (z : Nat) (as : List xV) (h : xH) (k : Nat) (h1 : xH), z < NM → C z as h (.inr k) h1 → xConX tb cl ft dA D tys sT A X l (MI z) as h k h1) (hCle : ∀ z as h o h1, C z as h o h1 → xle h h1) (hwd : xwd as ≤ P.2.2) {n : Nat} (hx : xC X d C P n 0 (xarg 0 as) [] h (.inl v0) h') : xConW tb cl ft dA D tys sT A X l (MI y) hh as h v0 h' := by
  intro E hW hwt
  refine va_MetW (cc := (MI y).2.1) (maxL := (MI y).2.2.1) (ret := (MI y).2.2.2.1) (hh := hh) hpl rfl ?_
  intro p e s m args below meth c s₁ B hml hv
  obtain ⟨⟨⟨rfl, hK, hX, hP, hA⟩, hT⟩, hNa⟩ := hv
  have hts := atoms_spec (ws := .codeWith (MI y).1 (MI y).2.1 (MI y).2.2.1 (MI y).2.2.2.1 hh :: tb.filter goodWord) B.pre
  have hts2 : ∀ w ∈ tb, goodWord w = true → w.before ((as.map (xtr E)).toArray) s = true := fun w g1 g2 => hts w (List.mem_cons_of_mem _ (List.mem_filter.mpr ⟨g1, g2⟩))
  have hown : s.vm.findClass (MI y).1.cls = some m.cls := findClass_of_methodNamed B.named
  have hmn : meth.name = (MI y).1.name := (name_of_methodNamed B.named B.method).1
  have htbl : c.exceptionTable.toList = tableOf hh := by
    obtain ⟨m9, meth9, c9, hn9, g1, g2, -, -, g6, -⟩ := Cond.codeWith_spec (hts _ List.mem_cons_self)
    cases Option.some.inj (hn9.symm.trans B.named)
    cases Option.some.inj (g1.symm.trans B.method)
    cases Option.some.inj (g2.symm.trans (Stand.of_body B).code)
    rw [← g6, table_eq]
  have hl := lv_entry (as.map (xtr E)) (n := (MI y).2.2.1) (by rw [xwd_sl, ← hP2]; exact hwd)
  rw [lg_entry_eq]
  generalize (lg_sl (as.map (xtr E)) ++ List.replicate ((MI y).2.2.1 - (lg_sl (as.map (xtr E))).length) Slot.unset).toArray = ls at hl ⊢
  rw [← xarg_tr E as 0] at hl
  refine xwalk (host := host) (NM := NM) (d := d) (C := C) (P := P) (E0 := E) (h0 := h) (R := { frames := (MI y).2.2.2.2.1, cells := xQ h' - xQ h, slots := xZ h' - xZ h, locals := (MI y).2.2.2.2.2.1 }) ⟨B.exec, B.bytes, hml, hown, hmn, hts2, hK, hA, Nat.le_refl _, Nat.le_refl _⟩ htab hX (fun z v1 hz => Or.inl (hMz z hz)) hrow B.returns B.notSynchronized hC hCle ?_ ⟨Nat.le_refl _, Nat.le_refl _⟩ n 0 E (xarg 0 as) [] h s.heap [] ls 0 0 hx (Nat.le_refl _) (fun _ _ => rfl) rfl hl ⟨xarg_wt as 0 hwt, fun _ g => by cases g⟩ hP hW va_S.rf (by show 0 + (xQ h' - xQ h) ≤ xQ h' - xQ h; omega) (by show 0 + (xZ h' - xZ h) ≤ xZ h' - xZ h; omega)
  clear hl hx hP hW hwt
  intro n pc q E1 L st h1 H locs ls cells slots k h2 q1 hq hE2 hl hw hP hW hS hRc hRs hinv hbl hwd hthrow hcatch hgo go
  obtain ⟨idx, kind, pos, haN, hco, hkd⟩ := hinv
  rcases hkd with ⟨-, g⟩ | ⟨-, g, -⟩ | ⟨rfl, hi, k0, r0, h40, hc0, hrc, hrv⟩
  · exact absurd g (hvirt pc q hq idx).1
  · exact absurd g (hvirt pc q hq idx).2
  · have hpl2 := hplain pc q hq idx hi
    obtain ⟨hdg, -, -⟩ := hrow pc q hq
    obtain ⟨i, len, a, b, v⟩ := q
    dsimp only at hi hbl hwd hthrow haN hco hrc hrv hpl2 hdg
    subst hi
    obtain ⟨g1, g2⟩ := xhas_of hpl2
    simp only [xcok, Bool.and_eq_true, Bool.or_eq_true, decide_eq_true_eq] at hco
    obtain ⟨-, hkk, hna, hfr, hlo⟩ := hco
    have hna : (MI a).2.2.2.2.2.2.2 + 1 = b := hna
    have hcx := hCX a _ h1 k h2 haN hthrow
    have hle := hCle _ _ _ _ _ hthrow
    have hle2 := xC_le hCle n _ _ _ _ _ _ hgo
    have hq1 := hle.2.1
    have hq2 := hle2.2.1
    have hz1 := hle.2.2.1
    have hz2 := hle2.2.2.1
    obtain ⟨k4, pre, x, suf, f1, f2, f3, f4, f5, f6, f7⟩ := xcatch_of hh P.2.1 hhd hcatch
    obtain ⟨k9, q0, r, e1, e2⟩ := xa1_of hrv
    have e2 := Nat.eq_of_beq_eq_true (xbif_of e2).1
    subst e2
    have hd1 : st.drop b = r := by
      have : st.drop b = (st.drop (b - 1)).drop 1 := by rw [List.drop_drop]; congr 1; omega
      rw [this, e1]
      rfl
    have hst2 : st = (st.take (b - 1)).reverse.reverse ++ vr k9 q0 :: r := by
      rw [List.reverse_reverse, ← e1, List.take_append_drop]
    have htk : (st.take b).reverse = vr k9 q0 :: (st.take (b - 1)).reverse := by
      have e3 : st.take b = st.take (b - 1) ++ [vr k9 q0] := by
        have e4 : st.take b = st.take (b - 1) ++ (st.drop (b - 1)).take 1 := by
          rw [← List.take_add]
          congr 1
          omega
        rw [e4, e1]
        rfl
      rw [e3, List.reverse_append]
      rfl
    rw [htk] at hcx
    rw [hd1] at hwd
    have hlen : (st.take (b - 1)).reverse.length = (MI a).2.2.2.2.2.2.2 := by rw [List.length_reverse, List.length_take]; omega
    generalize (st.take (b - 1)).reverse = as2 at hst2 hcx hlen
    have hlen3 : len = 3 := by
      have := hrow pc _ hq
      rcases this.2.1 with g | g | g | g
      · cases g
      · cases g
      · simp only [xok2, Bool.and_eq_true, decide_eq_true_eq] at g
        exact g.1
      · cases g
    subst hlen3
    clear e1 hd1 htk hrv
    subst hst2
    refine xs_callX (nL := (MI y).2.2.1) (own := (MI y).1.cls) B.exec B.bytes hml hown hts2 hK (hX.moved (Vm.Alike.refl _) hE2 (fun _ _ _ => rfl)) hT hNa hA (hMz a haN) hkk hfr hlo (hts2 _ g1 g2) hS hP hW hl h40 hc0 hrc hlen hw hwd hcx k4 (by omega) (by omega) hdg pre x suf (by rw [htbl]; exact f1) (fun z hz => ?_) f3 f4 (hts2 _ f5 rfl) (va_Nw.use rfl (hT.1 _ (hcs k k4) rfl)) ?_
    · rcases f2 z hz with g | ⟨w1, j, w2, w3, w4⟩
      · exact Or.inl g
      · exact Or.inr ⟨w1, j, w2, w3, hts2 _ w4 rfl⟩
    · intro H1 locs1 q9 p1 p2 p3
      have hwo : xwts h2 (xoff L q1.1) [] := xwts_le hle (xwts_off hw)
      rcases f7 with ⟨d9, e9⟩ | ⟨n9, en9, d9, e9⟩
      · refine lv_astore (lv' := (q1.1, .ref q9) :: xtL E1 (xoff L q1.1)) B.exec B.bytes d9 hl f6 (by rw [xtL_off]) (fun ls' hl' => ?_)
        rw [← e9]
        exact go E1 _ _ _ _ H1 locs1 ls' _ _ hgo hle (fun _ _ => rfl) rfl ⟨hl'.1, hl'.2.1, fun z hz => hl'.2.2 z (List.mem_cons_of_mem _ hz)⟩ hwo p1 p2 p3 (by omega) (by omega)
      · refine lv_astore_n (i := q1.1) (lv' := (q1.1, .ref q9) :: xtL E1 (xoff L q1.1)) B.exec B.bytes d9 en9 hl f6 (by rw [xtL_off]) (fun ls' hl' => ?_)
        rw [← e9]
        exact go E1 _ _ _ _ H1 locs1 ls' _ _ hgo hle (fun _ _ => rfl) rfl ⟨hl'.1, hl'.2.1, fun z hz => hl'.2.2 z (List.mem_cons_of_mem _ hz)⟩ hwo p1 p2 p3 (by omega) (by omega)
end XSW
