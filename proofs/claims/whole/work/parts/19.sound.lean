theorem xarg_tr (E : xPhi) : ∀ (as : List xV) (i : Nat), xtL E (xarg i as) = lv_args i (as.map (xtr E)) := by
  intro as
  induction as with
  | nil => intro i; rfl
  | cons v r ih =>
    intro i
    show (i, xtr E v) :: xtL E (xarg (if xcat v = 2 then i + 2 else i + 1) r) = (i, xtr E v) :: lv_args (if (xtr E v).category = 2 then i + 2 else i + 1) (r.map (xtr E))
    rw [ih, xtr_cat]
theorem xwd_sl (E : xPhi) : ∀ as : List xV, (lg_sl (as.map (xtr E))).length = xwd as := by
  intro as
  induction as with
  | nil => rfl
  | cons v r ih =>
    have e1 : lg_sl ((v :: r).map (xtr E)) = lg_sl [xtr E v] ++ lg_sl (r.map (xtr E)) := by simp [lg_sl]
    rw [e1, List.length_append, ih]
    show _ = xcat v + xwd r
    congr 1
    rcases v with (x | x) | (_ | q) <;> rfl
theorem xarg_wt {h : xH} : ∀ (as : List xV) (i : Nat), (∀ w ∈ as, xwt h w) → ∀ q ∈ xarg i as, xwt h q.2 := by
  intro as
  induction as with
  | nil => intro i _ q hq; cases hq
  | cons v r ih =>
    intro i hw q hq
    rcases List.mem_cons.mp hq with rfl | hq
    · exact hw v List.mem_cons_self
    · exact ih _ (fun w g => hw w (List.mem_cons_of_mem _ g)) q hq
section XSO
variable {l : Launch} {D : va_G} {cl : List vw_C} {ft : Nat → Nat → FieldType} {dA : Nat → ClassId} {tys : List (ClassId × FieldType)} {sT : String × String × String} {A : Nat → Prop} {X : xX} {h h' : xH} {tb : List Cond} {host : String} {MI : Nat → xMi} {NM y d : Nat} {C : Nat → List xV → xH → xO → xH → Prop} {v0 : Option xV} {as : List xV}
set_option maxHeartbeats 4000000 in
/-- a method without handlers, that returns: its contract out of its callees' -/
theorem xsoundN {P : xP} (hpl : plainName (MI y).1.cls = true) (htab : xTab tb cl ft dA tys MI NM) (hMz : ∀ z v1, z < NM → xMok tb (MI z) ∨ ∀ as h h1, ¬ C z as h (.inl v1) h1) (hrow : xRows cl ft tb host sT MI NM y P) (hno : P.2.1 = []) (hP2 : P.2.2 = (MI y).2.2.1)
    (hC : ∀ (z : Nat) (as : List xV) (h : xH) (v1 : Option xV) (h1 : xH), z < NM → C z as h (.inl v1) h1 → xCon tb cl ft dA D tys sT A X l (MI z) as h v1 h1) (hCle : ∀ z as h o h1, C z as h o h1 → xle h h1) (hwd : xwd as ≤ P.2.2) {n : Nat} (hx : xC X d C P n 0 (xarg 0 as) [] h (.inl v0) h') : xCon tb cl ft dA D tys sT A X l (MI y) as h v0 h' := by
  intro E hW hwt
  refine Met.ofW (cc := (MI y).2.1) (maxL := (MI y).2.2.1) (ret := (MI y).2.2.2.1) hpl rfl ?_
  intro p e s m args below meth c s₁ B hml hv
  obtain ⟨rfl, hK, hX, hP, hA⟩ := hv
  have hts := atoms_spec (ws := .code (MI y).1 (MI y).2.1 (MI y).2.2.1 (MI y).2.2.2.1 :: tb.filter goodWord) B.pre
  have hts2 : ∀ w ∈ tb, goodWord w = true → w.before ((as.map (xtr E)).toArray) s = true := fun w g1 g2 => hts w (List.mem_cons_of_mem _ (List.mem_filter.mpr ⟨g1, g2⟩))
  have hown : s.vm.findClass (MI y).1.cls = some m.cls := findClass_of_methodNamed B.named
  have hmn : meth.name = (MI y).1.name := (name_of_methodNamed B.named B.method).1
  have hl := lv_entry (as.map (xtr E)) (n := (MI y).2.2.1) (by rw [xwd_sl, ← hP2]; exact hwd)
  rw [lg_entry_eq]
  generalize (lg_sl (as.map (xtr E)) ++ List.replicate ((MI y).2.2.1 - (lg_sl (as.map (xtr E))).length) Slot.unset).toArray = ls at hl ⊢
  rw [← xarg_tr E as 0] at hl
  refine xwalk (host := host) (NM := NM) (d := d) (C := C) (P := P) (E0 := E) (h0 := h) (R := { frames := (MI y).2.2.2.2.1, cells := xQ h' - xQ h, slots := xZ h' - xZ h, locals := (MI y).2.2.2.2.2.1 }) ⟨B.exec, B.bytes, hml, hown, hmn, hts2, hK, hA, Nat.le_refl _, Nat.le_refl _⟩ htab hX hMz hrow B.returns B.notSynchronized hC hCle ?_ ⟨Nat.le_refl _, Nat.le_refl _⟩ n 0 E (xarg 0 as) [] h s.heap [] ls 0 0 hx (Nat.le_refl _) (fun _ _ => rfl) rfl hl ⟨xarg_wt as 0 hwt, fun _ g => by cases g⟩ hP hW va_S.rf (by show 0 + (xQ h' - xQ h) ≤ xQ h' - xQ h; omega) (by show 0 + (xZ h' - xZ h) ≤ xZ h' - xZ h; omega)
  intro n pc q E1 L st h1 H locs ls cells slots k h2 q1 _ _ _ _ _ _ _ _ _ _ _ _ _ g
  rw [hno] at g
  cases g
end XSO
