/-! THE HEAP: the pure one's cells as the kit's. cl: the kinds of objects; ft: their fields' types; dA: the array kinds' numbers in the tables -/
def xft : FieldType → Nat
  | .int => 0
  | .long => 1
  | .boolean => 2
  | _ => 3
def xnf (cl : List vw_C) (ci : Nat) : Nat := match cl[ci]? with
  | some r => r.2.2
  | none => 0
def xfv (ft : Nat → Nat → FieldType) (E : xPhi) (h : xH) (a ci k : Nat) : Value := match xft (ft ci k) with
  | 0 => .int (xI h a k)
  | 1 => .long (xJ h a k)
  | 2 => .int (xI h a k)
  | _ => va_rf (xro E (xR h a k))
def xfs (cl : List vw_C) (ft : Nat → Nat → FieldType) (E : xPhi) (h : xH) (a ci : Nat) : List Value := (List.range (xnf cl ci)).map (xfv ft E h a ci)
def xcell (cl : List vw_C) (ft : Nat → Nat → FieldType) (dA : Nat → ClassId) (E : xPhi) (h : xH) (a : Nat) : va_E :=
  if (xK h a).1 < 40 then .inr ((xK h a).1, xfs cl ft E h a (xK h a).1)
  else if (xK h a).1 = 40 ∨ (xK h a).1 = 42 then .inl (dA (xK h a).1, (xK h a).2, .inl (xI h a))
  else if (xK h a).1 = 41 then .inl (dA (xK h a).1, (xK h a).2, .inr (.inl (xJ h a)))
  else .inl (dA (xK h a).1, (xK h a).2, .inr (.inr (.inr (.inr (fun j => xro E (xR h a j))))))
def xPt (cl : List vw_C) (ft : Nat → Nat → FieldType) (dA : Nat → ClassId) (D : va_G) (E : xPhi) (h : xH) (H : Heap) : Prop := ∀ a, a < xN h → va_at D cl (E.1 a, xcell cl ft dA E h a) H
/-- the addresses are apart and lie in A; what isn't taken has no kind; references point to what is taken -/
def xWf (A : Nat → Prop) (E : xPhi) (h : xH) : Prop := (∀ a b, a < xN h → b < xN h → E.1 a = E.1 b → a = b) ∧ (∀ a, a < xN h → A (E.1 a)) ∧ (∀ a, xN h ≤ a → (xK h a).1 = 98) ∧ ∀ a k, xR h a k ≤ xN h
theorem xcell_o {cl : List vw_C} {ft : Nat → Nat → FieldType} {dA : Nat → ClassId} {E : xPhi} {h : xH} {a ci : Nat} (hk : (xK h a).1 = ci) (hc : ci < 40) : xcell cl ft dA E h a = .inr (ci, xfs cl ft E h a ci) := by
  subst hk
  rw [xcell, if_pos hc]
theorem xcell_i {cl : List vw_C} {ft : Nat → Nat → FieldType} {dA : Nat → ClassId} {E : xPhi} {h : xH} {a : Nat} (hk : (xK h a).1 = 40) : xcell cl ft dA E h a = .inl (dA 40, (xK h a).2, .inl (xI h a)) := by
  rw [xcell, hk, if_neg (by decide), if_pos (by decide)]
theorem xcell_z {cl : List vw_C} {ft : Nat → Nat → FieldType} {dA : Nat → ClassId} {E : xPhi} {h : xH} {a : Nat} (hk : (xK h a).1 = 42) : xcell cl ft dA E h a = .inl (dA 42, (xK h a).2, .inl (xI h a)) := by
  rw [xcell, hk, if_neg (by decide), if_pos (by decide)]
theorem xcell_j {cl : List vw_C} {ft : Nat → Nat → FieldType} {dA : Nat → ClassId} {E : xPhi} {h : xH} {a : Nat} (hk : (xK h a).1 = 41) : xcell cl ft dA E h a = .inl (dA 41, (xK h a).2, .inr (.inl (xJ h a))) := by
  rw [xcell, hk, if_neg (by decide), if_neg (by decide), if_pos rfl]
theorem xcell_a {cl : List vw_C} {ft : Nat → Nat → FieldType} {dA : Nat → ClassId} {E : xPhi} {h : xH} {a k : Nat} (hk : (xK h a).1 = k) (hc : 60 ≤ k) : xcell cl ft dA E h a = .inl (dA k, (xK h a).2, .inr (.inr (.inr (.inr (fun j => xro E (xR h a j)))))) := by
  subst hk
  rw [xcell, if_neg (by omega), if_neg (by omega), if_neg (by omega)]
/-- a cell is the same where its parts are -/
theorem xcell_eq {cl : List vw_C} {ft : Nat → Nat → FieldType} {dA : Nat → ClassId} {E E1 : xPhi} {h h1 : xH} {a : Nat} (hk : xK h1 a = xK h a) (hi : ∀ k, xI h1 a k = xI h a k) (hj : ∀ k, xJ h1 a k = xJ h a k) (hr : ∀ k, xro E1 (xR h1 a k) = xro E (xR h a k)) : xcell cl ft dA E1 h1 a = xcell cl ft dA E h a := by
  have e1 : xI h1 a = xI h a := funext hi
  have e2 : xJ h1 a = xJ h a := funext hj
  have e3 : (fun j => xro E1 (xR h1 a j)) = fun j => xro E (xR h a j) := funext hr
  have e4 : ∀ ci, xfs cl ft E1 h1 a ci = xfs cl ft E h a ci := fun ci => by
    unfold xfs
    refine List.map_congr_left fun k _ => ?_
    unfold xfv
    rw [hi, hj, hr]
  unfold xcell
  rw [hk, e1, e2, e3, e4]
theorem xro_ext {E E1 : xPhi} {n r : Nat} (hE : ∀ a, a < n → E1.1 a = E.1 a) (hr : r ≤ n) : xro E1 r = xro E r := by
  cases r with
  | zero => rfl
  | succ q => show some _ = some _; rw [hE q (by omega)]
theorem xu_at {α : Type} (f : Nat → Nat → α) (a k : Nat) (v : α) : xu f a k v a k = v := if_pos ⟨rfl, rfl⟩
theorem xu_ne {α : Type} (f : Nat → Nat → α) {a k b j : Nat} (v : α) (h : ¬ (b = a ∧ j = k)) : xu f a k v b j = f b j := if_neg h
section XH
variable {p : Program} {l : Launch} {e : Env} {R : Room} {s : State} {m : MethodId} {args : Array Value} {below : List Frame} {meth : Method} {c : Code} {H : Heap} {locs : List Loc} {cells slots : Nat} {Q : State → Prop}
variable {cc : ByteArray} {pc : Nat} {ls : Array Slot} {D : va_G} {cl : List vw_C} {ft : Nat → Nat → FieldType} {dA : Nat → ClassId} {A : Nat → Prop} {tys : List (ClassId × FieldType)} {H0 : Heap} {E : xPhi} {h : xH} {Ts : List Cond}
theorem xPt_one (hP : xPt cl ft dA D E h H) {a : Nat} (ha : a < xN h) {x : va_E} (hx : xcell cl ft dA E h a = x) : va_P D cl [(E.1 a, x)] H := by
  intro k q hq
  have hk : k < 1 := (List.getElem?_eq_some_iff.mp hq).1
  rw [show k = 0 by omega] at hq
  cases hq
  rw [← hx]
  exact hP a ha
/-- one cell is written: the others stay -/
theorem xPt_put (hP : xPt cl ft dA D E h H) (hW : xWf A E h) {a : Nat} (ha : a < xN h) {h1 : xH} {H1 : Heap} (hn : xN h1 = xN h) (ho : ∀ b, b < xN h → b ≠ a → xcell cl ft dA E h1 b = xcell cl ft dA E h b) (hq : ∀ q, q ≠ E.1 a → H1[q]? = H[q]?) (hc : va_at D cl (E.1 a, xcell cl ft dA E h1 a) H1) : xPt cl ft dA D E h1 H1 := by
  intro b hb
  rw [hn] at hb
  by_cases e : b = a
  · subst e
    exact hc
  · rw [ho b hb e]
    exact (hP b hb).kept (hq _ (fun z => e (hW.1 b a hb ha z)))
/-- what a field's row must say: its link, plain or of a nest mate -/
def xLk (own : String) (idx : Nat) (C : String) (T : u_T) (k : Nat) (s : State) (args : Array Value) : Prop := (Cond.fieldLink own idx C (T k).2.1 (T k).2.2.1).before args s = true ∨ ∃ host, (Cond.fieldLinkNest own idx C (T k).2.1 (T k).2.2.1 host).before args s = true
theorem xs_get (hexec : p.tables.exec = Jvm.exec) (hb : c.code = cc) {own C : String} {T : u_T} {N ci idx k a : Nat} (hts : ∀ w ∈ Ts, w.before args s = true) (hin : ∀ w ∈ u_ws C T N, w ∈ Ts) (hown : s.vm.findClass own = some m.cls) (hK : va_K D cl tys s) (hP : xPt cl ft dA D E h H) (ha : a < xN h) (hka : (xK h a).1 = ci) (h40 : ci < 40) (hc : cl[ci]? = some (C, T, N)) (hk : k < N) (hC : (T k).1 = C) (hlk : xLk own idx C T k s args) {rest : List Value} (hdg : decode cc pc = .ok (.getfield idx, 3))
    (kk : W p l e R s m args below meth c H locs cells slots Q (F0 m (pc + 3) ls (xfv ft E h a ci k :: rest))) : W p l e R s m args below meth c H locs cells slots Q (F0 m pc ls (.ref (E.1 a) :: rest)) := by
  have hP1 := xPt_one hP ha (xcell_o hka h40)
  have hv : (xfs cl ft E h a ci)[k]? = some (xfv ft E h a ci k) := by
    unfold xfs xnf
    rw [hc, List.getElem?_map, List.getElem?_range hk]
    rfl
  rcases hlk with hlk | ⟨host, hlk⟩
  · exact va_get (D := D) (ci := ci) hexec hb hts hin hown hK hP1 0 rfl hc k hk hlk (fun x hx => by rw [hC] at hx; exact hx) hv hdg kk
  · exact va_getN (D := D) (ci := ci) hexec hb hts hin hown hK hP1 0 rfl hc k hk hlk (fun x hx => by rw [hC] at hx; exact hx) hv hdg kk
/-- a field is written: h1 is the heap then -/
theorem xs_put (hexec : p.tables.exec = Jvm.exec) (hb : c.code = cc) {own C : String} {T : u_T} {N ci idx k a : Nat} (hts : ∀ w ∈ Ts, w.before args s = true) (hin : ∀ w ∈ u_ws C T N, w ∈ Ts) (hty : ∀ k, k < N → parseFieldDescriptor (T k).2.2.1 = some (ft ci k)) (hnm : ∀ a, a < N → ∀ b, b < N → a ≠ b → (T a).2.1 ≠ (T b).2.1) (hown : s.vm.findClass own = some m.cls) (hK : va_K D cl tys s) (hP : xPt cl ft dA D E h H) (hW : xWf A E h) (hS : va_S A H0 H locs) (ha : a < xN h) (hka : (xK h a).1 = ci) (h40 : ci < 40) (hc : cl[ci]? = some (C, T, N)) (hk : k < N) (hC : (T k).1 = C) (hlk : xLk own idx C T k s args)
    (hfin : (T k).2.2.2 = false ∨ ((T k).2.2.2 = true ∧ meth.name = "<init>" ∧ C = own ∧ (Cond.fieldLink own idx C (T k).2.1 (T k).2.2.1).before args s = true)) {v : Value} (hn : narrow (ft ci k) v = v) (hfit : fits (ft ci k) v = true) {h1 : xH} (hn1 : xN h1 = xN h) (hk1 : xK h1 = xK h) (ho : ∀ b, b < xN h → b ≠ a → xcell cl ft dA E h1 b = xcell cl ft dA E h b) (hf0 : xfv ft E h1 a ci k = v) (hf1 : ∀ j, j ≠ k → xfv ft E h1 a ci j = xfv ft E h a ci j)
    {rest : List Value} (hdg : decode cc pc = .ok (.putfield idx, 3))
    (kk : ∀ (H1 : Heap) (locs1 : List Loc), xPt cl ft dA D E h1 H1 → va_S A H0 H1 locs1 → H1.size = H.size → W p l e R s m args below meth c H1 locs1 cells slots Q (F0 m (pc + 3) ls rest)) : W p l e R s m args below meth c H locs cells slots Q (F0 m pc ls (v :: .ref (E.1 a) :: rest)) := by
  have hap := va_apart (own := own) hts hin (ft ci) hty hnm hK hc
  have hat : va_at D cl (E.1 a, .inr (ci, xfs cl ft E h a ci)) H := by
    have := hP a ha
    rw [xcell_o hka h40] at this
    exact this
  obtain ⟨r, g1, cell, q1, q2, q3, q4⟩ := hat
  have hr : r = (C, T, N) := Option.some.inj (g1.symm.trans hc)
  subst hr
  obtain ⟨hSl, hfc, kC, hkC, hkind⟩ := hK.1 ci _ hc
  obtain ⟨cf, kf, fi, f, hi, hsl⟩ := hSl k hk
  have hi' : s.fieldFound? C (T k).2.1 (T k).2.2.1 = some (cf, kf, fi, f) := by rw [hC] at hi; exact hi
  have hst := (u_facts hfc hkC (u_lays hts hin hk) hi).1
  have hlay := hts _ (hin _ (u_in_lay hk))
  have hxf : ∀ (h2 : xH) (j : Nat), j < N → vp_V (xfs cl ft E h2 a ci) j = xfv ft E h2 a ci j := fun h2 j hj => by
    unfold vp_V xfs xnf
    rw [hc, List.getD_eq_getElem?_getD, List.getElem?_map, List.getElem?_range hj]
    rfl
  have fin : ∀ (H' : Heap), H'[E.1 a]? = some (cell.setSlot f.slot v) → H'.size = H.size → (∀ q, q ≠ E.1 a → H'[q]? = H[q]?) → W p l e R s m args below meth c H' (locs ++ [⟨E.1 a, f.slot⟩]) cells slots Q (F0 m (pc + 3) ls rest) := by
    intro H' e1 e2 e3
    rw [hsl] at e1 ⊢
    refine kk H' _ (xPt_put hP hW ha hn1 ho e3 ?_) (hS.put e2 e3 (hW.2.1 a ha)) e2
    rw [xcell_o (by rw [hk1]; exact hka) h40]
    refine ⟨_, hc, t_OB.to (V := updV (vp_V (xfs cl ft E h a ci)) k v) ⟨_, e1, q2, q3, t_set q4 hap hk v⟩ (fun j hj => ?_)⟩
    rw [hxf h1 j hj]
    by_cases ej : j = k
    · subst ej
      rw [hf0]
      simp [updV]
    · rw [hf1 j ej, ← hxf h j hj]
      simp [updV, ej]
  have hlt : f.slot < cell.slots.size := by rw [hsl]; exact k2_hasslot (q4 k hk)
  rcases hfin with hfin | ⟨hfin, hin2, hCo, hlk2⟩
  · unfold u_lay at hlay
    rw [if_neg (by rw [hfin]; decide)] at hlay
    have h6 := u_store hfc hkC hkind hlay hi (hty k hk) hn hfit
    rcases hlk with hlk | ⟨host, hlk⟩
    · exact W.putK hexec hb (f := f) ⟨hown, hlk, ⟨_, _, _, hi'⟩, hst⟩ (by rw [q2]; exact h6) q1 q3 hlt rfl rfl hdg fin
    · exact va_WputK hexec hb (f := f) hown hlk hi' hst (by rw [q2]; exact h6) q1 q3 hlt rfl rfl hdg fin
  · unfold u_lay at hlay
    rw [if_pos hfin] at hlay
    have hcf : m.cls = cf := by
      obtain ⟨_, _, c', _, _, _, -, -, hf', -, -, -, hown2, -⟩ := Cond.laysFinal_spec hlay
      have e1 : c' = cf := by have := hi.symm.trans hf'; simp at this; exact this.1.symm
      rw [hC, hCo] at hown2
      rw [← e1]; exact Option.some.inj (hown.symm.trans hown2)
    have h6 := u_fits hfc hkC hkind (Or.inr hlay) hi (hty k hk) hn hfit
    exact W.putFinK hexec hb hown hlk2 hi' hst hcf hin2 (by rw [q2]; exact h6) q1 q3 hlt rfl rfl hdg fin
end XH
