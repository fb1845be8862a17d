/-! WHAT IS THROWN. A method that throws does so ahead of all writing: its walk to the throw only reads. -/
def xroB : Instr → Bool
  | .iconst _ => true
  | .bipush _ => true
  | .sipush _ => true
  | .iload _ => true
  | .iload_n _ => true
  | .aload _ => true
  | .aload_n _ => true
  | .goto _ => true
  | .ifCond _ _ => true
  | .if_icmp _ _ => true
  | .isub => true
  | .iadd => true
  | .getfield _ => true
  | _ => false
def xroR (q : xT) : Bool := match q.1 with
  | .new _ => Nat.ble 2000 q.2.2.1
  | i => xroB i
/-- a method's rows that only read -/
def xro9 (P : xP) : xP := (fun pc => match P.1 pc with
  | some q => bif xroR q then some q else none
  | none => none, P.2)
/-- a method, by its number, at a depth -/
def xF (X : xX) (T : Nat → xP) : Nat → Nat → List xV → xH → xO → xH → Prop
  | 0 => fun _ _ _ _ _ => False
  | d + 1 => fun y args h o h' => xwd args ≤ (T y).2.2 ∧ match o with
    | .inl v => ∃ n, xC X d (xF X T d) (T y) n 0 (xarg 0 args) [] h (.inl v) h'
    | .inr k => ∃ n, xC X d (xF X T d) (xro9 (T y)) n 0 (xarg 0 args) [] h (.inr k) h'
theorem xF_le {X : xX} {T : Nat → xP} : ∀ (d y : Nat) (args : List xV) (h : xH) (o : xO) (h' : xH), xF X T d y args h o h' → xle h h' := by
  intro d
  induction d with
  | zero => intro y args h o h' hx; exact hx.elim
  | succ d ih =>
    intro y args h o h' hx
    cases o with
    | inl v =>
      obtain ⟨-, n, hn⟩ := hx
      exact xC_le ih n _ _ _ _ _ _ hn
    | inr k =>
      obtain ⟨-, n, hn⟩ := hx
      exact xC_le ih n _ _ _ _ _ _ hn
/-- a static field of Throwable's that holds a reference or null -/
def xSt (n d : String) (A : Nat → Prop) (U : State) (H : Heap) : Prop := ∃ (c : ClassId) (k : Class) (i : Nat) (f : Field) (a : Nat) (cell : Cell) (v : Value), U.vm.findClass Bundle.tN = some c ∧ U.fieldFound? Bundle.tN n d = some (c, k, i, f) ∧ f.isStatic = true ∧ k.statics = some a ∧ H[a]? = some cell ∧ cell.vm.isStatics = true ∧ cell.cls = c ∧ f.slot < cell.slots.size ∧ k.staticTypes[f.slot]? = some f.type ∧ cell.slots[f.slot]? = some v ∧ v.isRef = true ∧ ¬ A a
theorem xSt.moved {n d : String} {A : Nat → Prop} {u U : State} {H H1 : Heap} (hvm : u.vm.Alike U.vm) (hq : ∀ a : Nat, a < H.size → ¬ A a → H1[a]? = H[a]?) (h : xSt n d A u H) : xSt n d A U H1 := by
  obtain ⟨c, k, i, f, a, cell, v, h1, h2, h3, h4, h5, h6, h7, h8, h9, h10, h11, h12⟩ := h
  obtain ⟨k', hi', he⟩ := State.fieldFound?_setVm hvm h2
  exact ⟨c, k', i, f, a, cell, v, by rw [hvm.findClass]; exact h1, hi', h3, by rw [he]; exact h4, by rw [hq a (Array.getElem?_eq_some_iff.mp h5).1 h12]; exact h5, h6, h7, h8, by rw [he]; exact h9, h10, h11, h12⟩
theorem xSt.lays {n d : String} {A : Nat → Prop} {U : State} {args : Array Value} (h : xSt n d A U U.heap) : (Cond.laysStatic Bundle.tN n d).before args U = true := by
  obtain ⟨c, k, i, f, a, cell, v, h1, h2, h3, h4, h5, h6, h7, h8, h9, h10, h11, h12⟩ := h
  simp [Cond.before, Cond.holds, Cond.value, h1, h2, h3, h4, h5, h6, h7, h8, h9]
theorem xSt.isref {n d : String} {A : Nat → Prop} {U : State} {args : Array Value} (h : xSt n d A U U.heap) : (Cond.isRef (.static Bundle.tN n d)).before args U = true := by
  obtain ⟨c, k, i, f, a, cell, v, h1, h2, h3, h4, h5, h6, h7, h8, h9, h10, h11, h12⟩ := h
  have hv : (Term.static Bundle.tN n d).eval args U none [] U = some v := by
    simp [Term.eval, State.fieldNamed?, h2, h3, h4, h5, h6, h10]
  cases v <;> simp_all [Cond.before, Cond.holds, Cond.value, Value.isRef]
theorem xSt.of {n d : String} {A : Nat → Prop} {s : State} {args : Array Value} (hl : (Cond.laysStatic Bundle.tN n d).before args s = true) (hr : (Cond.isRef (.static Bundle.tN n d)).before args s = true) (hA : ∀ a : Nat, a < s.heap.size → ¬ A a) : xSt n d A s s.heap := by
  obtain ⟨c, k, i, f, a, cell, hc, hi, hst, ha, hcell, hs, hcls, hlt, hty⟩ := Cond.laysStatic_spec hl
  obtain ⟨v, hv, hvr⟩ := Cond.isRef_spec hr
  obtain ⟨hst', a', cell', ha', hcell', -, hslot⟩ := Term.static_spec hi hv
  cases ha.symm.trans ha'
  cases hcell.symm.trans hcell'
  exact ⟨c, k, i, f, a, cell, v, hc, hi, hst, ha, hcell, hs, hcls, hlt, hty, hslot, hvr, hA a (Array.getElem?_eq_some_iff.mp hcell).1⟩
def xdc : Cond → Bool
  | .declares _ => true
  | .castable _ _ => true
  | _ => false
/-- what a throw asks of its surroundings -/
def xTx (tb : List Cond) (A : Nat → Prop) (U : State) (H : Heap) : Prop := (∀ w ∈ tb, xdc w = true → va_Nw w U) ∧ xSt "UNASSIGNED_STACK" Bundle.steD A U H ∧ xSt "SUPPRESSED_SENTINEL" Bundle.listD A U H
theorem xTx.warm {tb : List Cond} {A : Nat → Prop} {s U : State} {H H1 : Heap} (hW : s.WarmedH U.vm) (hq : ∀ a : Nat, a < H.size → ¬ A a → H1[a]? = H[a]?) (h : xTx tb A s H) : xTx tb A U H1 := by
  refine ⟨fun w hw hn => ?_, h.2.1.moved hW.alike hq, h.2.2.moved hW.alike hq⟩
  have h1 := h.1 w hw hn
  cases w with
  | declares x => exact va_Nw.warmD hW h1
  | castable a b => exact va_Nw.warmC hW h1
  | _ => cases hn
theorem xTx.same {tb : List Cond} {A : Nat → Prop} {s U : State} {H : Heap} (hv : s.vm = U.vm) (h : xTx tb A s H) : xTx tb A U H := by
  have ha : s.vm.Alike U.vm := hv ▸ Vm.Alike.refl s.vm
  refine ⟨fun w hw hn => ?_, h.2.1.moved ha (fun _ _ _ => rfl), h.2.2.moved ha (fun _ _ _ => rfl)⟩
  have h1 := h.1 w hw hn
  cases w with
  | declares x => exact va_Nw.same rfl hv h1
  | castable a b => exact va_Nw.same rfl hv h1
  | _ => cases hn
/-- the words of a throw, by a program's check -/
def xthB (tb : List Cond) (own cls : String) (ic : Nat) (names : List String) : Bool := (Bundle.ownAtoms0 own ic cls names).all fun w => decide (w ∈ tb) && (goodWord w || xdc w) || decide (w = .isRef (.static Bundle.tN "UNASSIGNED_STACK" Bundle.steD)) || decide (w = .isRef (.static Bundle.tN "SUPPRESSED_SENTINEL" Bundle.listD)) || decide (w = .laysStatic Bundle.tN "UNASSIGNED_STACK" Bundle.steD) || decide (w = .laysStatic Bundle.tN "SUPPRESSED_SENTINEL" Bundle.listD)
theorem xth_of {tb : List Cond} {own cls : String} {ic : Nat} {names : List String} {s : State} {args : Array Value} {A : Nat → Prop} (h : xthB tb own cls ic names = true) (hts : ∀ w ∈ tb, goodWord w = true → w.before args s = true) (hT : xTx tb A s s.heap) : ∀ w ∈ Bundle.ownAtoms0 own ic cls names, w.before args s = true := by
  intro w hw
  have h1 := List.all_eq_true.mp h w hw
  simp only [Bool.or_eq_true, Bool.and_eq_true, decide_eq_true_eq] at h1
  rcases h1 with (((⟨h1, h2⟩ | rfl) | rfl) | rfl) | rfl
  · rcases h2 with h2 | h2
    · exact hts w h1 h2
    · have h3 := hT.1 w h1 h2
      cases w with
      | declares x => exact va_Nw.use rfl h3
      | castable a b => exact va_Nw.use rfl h3
      | _ => cases h2
  · exact hT.2.1.isref
  · exact hT.2.2.isref
  · exact hT.2.1.lays
  · exact hT.2.2.lays
