/-- the next address -/
def xE1 (E : xPhi) (n q : Nat) : xPhi := (xk E.1 n q, E.2)
theorem xE1_at (E : xPhi) (n q : Nat) : (xE1 E n q).1 n = q := if_pos rfl
theorem xE1_ne (E : xPhi) {n a : Nat} (q : Nat) (h : a ≠ n) : (xE1 E n q).1 a = E.1 a := if_neg h
section XNE
variable {p : Program} {l : Launch} {e : Env} {R : Room} {s : State} {m : MethodId} {args : Array Value} {below : List Frame} {meth : Method} {c : Code} {H : Heap} {locs : List Loc} {cells slots : Nat} {Q : State → Prop}
variable {cc : ByteArray} {pc : Nat} {ls : Array Slot} {D : va_G} {cl : List vw_C} {ft : Nat → Nat → FieldType} {dA : Nat → ClassId} {A : Nat → Prop} {tys : List (ClassId × FieldType)} {H0 : Heap} {E : xPhi} {h : xH} {Ts : List Cond} {rest : List Value}
theorem xPt_lt (hP : xPt cl ft dA D E h H) {a : Nat} (ha : a < xN h) : E.1 a < H.size := (hP a ha).lt
theorem xcell_new_o {kind n b q : Nat} (hW : xWf A E h) (hb : b < xN h) : xcell cl ft dA (xE1 E (xN h) q) (xnew h kind n) b = xcell cl ft dA E h b := by
  have hne : b ≠ xN h := Nat.ne_of_lt hb
  refine xcell_eq ?_ (fun k => ?_) (fun k => ?_) (fun k => ?_)
  · exact if_neg hne
  · exact if_neg hne
  · exact if_neg hne
  · have e1 : xR (xnew h kind n) b k = xR h b k := if_neg hne
    rw [e1]
    exact xro_ext (n := xN h) (fun a ha => xE1_ne E q (Nat.ne_of_lt ha)) (hW.2.2.2 b k)
theorem xPt_new {kind n : Nat} {H1 : Heap} (hP : xPt cl ft dA D E h H) (hW : xWf A E h) (ho : ∀ q, q < H.size → H1[q]? = H[q]?) (hc : va_at D cl (H.size, xcell cl ft dA (xE1 E (xN h) H.size) (xnew h kind n) (xN h)) H1) : xPt cl ft dA D (xE1 E (xN h) H.size) (xnew h kind n) H1 := by
  intro b hb
  have hb' : b < xN h + 1 := hb
  by_cases e1 : b = xN h
  · subst e1
    rw [xE1_at]
    exact hc
  · have hlt : b < xN h := by omega
    rw [xE1_ne E _ e1, xcell_new_o hW hlt]
    exact (hP b hlt).kept (ho _ (xPt_lt hP hlt))
theorem xWf_new {kind n : Nat} (hP : xPt cl ft dA D E h H) (hW : xWf A E h) (hA : A H.size) : xWf A (xE1 E (xN h) H.size) (xnew h kind n) := by
  obtain ⟨w1, w2, w3, w4⟩ := hW
  refine ⟨fun a b ha hb q => ?_, fun a ha => ?_, fun a ha => ?_, fun a k => ?_⟩
  · have ha' : a < xN h + 1 := ha
    have hb' : b < xN h + 1 := hb
    by_cases e1 : a = xN h <;> by_cases e2 : b = xN h
    · rw [e1, e2]
    · rw [e1, xE1_at, xE1_ne E _ e2] at q
      have := xPt_lt hP (show b < xN h by omega)
      omega
    · rw [e2, xE1_at, xE1_ne E _ e1] at q
      have := xPt_lt hP (show a < xN h by omega)
      omega
    · rw [xE1_ne E _ e1, xE1_ne E _ e2] at q
      exact w1 a b (by omega) (by omega) q
  · have ha' : a < xN h + 1 := ha
    by_cases e1 : a = xN h
    · rw [e1, xE1_at]
      exact hA
    · rw [xE1_ne E _ e1]
      exact w2 a (by omega)
  · have ha' : xN h + 1 ≤ a := ha
    have e1 : xK (xnew h kind n) a = xK h a := if_neg (show ¬ a = xN h by omega)
    rw [e1]
    exact w3 a (by omega)
  · by_cases e1 : a = xN h
    · have e2 : xR (xnew h kind n) a k = 0 := if_pos e1
      rw [e2]
      exact Nat.zero_le _
    · have e2 : xR (xnew h kind n) a k = xR h a k := if_neg e1
      rw [e2]
      exact Nat.le_trans (w4 a k) (Nat.le_succ _)
theorem xs_new (hexec : p.tables.exec = Jvm.exec) (hb : c.code = cc) {own C : String} {T : u_T} {N ci idx : Nat} (hts : ∀ w ∈ Ts, w.before args s = true) (hin : ∀ w ∈ u_ws C T N, w ∈ Ts) (hty : ∀ k, k < N → parseFieldDescriptor (T k).2.2.1 = some (ft ci k)) (hdf : ∀ k, k < N → xft (ft ci k) = 3 → defaultValue (ft ci k) = .null) (hown : s.vm.findClass own = some m.cls) (hcl : (Cond.classLink own idx C).before args s = true) (hinst : (Cond.instantiable C N).before args s = true) (hini : (Cond.initialized C).before args s = true)
    (hK : va_K D cl tys s) (hP : xPt cl ft dA D E h H) (hW : xWf A E h) (hS : va_S A H0 H locs) (h40 : ci < 40) (hc : cl[ci]? = some (C, T, N)) (hcells : cells + 1 ≤ R.cells) (hslots : slots + N ≤ R.slots) (hdg : decode cc pc = .ok (.new idx, 3))
    (kk : ∀ H1 : Heap, xPt cl ft dA D (xE1 E (xN h) H.size) (xnew h ci N) H1 → va_S A H0 H1 locs → H1.size = H.size + 1 → W p l e R s m args below meth c H1 locs (cells + 1) (slots + N) Q (F0 m (pc + 3) ls (.ref H.size :: rest))) : W p l e R s m args below meth c H locs cells slots Q (F0 m pc ls rest) := by
  have hKn := hK.1 ci _ hc
  refine W.newcK hexec hb hown hcl hinst hini rfl hdg hcells hslots hKn.2.1 rfl fun H1 kC hkC e1 z1 o1 => ?_
  refine kk H1 (xPt_new hP hW o1 ?_) ⟨Nat.le_trans hS.1 (by omega), fun x h1 h2 => (o1 x (Nat.lt_of_lt_of_le h1 hS.1)).trans (hS.2.1 x h1 h2), hS.2.2⟩ z1
  have e0 : xK (xnew h ci N) (xN h) = (ci, N) := if_pos rfl
  have e2 : (xK (xnew h ci N) (xN h)).1 = ci := by rw [e0]
  rw [xcell_o e2 h40]
  refine ⟨_, hc, (u_born (ft ci) hts hin hKn hkC e1 hty).to fun j hj => ?_⟩
  have hxf : vp_V (xfs cl ft (xE1 E (xN h) H.size) (xnew h ci N) (xN h) ci) j = xfv ft (xE1 E (xN h) H.size) (xnew h ci N) (xN h) ci j := by
    unfold vp_V xfs xnf
    rw [hc, List.getD_eq_getElem?_getD, List.getElem?_map, List.getElem?_range hj]
    rfl
  rw [hxf]
  have i0 : xI (xnew h ci N) (xN h) j = 0 := if_pos rfl
  have j0 : xJ (xnew h ci N) (xN h) j = 0 := if_pos rfl
  have r0 : xR (xnew h ci N) (xN h) j = 0 := if_pos rfl
  have hd := hdf j hj
  unfold xfv
  rw [i0, j0, r0]
  cases hf : ft ci j <;> rw [hf] at hd <;> first | rfl | exact hd rfl
theorem xs_newi (hexec : p.tables.exec = Jvm.exec) (hb : c.code = cc) (harr : (Cond.arrayClass .int).before args s = true) (hK : va_K D cl tys s) (hP : xPt cl ft dA D E h H) (hW : xWf A E h) (hS : va_S A H0 H locs) (t0 : Nat) (ht : tys[t0]? = some (dA 40, .int)) {n : Int32} (hn : ¬ n < 0) (hN : n.toNatClampNeg ≤ 10000) (hcells : cells + 1 ≤ R.cells) (hslots : slots + n.toNatClampNeg ≤ R.slots) (hdg : decode cc pc = .ok (.newarray .int, 2))
    (kk : ∀ H1 : Heap, xPt cl ft dA D (xE1 E (xN h) H.size) (xnew h 40 n.toNatClampNeg) H1 → va_S A H0 H1 locs → H1.size = H.size + 1 → W p l e R s m args below meth c H1 locs (cells + 1) (slots + n.toNatClampNeg) Q (F0 m (pc + 2) ls (.ref H.size :: rest))) : W p l e R s m args below meth c H locs cells slots Q (F0 m pc ls (.int n :: rest)) := by
  refine va_newaK (atype := .int) hexec hb harr rfl hdg rfl hn rfl (by show _ * componentBytes .int ≤ _; simp only [componentBytes]; omega) hcells hslots rfl fun H1 cA e1 z1 o1 hAr hNm => ?_
  have hcA : cA = dA 40 := Option.some.inj (hNm.symm.trans (hK.2 t0 _ ht).2)
  subst hcA
  refine kk H1 (xPt_new hP hW o1 ?_) ⟨Nat.le_trans hS.1 (by omega), fun x h1 h2 => (o1 x (Nat.lt_of_lt_of_le h1 hS.1)).trans (hS.2.1 x h1 h2), hS.2.2⟩ z1
  have e2 : xK (xnew h 40 n.toNatClampNeg) (xN h) = (40, n.toNatClampNeg) := if_pos rfl
  rw [xcell_i (by rw [e2]), e2]
  show H1[H.size]? = some (vp_cell _ _)
  rw [e1, vp_cell_i]
  congr 2
  funext q
  have i0 : xI (xnew h 40 n.toNatClampNeg) (xN h) q = 0 := if_pos rfl
  rw [i0]
  rfl
theorem xs_newj (hexec : p.tables.exec = Jvm.exec) (hb : c.code = cc) (harr : (Cond.arrayClass .long).before args s = true) (hK : va_K D cl tys s) (hP : xPt cl ft dA D E h H) (hW : xWf A E h) (hS : va_S A H0 H locs) (t0 : Nat) (ht : tys[t0]? = some (dA 41, .long)) {n : Int32} (hn : ¬ n < 0) (hN : n.toNatClampNeg ≤ 10000) (hcells : cells + 1 ≤ R.cells) (hslots : slots + n.toNatClampNeg ≤ R.slots) (hdg : decode cc pc = .ok (.newarray .long, 2))
    (kk : ∀ H1 : Heap, xPt cl ft dA D (xE1 E (xN h) H.size) (xnew h 41 n.toNatClampNeg) H1 → va_S A H0 H1 locs → H1.size = H.size + 1 → W p l e R s m args below meth c H1 locs (cells + 1) (slots + n.toNatClampNeg) Q (F0 m (pc + 2) ls (.ref H.size :: rest))) : W p l e R s m args below meth c H locs cells slots Q (F0 m pc ls (.int n :: rest)) := by
  refine va_newaK (atype := .long) hexec hb harr rfl hdg rfl hn rfl (by show _ * componentBytes .long ≤ _; simp only [componentBytes]; omega) hcells hslots rfl fun H1 cA e1 z1 o1 hAr hNm => ?_
  have hcA : cA = dA 41 := Option.some.inj (hNm.symm.trans (hK.2 t0 _ ht).2)
  subst hcA
  refine kk H1 (xPt_new hP hW o1 ?_) ⟨Nat.le_trans hS.1 (by omega), fun x h1 h2 => (o1 x (Nat.lt_of_lt_of_le h1 hS.1)).trans (hS.2.1 x h1 h2), hS.2.2⟩ z1
  have e2 : xK (xnew h 41 n.toNatClampNeg) (xN h) = (41, n.toNatClampNeg) := if_pos rfl
  rw [xcell_j (by rw [e2]), e2]
  show H1[H.size]? = some (vp_cell _ _)
  rw [e1, vp_cell_l]
  congr 2
  funext q
  have i0 : xJ (xnew h 41 n.toNatClampNeg) (xN h) q = 0 := if_pos rfl
  rw [i0]
  rfl
theorem xs_newz (hexec : p.tables.exec = Jvm.exec) (hb : c.code = cc) (harr : (Cond.arrayClass .boolean).before args s = true) (hK : va_K D cl tys s) (hP : xPt cl ft dA D E h H) (hW : xWf A E h) (hS : va_S A H0 H locs) (t0 : Nat) (ht : tys[t0]? = some (dA 42, .boolean)) {n : Int32} (hn : ¬ n < 0) (hN : n.toNatClampNeg ≤ 10000) (hcells : cells + 1 ≤ R.cells) (hslots : slots + n.toNatClampNeg ≤ R.slots) (hdg : decode cc pc = .ok (.newarray .boolean, 2))
    (kk : ∀ H1 : Heap, xPt cl ft dA D (xE1 E (xN h) H.size) (xnew h 42 n.toNatClampNeg) H1 → va_S A H0 H1 locs → H1.size = H.size + 1 → W p l e R s m args below meth c H1 locs (cells + 1) (slots + n.toNatClampNeg) Q (F0 m (pc + 2) ls (.ref H.size :: rest))) : W p l e R s m args below meth c H locs cells slots Q (F0 m pc ls (.int n :: rest)) := by
  refine va_newaK (atype := .boolean) hexec hb harr rfl hdg rfl hn rfl (by show _ * componentBytes .boolean ≤ _; simp only [componentBytes]; omega) hcells hslots rfl fun H1 cA e1 z1 o1 hAr hNm => ?_
  have hcA : cA = dA 42 := Option.some.inj (hNm.symm.trans (hK.2 t0 _ ht).2)
  subst hcA
  refine kk H1 (xPt_new hP hW o1 ?_) ⟨Nat.le_trans hS.1 (by omega), fun x h1 h2 => (o1 x (Nat.lt_of_lt_of_le h1 hS.1)).trans (hS.2.1 x h1 h2), hS.2.2⟩ z1
  have e2 : xK (xnew h 42 n.toNatClampNeg) (xN h) = (42, n.toNatClampNeg) := if_pos rfl
  rw [xcell_z (by rw [e2]), e2]
  show H1[H.size]? = some (vp_cell _ _)
  rw [e1, vp_cell_i]
  congr 2
  funext q
  have i0 : xI (xnew h 42 n.toNatClampNeg) (xN h) q = 0 := if_pos rfl
  rw [i0]
  rfl
theorem xs_newq (hexec : p.tables.exec = Jvm.exec) (hb : c.code = cc) {own C : String} {idx k : Nat} (hown : s.vm.findClass own = some m.cls) (hclink : (Cond.classLink own idx C).before args s = true) (hover : va_AO C s) (hK : va_K D cl tys s) (hP : xPt cl ft dA D E h H) (hW : xWf A E h) (hS : va_S A H0 H locs) (h60 : 60 ≤ k) (t0 : Nat) (ht : tys[t0]? = some (dA k, .object C)) {n : Int32} (hn : ¬ n < 0) (hN : n.toNatClampNeg ≤ 10000) (hcells : cells + 1 ≤ R.cells) (hslots : slots + n.toNatClampNeg ≤ R.slots) (hdg : decode cc pc = .ok (.anewarray idx, 3))
    (kk : ∀ H1 : Heap, xPt cl ft dA D (xE1 E (xN h) H.size) (xnew h k n.toNatClampNeg) H1 → va_S A H0 H1 locs → H1.size = H.size + 1 → W p l e R s m args below meth c H1 locs (cells + 1) (slots + n.toNatClampNeg) Q (F0 m (pc + 3) ls (.ref H.size :: rest))) : W p l e R s m args below meth c H locs cells slots Q (F0 m pc ls (.int n :: rest)) := by
  refine W.anew hexec hb hown hclink (va_AO.use hover) rfl hdg rfl hn (by omega) hcells hslots fun cA kA comp f1 f2 f3 f4 => ?_
  have hcA : cA = dA k := by
    obtain ⟨kA9, comp9, g1, g2, g3, g4⟩ := (hK.2 t0 _ ht).2
    exact Option.some.inj (f1.symm.trans g4)
  subst hcA
  generalize hH1 : H.push ({ cls := dA k, slots := Array.replicate n.toNatClampNeg .null, vm := .none } : Cell) = H1
  have z1 : H1.size = H.size + 1 := by rw [← hH1, Array.size_push]
  have e1 : H1[H.size]? = some (arrV (dA k) n.toNatClampNeg (fun _ => .null)) := by rw [← hH1, Array.getElem?_push_size, ← arrV_new]
  have o1 : ∀ q : Nat, q < H.size → H1[q]? = H[q]? := fun q hq => by rw [← hH1, Array.getElem?_push, if_neg (Nat.ne_of_lt hq)]
  refine kk H1 (xPt_new hP hW o1 ?_) ⟨Nat.le_trans hS.1 (by omega), fun x h1 h2 => (o1 x (Nat.lt_of_lt_of_le h1 hS.1)).trans (hS.2.1 x h1 h2), hS.2.2⟩ z1
  have e2 : xK (xnew h k n.toNatClampNeg) (xN h) = (k, n.toNatClampNeg) := if_pos rfl
  rw [xcell_a (k := k) (by rw [e2]) h60, e2]
  show H1[H.size]? = some (vp_cell _ _)
  rw [e1, vp_cell_q]
  congr 2
  funext q
  have r0 : xR (xnew h k n.toNatClampNeg) (xN h) q = 0 := if_pos rfl
  rw [r0]
  rfl
end XNE
