/-- what the words say of a method that is called -/
def xMok (tb : List Cond) (it : xMi) : Prop := Cond.code it.1 it.2.1 it.2.2.1 it.2.2.2.1 ∈ tb ∧ Cond.initialized it.1.cls ∈ tb ∧ (it.1.cls ≠ "java/lang/invoke/MethodHandle" ∧ it.1.cls ≠ "java/lang/invoke/VarHandle") ∧ plainName it.1.cls = true ∧ (parseMethodDescriptor it.1.desc).map (fun d => d.parameters.length) = some it.2.2.2.2.2.2.2 ∧
  (it.2.2.2.2.2.2.1 = 0 → Cond.static it.1 ∈ tb) ∧ (it.2.2.2.2.2.2.1 = 1 → it.1.name = "<init>" ∧ Cond.instanceMethod it.1 ∈ tb ∧ it.2.2.2.1 = none) ∧ (it.2.2.2.2.2.2.1 = 2 → Cond.instanceMethod it.1 ∈ tb ∧ Cond.selects it.1.cls it.1 it.1 ∈ tb)
section XCL
variable {p : Program} {l : Launch} {e : Env} {R : Room} {s : State} {m : MethodId} {args : Array Value} {below : List Frame} {meth : Method} {c : Code} {H : Heap} {locs : List Loc} {cells slots : Nat} {Q : State → Prop}
variable {cc : ByteArray} {pc : Nat} {ls : Array Slot} {D : va_G} {cl : List vw_C} {ft : Nat → Nat → FieldType} {dA : Nat → ClassId} {tys : List (ClassId × FieldType)} {sT : String × String × String} {A : Nat → Prop} {X : xX} {E : xPhi} {h h1 : xH} {rest : List xV} {v : Option xV} {L : xL} {nL idx n : Nat} {tb : List Cond} {own host : String} {it : xMi}
theorem xCallB (hts : ∀ w ∈ tb, goodWord w = true → w.before args s = true) (hok : xMok tb it) {mc ms : Nat} (hfr : it.2.2.2.2.1 + 1 ≤ R.frames) (hlo : 8 + (it.2.2.1 + 11) + it.2.2.2.2.2.1 ≤ R.locals) (hlk : (Cond.methodLink own idx it.1).before args s = true) : CallB R s args own idx it.1 it.2.1 it.2.2.1 it.2.2.2.1 (.code it.1 it.2.1 it.2.2.1 it.2.2.2.1 :: tb.filter goodWord) { frames := it.2.2.2.2.1, cells := mc, slots := ms, locals := it.2.2.2.2.2.1 } mc ms it.2.2.2.2.2.2.2 := by
  obtain ⟨h1, h2, h3, -, h5, -⟩ := hok
  have hc := hts _ h1 rfl
  refine ⟨rfl, rfl, hfr, hlo, fun w hw a' U hW => ?_, List.mem_cons_self, hc, hts _ h2 rfl, h3, fun sig hs => ?_, hlk⟩
  · rcases List.mem_cons.mp hw with rfl | hw
    · exact word_at hW (good_of_word (w := .code it.1 it.2.1 it.2.2.1 it.2.2.2.1) rfl) hc
    · obtain ⟨g1, g2⟩ := List.mem_filter.mp hw
      exact word_at hW (good_of_word g2) (hts w g1 g2)
  · rw [hs] at h5
    exact (Option.some.inj h5).symm
theorem xCallN (hts : ∀ w ∈ tb, goodWord w = true → w.before args s = true) (hok : xMok tb it) {mc ms : Nat} (hfr : it.2.2.2.2.1 + 1 ≤ R.frames) (hlo : 8 + (it.2.2.1 + 11) + it.2.2.2.2.2.1 ≤ R.locals) (hlk : (Cond.methodLinkNest own idx it.1 host).before args s = true) : va_CN R s args own idx it.1 host it.2.1 it.2.2.1 it.2.2.2.1 (.code it.1 it.2.1 it.2.2.1 it.2.2.2.1 :: tb.filter goodWord) { frames := it.2.2.2.2.1, cells := mc, slots := ms, locals := it.2.2.2.2.2.1 } mc ms it.2.2.2.2.2.2.2 := by
  obtain ⟨h1, h2, h3, -, h5, -⟩ := hok
  have hc := hts _ h1 rfl
  refine ⟨⟨rfl, rfl, hfr, hlo, fun w hw a' U hW => ?_, List.mem_cons_self⟩, hc, hts _ h2 rfl, h3, fun sig hs => ?_, hlk⟩
  · rcases List.mem_cons.mp hw with rfl | hw
    · exact word_at hW (good_of_word (w := .code it.1 it.2.1 it.2.2.1 it.2.2.2.1) rfl) hc
    · obtain ⟨g1, g2⟩ := List.mem_filter.mp hw
      exact word_at hW (good_of_word g2) (hts w g1 g2)
  · rw [hs] at h5
    exact (Option.some.inj h5).symm
theorem xPc_at (as : List xV) (hK : xKx tb D cl tys s) (hX : xHx sT A E X s s.heap) (hS : va_S A s.heap H locs) (hP : xPt cl ft dA D E h H) (hA : ∀ q, s.heap.size ≤ q → A q) : ∀ U : State, U.heap = H → s.WarmedH U.vm → xPc tb cl ft dA D tys sT A X as h E (as.map (xtr E)).toArray U := fun U hU hW =>
  ⟨rfl, hK.warm hW, hX.moved hW.alike rfl (fun a g1 g2 => by rw [hU]; exact hS.2.1 a g1 g2), by rw [hU]; exact hP, fun q hq => hA q (Nat.le_trans hS.1 (by rw [hU] at hq; exact hq))⟩
theorem xwd_sum (rest : List xV) : ((rest.map (xtr E)).map fun v => v.category).sum = xwd rest := by
  induction rest with
  | nil => rfl
  | cons v r ih =>
    show (xtr E v).category + ((r.map (xtr E)).map fun v => v.category).sum = xcat v + xwd r
    rw [ih, xtr_cat]
/-- a call of a static method -/
theorem xs_callS (hexec : p.tables.exec = Jvm.exec) (hb : c.code = cc) (hml : c.maxLocals = nL) (hown : s.vm.findClass own = some m.cls) (hts : ∀ w ∈ tb, goodWord w = true → w.before args s = true) (hK : xKx tb D cl tys s) (hX : xHx sT A E X s s.heap) (hA : ∀ q, s.heap.size ≤ q → A q) (hok : xMok tb it) (hk0 : it.2.2.2.2.2.2.1 = 0) (hfr : it.2.2.2.2.1 + 1 ≤ R.frames) (hlo : 8 + (it.2.2.1 + 11) + it.2.2.2.2.2.1 ≤ R.locals)
    (hlk : (Cond.methodLink own idx it.1).before args s = true ∨ (Cond.methodLinkNest own idx it.1 host).before args s = true) (hS : va_S A s.heap H locs) (hP : xPt cl ft dA D E h H) (hW : xWf A E h) (hl : lv_has ls nL (xtL E L)) (hle : xle h h1) {as : List xV} (hna : as.length = it.2.2.2.2.2.2.2) (hw : xwts h L (as.reverse ++ rest)) (hwd : xwd rest ≤ 8) (hcon : xCon tb cl ft dA D tys sT A X l it as h v h1) (hcl : cells + (xQ h1 - xQ h) ≤ R.cells) (hsl : slots + (xZ h1 - xZ h) ≤ R.slots) (hdg : decode cc pc = .ok (.invokestatic idx, 3))
    (kk : ∀ (E1 : xPhi) (H1 : Heap) (locs1 : List Loc), (∀ a, a < xN h → E1.1 a = E.1 a) → E1.2 = E.2 → xPt cl ft dA D E1 h1 H1 → xWf A E1 h1 → va_S A s.heap H1 locs1 → lv_has ls nL (xtL E1 L) → xwts h1 L (v.toList ++ rest) → W p l e R s m args below meth c H1 locs1 (cells + (xQ h1 - xQ h)) (slots + (xZ h1 - xZ h)) Q (F0 m (pc + 3) ls ((v.toList ++ rest).map (xtr E1)))) : W p l e R s m args below meth c H locs cells slots Q (F0 m pc ls ((as.reverse ++ rest).map (xtr E))) := by
  have hwr : xwts h L rest := ⟨hw.1, fun w g => hw.2 w (List.mem_append_right _ g)⟩
  have hM := hcon E hW (fun w g => hw.2 w (List.mem_append_left _ (List.mem_reverse.mpr g)))
  have hst : (as.reverse ++ rest).map (xtr E) = (as.map (xtr E)).reverse ++ rest.map (xtr E) := by rw [List.map_append, List.map_reverse]
  rw [hst]
  have hp : PreS s H (xPc tb cl ft dA D tys sT A X as h E) (as.map (xtr E)) := ⟨xPc_blind tb cl ft dA D tys sT A X as h E, xPc_at as hK hX hS hP hA⟩
  have hstat := hts _ (hok.2.2.2.2.2.1 hk0) rfl
  refine xs_run (av := (as.map (xtr E)).toArray) ?_ hS hl hwr hle kk
  rcases hlk with hlk | hlk
  · exact va_runS (Ts := []) ⟨hexec, hb, hml, hown, fun _ g => by cases g⟩ hM ⟨xCallB hts hok hfr hlo hlk, hstat⟩ hp rfl (by rw [List.length_map]; exact hna) hl.1 rfl (by show 2 * 0 + _ ≤ 8; rw [xwd_sum]; omega) hdg ⟨hcl, hsl⟩
  · exact va_runSN (Ts := []) ⟨hexec, hb, hml, hown, fun _ g => by cases g⟩ hM ⟨xCallN hts hok hfr hlo hlk, hstat, trivial⟩ hp rfl (by rw [List.length_map]; exact hna) hl.1 rfl (by show 2 * 0 + _ ≤ 8; rw [xwd_sum]; omega) hdg ⟨hcl, hsl⟩
/-- a constructor's call -/
theorem xs_callI (hexec : p.tables.exec = Jvm.exec) (hb : c.code = cc) (hml : c.maxLocals = nL) (hown : s.vm.findClass own = some m.cls) (hts : ∀ w ∈ tb, goodWord w = true → w.before args s = true) (hK : xKx tb D cl tys s) (hX : xHx sT A E X s s.heap) (hA : ∀ q, s.heap.size ≤ q → A q) (hok : xMok tb it) (hk0 : it.2.2.2.2.2.2.1 = 1) (hfr : it.2.2.2.2.1 + 1 ≤ R.frames) (hlo : 8 + (it.2.2.1 + 11) + it.2.2.2.2.2.1 ≤ R.locals)
    (hlk : (Cond.methodLink own idx it.1).before args s = true ∨ (Cond.methodLinkNest own idx it.1 host).before args s = true) (hS : va_S A s.heap H locs) (hP : xPt cl ft dA D E h H) (hW : xWf A E h) (hl : lv_has ls nL (xtL E L)) (hle : xle h h1) {as : List xV} {k q : Nat} (hna : as.length = it.2.2.2.2.2.2.2) (hw : xwts h L (as.reverse ++ vr k q :: rest)) (hwd : xwd rest ≤ 8) (hcon : xCon tb cl ft dA D tys sT A X l it (vr k q :: as) h v h1) (hcl : cells + (xQ h1 - xQ h) ≤ R.cells) (hsl : slots + (xZ h1 - xZ h) ≤ R.slots) (hdg : decode cc pc = .ok (.invokespecial idx, 3))
    (kk : ∀ (E1 : xPhi) (H1 : Heap) (locs1 : List Loc), (∀ a, a < xN h → E1.1 a = E.1 a) → E1.2 = E.2 → xPt cl ft dA D E1 h1 H1 → xWf A E1 h1 → va_S A s.heap H1 locs1 → lv_has ls nL (xtL E1 L) → xwts h1 L (v.toList ++ rest) → W p l e R s m args below meth c H1 locs1 (cells + (xQ h1 - xQ h)) (slots + (xZ h1 - xZ h)) Q (F0 m (pc + 3) ls ((v.toList ++ rest).map (xtr E1)))) : W p l e R s m args below meth c H locs cells slots Q (F0 m pc ls ((as.reverse ++ vr k q :: rest).map (xtr E))) := by
  have hwr : xwts h L rest := ⟨hw.1, fun w g => hw.2 w (List.mem_append_right _ (List.mem_cons_of_mem _ g))⟩
  have hM := hcon E hW (fun w g => by
    rcases List.mem_cons.mp g with rfl | g
    · exact hw.2 _ (List.mem_append_right _ List.mem_cons_self)
    · exact hw.2 w (List.mem_append_left _ (List.mem_reverse.mpr g)))
  have hst : (as.reverse ++ vr k q :: rest).map (xtr E) = (as.map (xtr E)).reverse ++ .ref (xad E k q) :: rest.map (xtr E) := by
    rw [List.map_append, List.map_reverse]
    rfl
  rw [hst]
  have hp : PreS s H (xPc tb cl ft dA D tys sT A X (vr k q :: as) h E) (.ref (xad E k q) :: as.map (xtr E)) := ⟨xPc_blind tb cl ft dA D tys sT A X (vr k q :: as) h E, xPc_at (vr k q :: as) hK hX hS hP hA⟩
  obtain ⟨hi1, hi2, hi3⟩ := hok.2.2.2.2.2.2.1 hk0
  have hinst := hts _ hi2 rfl
  rw [hi3] at hM
  refine xs_run (av := (Value.ref (xad E k q) :: as.map (xtr E)).toArray) ?_ hS hl hwr hle kk
  rcases hlk with hlk | hlk
  · have cb := xCallB (R := R) (own := own) (idx := idx) (mc := xQ h1 - xQ h) (ms := xZ h1 - xZ h) hts hok hfr hlo hlk
    rw [hi3] at cb
    exact va_runI (Ts := []) ⟨hexec, hb, hml, hown, fun _ g => by cases g⟩ hM ⟨cb, hi1, hinst⟩ hp rfl (by rw [List.length_map]; exact hna) hl.1 rfl (by show 2 * 0 + _ ≤ 8; rw [xwd_sum]; omega) hdg ⟨hcl, hsl⟩
  · have cb := xCallN (R := R) (own := own) (idx := idx) (mc := xQ h1 - xQ h) (ms := xZ h1 - xZ h) hts hok hfr hlo hlk
    rw [hi3] at cb
    exact va_runIN (Ts := []) ⟨hexec, hb, hml, hown, fun _ g => by cases g⟩ hM ⟨cb, hi1, hinst⟩ hp rfl (by rw [List.length_map]; exact hna) hl.1 rfl (by show 2 * 0 + _ ≤ 8; rw [xwd_sum]; omega) hdg ⟨hcl, hsl⟩
/-- a call with a receiver -/
theorem xs_callV (hexec : p.tables.exec = Jvm.exec) (hb : c.code = cc) (hml : c.maxLocals = nL) (hown : s.vm.findClass own = some m.cls) (hts : ∀ w ∈ tb, goodWord w = true → w.before args s = true) (hK : xKx tb D cl tys s) (hX : xHx sT A E X s s.heap) (hA : ∀ q, s.heap.size ≤ q → A q) (hok : xMok tb it) (hk0 : it.2.2.2.2.2.2.1 = 2) (hfr : it.2.2.2.2.1 + 1 ≤ R.frames) (hlo : 8 + (it.2.2.1 + 11) + it.2.2.2.2.2.1 ≤ R.locals)
    (hlk : (Cond.methodLink own idx it.1).before args s = true ∨ (Cond.methodLinkNest own idx it.1 host).before args s = true) (hS : va_S A s.heap H locs) (hP : xPt cl ft dA D E h H) (hW : xWf A E h) (hl : lv_has ls nL (xtL E L)) (hle : xle h h1) {as : List xV} {k q : Nat} {r : vw_C} (h40 : k < 40) (hc : cl[k]? = some r) (hrc : r.1 = it.1.cls) (hna : as.length = it.2.2.2.2.2.2.2) (hw : xwts h L (as.reverse ++ vr k q :: rest)) (hwd : xwd rest ≤ 8) (hcon : xCon tb cl ft dA D tys sT A X l it (vr k q :: as) h v h1) (hcl : cells + (xQ h1 - xQ h) ≤ R.cells) (hsl : slots + (xZ h1 - xZ h) ≤ R.slots) (hdg : decode cc pc = .ok (.invokevirtual idx, 3))
    (kk : ∀ (E1 : xPhi) (H1 : Heap) (locs1 : List Loc), (∀ a, a < xN h → E1.1 a = E.1 a) → E1.2 = E.2 → xPt cl ft dA D E1 h1 H1 → xWf A E1 h1 → va_S A s.heap H1 locs1 → lv_has ls nL (xtL E1 L) → xwts h1 L (v.toList ++ rest) → W p l e R s m args below meth c H1 locs1 (cells + (xQ h1 - xQ h)) (slots + (xZ h1 - xZ h)) Q (F0 m (pc + 3) ls ((v.toList ++ rest).map (xtr E1)))) : W p l e R s m args below meth c H locs cells slots Q (F0 m pc ls ((as.reverse ++ vr k q :: rest).map (xtr E))) := by
  have hwr : xwts h L rest := ⟨hw.1, fun w g => hw.2 w (List.mem_append_right _ (List.mem_cons_of_mem _ g))⟩
  have hM := hcon E hW (fun w g => by
    rcases List.mem_cons.mp g with rfl | g
    · exact hw.2 _ (List.mem_append_right _ List.mem_cons_self)
    · exact hw.2 w (List.mem_append_left _ (List.mem_reverse.mpr g)))
  have hst : (as.reverse ++ vr k q :: rest).map (xtr E) = (as.map (xtr E)).reverse ++ .ref (xad E k q) :: rest.map (xtr E) := by
    rw [List.map_append, List.map_reverse]
    rfl
  rw [hst]
  have hwq : (xK h q).1 = k ∧ q < xN h := by
    rcases hw.2 _ (List.mem_append_right _ List.mem_cons_self) with g | g
    · exact absurd g.1 (by show ¬ 50 ≤ k; omega)
    · exact g
  have had : xad E k q = E.1 q := by
    unfold xad
    have e1 : Nat.ble 50 k = false := by
      cases hb9 : Nat.ble 50 k with
      | false => rfl
      | true => exact absurd (Nat.le_of_ble_eq_true hb9) (by omega)
    rw [e1]
    rfl
  have hrecv : ∃ cell : Cell, H[xad E k q]? = some cell ∧ cell.vm.isStatics = false ∧ s.vm.findClass r.1 = some cell.cls := by
    rw [had]
    exact va_recv hK.1 (xPt_one hP hwq.2 (xcell_o hwq.1 h40)) hc (q0 := 0) rfl
  have hp : PreV s H r.1 (xad E k q) (xPc tb cl ft dA D tys sT A X (vr k q :: as) h E) (as.map (xtr E)) := ⟨xPc_blind tb cl ft dA D tys sT A X (vr k q :: as) h E, hrecv, xPc_at (vr k q :: as) hK hX hS hP hA⟩
  obtain ⟨hi2, hi3⟩ := hok.2.2.2.2.2.2.2 hk0
  have hinst := hts _ hi2 rfl
  have hsel := hts _ hi3 rfl
  rw [hrc] at hp
  refine xs_run (av := (Value.ref (xad E k q) :: as.map (xtr E)).toArray) ?_ hS hl hwr hle kk
  rcases hlk with hlk | hlk
  · exact va_runV (Ts := []) ⟨hexec, hb, hml, hown, fun _ g => by cases g⟩ hM ⟨xCallB hts hok hfr hlo hlk, hinst, hsel⟩ hp rfl (by rw [List.length_map]; exact hna) hl.1 rfl (by show 2 * 0 + _ ≤ 8; rw [xwd_sum]; omega) hdg ⟨hcl, hsl⟩
  · exact va_runVN (Ts := []) ⟨hexec, hb, hml, hown, fun _ g => by cases g⟩ hM ⟨xCallN hts hok hfr hlo hlk, hinst, hsel⟩ hp rfl (by rw [List.length_map]; exact hna) hl.1 rfl (by show 2 * 0 + _ ≤ 8; rw [xwd_sum]; omega) hdg ⟨hcl, hsl⟩
end XCL
