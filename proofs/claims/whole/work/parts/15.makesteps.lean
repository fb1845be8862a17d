section XMS
variable {p : Program} {l : Launch} {e : Env} {R : Room} {s : State} {m : MethodId} {args : Array Value} {below : List Frame} {meth : Method} {c : Code} {H : Heap} {locs : List Loc} {cells slots : Nat} {Q : State → Prop}
variable {cc : ByteArray} {pc : Nat} {ls : Array Slot} {D : va_G} {cl : List vw_C} {ft : Nat → Nat → FieldType} {dA : Nat → ClassId} {tys : List (ClassId × FieldType)} {sT : String × String × String} {A : Nat → Prop} {X : xX} {E : xPhi} {h h' : xH} {L : xL} {st : List xV} {nL : Nat} {tb : List Cond} {host : String} {MI : Nat → xMi} {NM y d : Nat} {C : Nat → List xV → xH → xO → xH → Prop} {hd : xB} {i : Instr} {len a b : Nat} {v : xV} {o : xO} {K : Nat → xL → List xV → xH → Prop}
theorem xE1_ext {n q : Nat} : ∀ a, a < n → (xE1 E n q).1 a = E.1 a := fun _ ha => xE1_ne E q (Nat.ne_of_lt ha)
/-- behind a making: the walk goes on with the new cell on the stack -/
theorem xd_made {H1 : Heap} {kind n pc1 : Nat} {r : List xV} (hx : K pc1 L (vr kind (xN h) :: r) (xnew h kind n)) (hle : xle (xnew h kind n) h') (hk : kind < 50 ∨ 60 ≤ kind) (hl : lv_has ls nL (xtL E L)) (hw : xwts h L r) (hP0 : xPt cl ft dA D E h H) (hW : xWf A E h) (hA : A H.size) (hP : xPt cl ft dA D (xE1 E (xN h) H.size) (xnew h kind n) H1) (hS : va_S A s.heap H1 locs) (hRc : cells + (xQ h' - xQ h) ≤ R.cells) (hRs : slots + (xZ h' - xZ h) ≤ R.slots)
    (go : xGo p l e R s m args below meth c Q cl ft dA D A nL h h' E K) : W p l e R s m args below meth c H1 locs (cells + 1) (slots + n) Q (F0 m pc1 ls (.ref H.size :: r.map (xtr E))) := by
  have e1 : (vr kind (xN h) :: r).map (xtr (xE1 E (xN h) H.size)) = .ref H.size :: r.map (xtr E) := by
    show Value.ref (xad (xE1 E (xN h) H.size) kind (xN h)) :: _ = _
    rw [xad_in _ _ hk, xE1_at, xtr_exts xE1_ext rfl hw.2]
  have hq : xQ (xnew h kind n) = xQ h + 1 := rfl
  have hz : xZ (xnew h kind n) = xZ h + n := rfl
  have g1 := hle.2.1
  have g2 := hle.2.2.1
  rw [hq] at g1
  rw [hz] at g2
  have kk := go (xE1 E (xN h) H.size) pc1 L _ _ H1 locs ls (cells + 1) (slots + n) hx (xle_new h kind n) xE1_ext rfl (by rw [xtL_ext xE1_ext rfl hw.1]; exact hl) (xwts_cons (xwts_le (xle_new h kind n) hw) (Or.inr ⟨by
    have e0 : xK (xnew h kind n) (xN h) = (kind, n) := if_pos rfl
    show (xK (xnew h kind n) (xN h)).1 = kind
    rw [e0], Nat.lt_succ_self _⟩)) hP (xWf_new hP0 hW hA) hS (by rw [hq]; omega) (by rw [hz]; omega)
  rw [e1] at kk
  exact kk
theorem xd_new (hexec : p.tables.exec = Jvm.exec) (hb : c.code = cc) (hown : s.vm.findClass (MI y).1.cls = some m.cls) (hts : ∀ w ∈ tb, goodWord w = true → w.before args s = true) (hK : xKx tb D cl tys s) (hcl : xClOk tb cl ft) (hA : ∀ q, s.heap.size ≤ q → A q) {idx : Nat} (hok : xok2 cl ft tb host sT MI NM y (.new idx) len a b v = true) (hdg : decode cc pc = .ok (.new idx, len)) (hx : xDo X d C hd (.new idx) len a b v pc L st h o h' K) (hl : lv_has ls nL (xtL E L)) (hw : xwts h L st) (hP : xPt cl ft dA D E h H) (hW : xWf A E h) (hS : va_S A s.heap H locs) (hRc : cells + (xQ h' - xQ h) ≤ R.cells) (hRs : slots + (xZ h' - xZ h) ≤ R.slots) (hKle : ∀ pc1 L1 st1 h1, K pc1 L1 st1 h1 → xle h1 h')
    (go : xGo p l e R s m args below meth c Q cl ft dA D A nL h h' E K) :
    W p l e R s m args below meth c H locs cells slots Q (F0 m pc ls (st.map (xtr E))) := by
  simp only [xok2, Bool.and_eq_true, decide_eq_true_eq] at hok
  obtain ⟨rfl, h40, hf⟩ := hok
  cases hc : cl[a]? with
  | none => rw [hc] at hf; cases hf
  | some r0 =>
    rw [hc] at hf
    obtain ⟨C0, T0, N0⟩ := r0
    simp only [Bool.and_eq_true, decide_eq_true_eq] at hf
    obtain ⟨rfl, hlk⟩ := hf
    obtain ⟨g1, g2⟩ := xhas_of hlk
    obtain ⟨hws, hty, hnm, hdf, hin1, hin2⟩ := hcl _ _ hc
    simp only [xDo] at hx
    have hb40 : Nat.blt a 40 = true := Nat.ble_eq_true_of_le h40
    rw [hb40] at hx
    have hx : K (pc + 3) L (vr a (xN h) :: st) (xnew h a N0) := hx
    have hle := hKle _ _ _ _ hx
    have k1 : xQ h + 1 ≤ xQ h' := hle.2.1
    have k2 : xZ h + N0 ≤ xZ h' := hle.2.2.1
    exact xs_new (Ts := tb.filter goodWord) hexec hb (fun w g => by obtain ⟨g1, g2⟩ := List.mem_filter.mp g; exact hts w g1 g2) (fun w g => List.mem_filter.mpr (hws w g)) hty hdf hown (hts _ g1 g2) (hts _ hin1 rfl) (hts _ hin2 rfl) hK.1 hP hW hS h40 hc (by omega) (by show slots + N0 ≤ R.slots; omega) hdg (fun H1 q1 q2 q3 => xd_made hx hle (Or.inl (by omega)) hl hw hP hW (hA _ hS.1) q1 q2 hRc hRs go)
theorem xd_newa (hexec : p.tables.exec = Jvm.exec) (hb : c.code = cc) (hts : ∀ w ∈ tb, goodWord w = true → w.before args s = true) (hK : xKx tb D cl tys s) (hty : xTyOk tb cl dA tys) (hA : ∀ q, s.heap.size ≤ q → A q) {at9 : ArrayType} (hok : xok2 cl ft tb host sT MI NM y (.newarray at9) len a b v = true) (hdg : decode cc pc = .ok (.newarray at9, len)) (hx : xDo X d C hd (.newarray at9) len a b v pc L st h o h' K) (hl : lv_has ls nL (xtL E L)) (hw : xwts h L st) (hP : xPt cl ft dA D E h H) (hW : xWf A E h) (hS : va_S A s.heap H locs) (hRc : cells + (xQ h' - xQ h) ≤ R.cells) (hRs : slots + (xZ h' - xZ h) ≤ R.slots) (hKle : ∀ pc1 L1 st1 h1, K pc1 L1 st1 h1 → xle h1 h')
    (go : xGo p l e R s m args below meth c Q cl ft dA D A nL h h' E K) :
    W p l e R s m args below meth c H locs cells slots Q (F0 m pc ls (st.map (xtr E))) := by
  simp only [xok2, Bool.and_eq_true, decide_eq_true_eq] at hok
  obtain ⟨rfl, hk, hne⟩ := hok
  simp only [xDo] at hx
  obtain ⟨x, r, rfl, hx0, hx1, hx2⟩ := xi1_of hx
  clear hx
  have hle := hKle _ _ _ _ hx2
  have k1 : xQ h + 1 ≤ xQ h' := hle.2.1
  have k2 : xZ h + x.toNatClampNeg ≤ xZ h' := hle.2.2.1
  obtain ⟨⟨t0, ht0⟩, ⟨t1, ht1⟩, hai, haj, -⟩ := hty
  cases at9 with
  | int =>
    have hk : 40 = a := hk
    subst hk
    exact xs_newi hexec hb (hts _ hai rfl) hK.1 hP hW hS t0 ht0 hx0 hx1 (by omega) (by omega) hdg (fun H1 q1 q2 q3 => xd_made hx2 hle (Or.inl (by decide)) hl (xwts_tl hw) hP hW (hA _ hS.1) q1 q2 hRc hRs go)
  | long =>
    have hk : 41 = a := hk
    subst hk
    exact xs_newj hexec hb (hts _ haj rfl) hK.1 hP hW hS t1 ht1 hx0 hx1 (by omega) (by omega) hdg (fun H1 q1 q2 q3 => xd_made hx2 hle (Or.inl (by decide)) hl (xwts_tl hw) hP hW (hA _ hS.1) q1 q2 hRc hRs go)
  | _ => exact absurd hk.symm hne
theorem xd_newq (hexec : p.tables.exec = Jvm.exec) (hb : c.code = cc) (hown : s.vm.findClass (MI y).1.cls = some m.cls) (hts : ∀ w ∈ tb, goodWord w = true → w.before args s = true) (hK : xKx tb D cl tys s) (hty : xTyOk tb cl dA tys) (hA : ∀ q, s.heap.size ≤ q → A q) {idx : Nat} (hok : xok2 cl ft tb host sT MI NM y (.anewarray idx) len a b v = true) (hdg : decode cc pc = .ok (.anewarray idx, len)) (hx : xDo X d C hd (.anewarray idx) len a b v pc L st h o h' K) (hl : lv_has ls nL (xtL E L)) (hw : xwts h L st) (hP : xPt cl ft dA D E h H) (hW : xWf A E h) (hS : va_S A s.heap H locs) (hRc : cells + (xQ h' - xQ h) ≤ R.cells) (hRs : slots + (xZ h' - xZ h) ≤ R.slots) (hKle : ∀ pc1 L1 st1 h1, K pc1 L1 st1 h1 → xle h1 h')
    (go : xGo p l e R s m args below meth c Q cl ft dA D A nL h h' E K) :
    W p l e R s m args below meth c H locs cells slots Q (F0 m pc ls (st.map (xtr E))) := by
  simp only [xok2, Bool.and_eq_true, decide_eq_true_eq] at hok
  obtain ⟨rfl, hoa, hf⟩ := hok
  obtain ⟨ci, r0, t0, rfl, h40, hc, ht0, hov⟩ := hty.2.2.2.2 a hoa
  rw [show 60 + ci - 60 = ci by omega, hc] at hf
  obtain ⟨g1, g2⟩ := xhas_of hf
  simp only [xDo] at hx
  obtain ⟨x, r, rfl, hx0, hx1, hx2⟩ := xi1_of hx
  clear hx
  have hle := hKle _ _ _ _ hx2
  have k1 : xQ h + 1 ≤ xQ h' := hle.2.1
  have k2 : xZ h + x.toNatClampNeg ≤ xZ h' := hle.2.2.1
  exact xs_newq hexec hb hown (hts _ g1 g2) (hK.2.2 _ hov) hK.1 hP hW hS (by omega) t0 ht0 hx0 hx1 (by omega) (by omega) hdg (fun H1 q1 q2 q3 => xd_made hx2 hle (Or.inr (by omega)) hl (xwts_tl hw) hP hW (hA _ hS.1) q1 q2 hRc hRs go)
/-- Object's own constructor -/
theorem xd_obj (hexec : p.tables.exec = Jvm.exec) (hb : c.code = cc) (hml : c.maxLocals = nL) (hown : s.vm.findClass (MI y).1.cls = some m.cls) (hts : ∀ w ∈ tb, goodWord w = true → w.before args s = true) (hob : Cond.instanceMethod objectInit ∈ tb ∧ Cond.code objectInit ⟨#[0xb1]⟩ 1 none ∈ tb) (hRf : (MI y).2.2.2.2.1 ≤ R.frames) (hRl : (MI y).2.2.2.2.2.1 ≤ R.locals) {idx : Nat} (ha : a = 999) (hok : xok2 cl ft tb host sT MI NM y (.invokespecial idx) len a b v = true) (hdg : decode cc pc = .ok (.invokespecial idx, len)) (hx : xDo X d C hd (.invokespecial idx) len a b v pc L st h o h' K) (hl : lv_has ls nL (xtL E L)) (hw : xwts h L st)
    (go : ∀ (pc1 : Nat) (L1 : xL) (st1 : List xV) (ls1 : Array Slot), K pc1 L1 st1 h → lv_has ls1 nL (xtL E L1) → xwts h L1 st1 → W p l e R s m args below meth c H locs cells slots Q (F0 m pc1 ls1 (st1.map (xtr E)))) :
    W p l e R s m args below meth c H locs cells slots Q (F0 m pc ls (st.map (xtr E))) := by
  subst ha
  simp only [xok2, Bool.and_eq_true, decide_eq_true_eq] at hok
  obtain ⟨rfl, hf⟩ := hok
  have hf : (xhas tb (xcp v) (.methodLink (MI y).1.cls idx objectInit) && (decide (1 ≤ (MI y).2.2.2.2.1) && decide (20 ≤ (MI y).2.2.2.2.2.1))) = true := hf
  simp only [Bool.and_eq_true, decide_eq_true_eq] at hf
  obtain ⟨hlk, hf1, hf2⟩ := hf
  obtain ⟨g1, g2⟩ := xhas_of hlk
  have hx : xa1 st fun _ _ r => bif Nat.ble (xwd r) 8 then K (pc + 3) L r h else False := hx
  obtain ⟨k, q, r, rfl, hy⟩ := xa1_of hx
  clear hx
  obtain ⟨hwd, hx⟩ := xbif_of hy
  clear hy
  have hwd := Nat.le_of_ble_eq_true hwd
  have kk := go _ _ _ _ hx hl (xwts_tl hw)
  refine W.objInit (a := xad E k q) (rest := r.map (xtr E)) hexec hb hown (hts _ g1 g2) (hts _ hob.1 rfl) (hts _ hob.2 rfl) rfl (by rw [hml]; exact hl.1) rfl hdg (by omega) (by show 2 * 0 + _ + 12 ≤ _; rw [xwd_sum]; omega) kk
end XMS
