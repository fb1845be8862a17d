section XAS
variable {p : Program} {l : Launch} {e : Env} {R : Room} {s : State} {m : MethodId} {args : Array Value} {below : List Frame} {meth : Method} {c : Code} {H : Heap} {locs : List Loc} {cells slots : Nat} {Q : State → Prop}
variable {cc : ByteArray} {pc : Nat} {ls : Array Slot} {D : va_G} {cl : List vw_C} {ft : Nat → Nat → FieldType} {dA : Nat → ClassId} {tys : List (ClassId × FieldType)} {sT : String × String × String} {A : Nat → Prop} {X : xX} {E : xPhi} {h h' : xH} {L : xL} {st : List xV} {nL : Nat} {tb : List Cond} {host : String} {MI : Nat → xMi} {NM y d : Nat} {C : Nat → List xV → xH → xO → xH → Prop} {hd : xB} {i : Instr} {len a b : Nat} {v : xV} {o : xO} {K : Nat → xL → List xV → xH → Prop}
theorem xs_ref {k q : Nat} (r : List Value) (hk : k < 50 ∨ 60 ≤ k) : xtr E (vr k q) :: r = .ref (E.1 q) :: r := by
  show Value.ref (xad E k q) :: _ = _
  rw [xad_in E q hk]
theorem xd_alen (hexec : p.tables.exec = Jvm.exec) (hb : c.code = cc) (hX : xHx sT A E X s s.heap) (hlen : len = 1) (hdg : decode cc pc = .ok (.arraylength, len)) (hx : xDo X d C hd .arraylength len a b v pc L st h o h' K) (hl : lv_has ls nL (xtL E L)) (hw : xwts h L st) (hS : va_S A s.heap H locs)
    (go : ∀ (pc1 : Nat) (L1 : xL) (st1 : List xV) (ls1 : Array Slot), K pc1 L1 st1 h → lv_has ls1 nL (xtL E L1) → xwts h L1 st1 → W p l e R s m args below meth c H locs cells slots Q (F0 m pc1 ls1 (st1.map (xtr E)))) :
    W p l e R s m args below meth c H locs cells slots Q (F0 m pc ls (st.map (xtr E))) := by
  subst hlen
  simp only [xDo] at hx
  obtain ⟨k, q, r, rfl, hz⟩ := xa1_of hx
  clear hx
  obtain ⟨hk, hx⟩ := xbif_of hz
  clear hz
  have hk := Nat.eq_of_beq_eq_true hk
  subst hk
  obtain ⟨hX1, hbA, -⟩ := hX
  have hbl : E.2 50 < s.heap.size := by
    obtain ⟨scr, g1, -⟩ := id hX1
    exact (Array.getElem?_eq_some_iff.mp g1).1
  exact va_slen hexec hb hX1 hbl hbA hS hdg (go _ _ _ _ hx hl (xwts_cons (xwts_tl hw) trivial))
theorem xd_iald (hexec : p.tables.exec = Jvm.exec) (hb : c.code = cc) (hK : xKx tb D cl tys s) (hty : xTyOk tb cl dA tys) (hX : xHx sT A E X s s.heap) (hlen : len = 1) (hdg : decode cc pc = .ok (.iaload, len)) (hx : xDo X d C hd .iaload len a b v pc L st h o h' K) (hl : lv_has ls nL (xtL E L)) (hw : xwts h L st) (hP : xPt cl ft dA D E h H) (hS : va_S A s.heap H locs)
    (go : ∀ (pc1 : Nat) (L1 : xL) (st1 : List xV) (ls1 : Array Slot), K pc1 L1 st1 h → lv_has ls1 nL (xtL E L1) → xwts h L1 st1 → W p l e R s m args below meth c H locs cells slots Q (F0 m pc1 ls1 (st1.map (xtr E)))) :
    W p l e R s m args below meth c H locs cells slots Q (F0 m pc ls (st.map (xtr E))) := by
  subst hlen
  simp only [xDo] at hx
  obtain ⟨x, r1, rfl, hz⟩ := xi1_of hx
  clear hx
  obtain ⟨k, q, r, rfl, hy⟩ := xa1_of hz
  clear hz
  cases h1 : Nat.beq k 50 with
  | true =>
    rw [h1] at hy
    have hk := Nat.eq_of_beq_eq_true h1
    subst hk
    obtain ⟨hX1, hbA, -⟩ := hX
    have hbl : E.2 50 < s.heap.size := by
      obtain ⟨scr, g1, -⟩ := id hX1
      exact (Array.getElem?_eq_some_iff.mp g1).1
    exact va_sld hexec hb hX1 hbl hbA hS hy.1 hdg (go _ _ _ _ hy.2 hl (xwts_cons (xwts_tl (xwts_tl hw)) trivial))
  | false =>
    rw [h1] at hy
    obtain ⟨hk, hin, hx⟩ := xbif_of hy
    have hk := Nat.eq_of_beq_eq_true hk
    subst hk
    have hwq := xwt_in (hw.2 _ (List.mem_cons_of_mem _ List.mem_cons_self)) (Or.inl (by decide))
    obtain ⟨t0, ht0⟩ := hty.1
    show W p l e R s m args below meth c H locs cells slots Q (F0 m pc ls (.int x :: xtr E (vr 40 q) :: r.map (xtr E)))
    rw [xs_ref _ (Or.inl (by decide))]
    exact xs_iald hexec hb hK.1 hP hwq.2 hwq.1 t0 ht0 hin hdg (go _ _ _ _ hx hl (xwts_cons (xwts_tl (xwts_tl hw)) trivial))
theorem xd_lald (hexec : p.tables.exec = Jvm.exec) (hb : c.code = cc) (hK : xKx tb D cl tys s) (hty : xTyOk tb cl dA tys) (hX : xHx sT A E X s s.heap) (hlen : len = 1) (hdg : decode cc pc = .ok (.laload, len)) (hx : xDo X d C hd .laload len a b v pc L st h o h' K) (hl : lv_has ls nL (xtL E L)) (hw : xwts h L st) (hP : xPt cl ft dA D E h H) (hS : va_S A s.heap H locs)
    (go : ∀ (pc1 : Nat) (L1 : xL) (st1 : List xV) (ls1 : Array Slot), K pc1 L1 st1 h → lv_has ls1 nL (xtL E L1) → xwts h L1 st1 → W p l e R s m args below meth c H locs cells slots Q (F0 m pc1 ls1 (st1.map (xtr E)))) :
    W p l e R s m args below meth c H locs cells slots Q (F0 m pc ls (st.map (xtr E))) := by
  subst hlen
  simp only [xDo] at hx
  obtain ⟨x, r1, rfl, hz⟩ := xi1_of hx
  clear hx
  obtain ⟨k, q, r, rfl, hy⟩ := xa1_of hz
  clear hz
  cases h1 : Nat.beq k 41 with
  | true =>
    rw [h1] at hy
    have hk := Nat.eq_of_beq_eq_true h1
    subst hk
    have hwq := xwt_in (hw.2 _ (List.mem_cons_of_mem _ List.mem_cons_self)) (Or.inl (by decide))
    obtain ⟨t0, ht0⟩ := hty.2.1
    show W p l e R s m args below meth c H locs cells slots Q (F0 m pc ls (.int x :: xtr E (vr 41 q) :: r.map (xtr E)))
    rw [xs_ref _ (Or.inl (by decide))]
    exact xs_lald hexec hb hK.1 hP hwq.2 hwq.1 t0 ht0 hy.1 hdg (go _ _ _ _ hy.2 hl (xwts_cons (xwts_tl (xwts_tl hw)) trivial))
  | false =>
    rw [h1] at hy
    obtain ⟨hk, hin, hx⟩ := xbif_of hy
    have hk := Nat.eq_of_beq_eq_true hk
    subst hk
    obtain ⟨-, -, hT, -⟩ := hX
    exact va_tl hexec hb hT hS hin rfl hdg (go _ _ _ _ hx hl (xwts_cons (xwts_tl (xwts_tl hw)) trivial))
theorem xd_aald (hexec : p.tables.exec = Jvm.exec) (hb : c.code = cc) (hK : xKx tb D cl tys s) (hty : xTyOk tb cl dA tys) (hlen : len = 1) (hdg : decode cc pc = .ok (.aaload, len)) (hx : xDo X d C hd .aaload len a b v pc L st h o h' K) (hl : lv_has ls nL (xtL E L)) (hw : xwts h L st) (hP : xPt cl ft dA D E h H) (hW : xWf A E h)
    (go : ∀ (pc1 : Nat) (L1 : xL) (st1 : List xV) (ls1 : Array Slot), K pc1 L1 st1 h → lv_has ls1 nL (xtL E L1) → xwts h L1 st1 → W p l e R s m args below meth c H locs cells slots Q (F0 m pc1 ls1 (st1.map (xtr E)))) :
    W p l e R s m args below meth c H locs cells slots Q (F0 m pc ls (st.map (xtr E))) := by
  subst hlen
  simp only [xDo] at hx
  obtain ⟨x, r1, rfl, hz⟩ := xi1_of hx
  clear hx
  obtain ⟨k, q, r, rfl, hy⟩ := xa1_of hz
  clear hz
  obtain ⟨hk, hin, hx⟩ := xbif_of hy
  clear hy
  obtain ⟨ci, r0, t0, rfl, h40, hc, ht0, -⟩ := hty.2.2.2.2 k hk
  have hwq := xwt_in (hw.2 _ (List.mem_cons_of_mem _ List.mem_cons_self)) (Or.inr (by omega))
  show W p l e R s m args below meth c H locs cells slots Q (F0 m pc ls (.int x :: xtr E (vr (60 + ci) q) :: r.map (xtr E)))
  rw [xs_ref _ (Or.inr (by omega))]
  refine xs_aald hexec hb hK.1 hP hwq.2 hwq.1 (by omega) t0 ht0 hin hdg ?_
  obtain ⟨w, hx2, hww, ew⟩ := xrd_of hW (hW.2.2.2 q x.toNatClampNeg) (Or.inl (by omega)) hx
  rw [ew]
  exact go _ _ _ _ hx2 hl (xwts_cons (xwts_tl (xwts_tl hw)) hww)
theorem xd_iast (hexec : p.tables.exec = Jvm.exec) (hb : c.code = cc) (hK : xKx tb D cl tys s) (hty : xTyOk tb cl dA tys) (hlen : len = 1) (hdg : decode cc pc = .ok (.iastore, len)) (hx : xDo X d C hd .iastore len a b v pc L st h o h' K) (hl : lv_has ls nL (xtL E L)) (hw : xwts h L st) (hP : xPt cl ft dA D E h H) (hW : xWf A E h) (hS : va_S A s.heap H locs) (hRc : cells + (xQ h' - xQ h) ≤ R.cells) (hRs : slots + (xZ h' - xZ h) ≤ R.slots)
    (go : xGo p l e R s m args below meth c Q cl ft dA D A nL h h' E K) :
    W p l e R s m args below meth c H locs cells slots Q (F0 m pc ls (st.map (xtr E))) := by
  subst hlen
  simp only [xDo] at hx
  obtain ⟨z, r2, rfl, h1⟩ := xi1_of hx
  clear hx
  obtain ⟨x, r1, rfl, h2⟩ := xi1_of h1
  clear h1
  obtain ⟨k, q, r, rfl, h3⟩ := xa1_of h2
  clear h2
  obtain ⟨hk, hin, hx⟩ := xbif_of h3
  clear h3
  have hk := Nat.eq_of_beq_eq_true hk
  subst hk
  have hwq := xwt_in (hw.2 _ (List.mem_cons_of_mem _ (List.mem_cons_of_mem _ List.mem_cons_self))) (Or.inl (by decide))
  obtain ⟨t0, ht0⟩ := hty.1
  show W p l e R s m args below meth c H locs cells slots Q (F0 m pc ls (.int z :: .int x :: xtr E (vr 40 q) :: r.map (xtr E)))
  rw [xs_ref _ (Or.inl (by decide))]
  exact xs_iast hexec hb hK.1 hP hW hS hwq.2 hwq.1 t0 ht0 hin hdg (fun H1 locs1 g1 g2 g3 => go E _ _ _ _ H1 locs1 ls cells slots hx (xle_uI _ _ _ _) (fun _ _ => rfl) rfl hl (xwts_I (xwts_tl (xwts_tl (xwts_tl hw)))) g1 (xWf_I hW _ _ _) g2 hRc hRs)
theorem xd_last (hexec : p.tables.exec = Jvm.exec) (hb : c.code = cc) (hK : xKx tb D cl tys s) (hty : xTyOk tb cl dA tys) (hlen : len = 1) (hdg : decode cc pc = .ok (.lastore, len)) (hx : xDo X d C hd .lastore len a b v pc L st h o h' K) (hl : lv_has ls nL (xtL E L)) (hw : xwts h L st) (hP : xPt cl ft dA D E h H) (hW : xWf A E h) (hS : va_S A s.heap H locs) (hRc : cells + (xQ h' - xQ h) ≤ R.cells) (hRs : slots + (xZ h' - xZ h) ≤ R.slots)
    (go : xGo p l e R s m args below meth c Q cl ft dA D A nL h h' E K) :
    W p l e R s m args below meth c H locs cells slots Q (F0 m pc ls (st.map (xtr E))) := by
  subst hlen
  simp only [xDo] at hx
  obtain ⟨z, r2, rfl, h1⟩ := xj1_of hx
  clear hx
  obtain ⟨x, r1, rfl, h2⟩ := xi1_of h1
  clear h1
  obtain ⟨k, q, r, rfl, h3⟩ := xa1_of h2
  clear h2
  obtain ⟨hk, hin, hx⟩ := xbif_of h3
  clear h3
  have hk := Nat.eq_of_beq_eq_true hk
  subst hk
  have hwq := xwt_in (hw.2 _ (List.mem_cons_of_mem _ (List.mem_cons_of_mem _ List.mem_cons_self))) (Or.inl (by decide))
  obtain ⟨t0, ht0⟩ := hty.2.1
  show W p l e R s m args below meth c H locs cells slots Q (F0 m pc ls (.long z :: .int x :: xtr E (vr 41 q) :: r.map (xtr E)))
  rw [xs_ref _ (Or.inl (by decide))]
  exact xs_last hexec hb hK.1 hP hW hS hwq.2 hwq.1 t0 ht0 hin hdg (fun H1 locs1 g1 g2 g3 => go E _ _ _ _ H1 locs1 ls cells slots hx (xle_uJ _ _ _ _) (fun _ _ => rfl) rfl hl (xwts_J (xwts_tl (xwts_tl (xwts_tl hw)))) g1 (xWf_J hW _ _ _) g2 hRc hRs)
theorem xd_aast (hexec : p.tables.exec = Jvm.exec) (hb : c.code = cc) (hK : xKx tb D cl tys s) (hty : xTyOk tb cl dA tys) (hlen : len = 1) (hdg : decode cc pc = .ok (.aastore, len)) (hx : xDo X d C hd .aastore len a b v pc L st h o h' K) (hl : lv_has ls nL (xtL E L)) (hw : xwts h L st) (hP : xPt cl ft dA D E h H) (hW : xWf A E h) (hS : va_S A s.heap H locs) (hRc : cells + (xQ h' - xQ h) ≤ R.cells) (hRs : slots + (xZ h' - xZ h) ≤ R.slots)
    (go : xGo p l e R s m args below meth c Q cl ft dA D A nL h h' E K) :
    W p l e R s m args below meth c H locs cells slots Q (F0 m pc ls (st.map (xtr E))) := by
  subst hlen
  simp only [xDo] at hx
  obtain ⟨k1, q1, r2, rfl, h1⟩ := xa1_of hx
  clear hx
  obtain ⟨x, r1, rfl, h2⟩ := xi1_of h1
  clear h1
  obtain ⟨k, q, r, rfl, h3⟩ := xa1_of h2
  clear h2
  obtain ⟨hk, hin, hx⟩ := xbif_of h3
  clear h3
  rw [Bool.and_eq_true] at hk
  obtain ⟨hk, hoa⟩ := hk
  have hk := Nat.eq_of_beq_eq_true hk
  subst hk
  obtain ⟨ci, r0, t0, e0, h40, hc, ht0, -⟩ := hty.2.2.2.2 _ hoa
  have hci : k1 = ci := by omega
  subst hci
  have hwq := xwt_in (hw.2 _ (List.mem_cons_of_mem _ (List.mem_cons_of_mem _ List.mem_cons_self))) (Or.inr (by omega))
  have hwv := xwt_in (hw.2 _ List.mem_cons_self) (Or.inl (by omega))
  show W p l e R s m args below meth c H locs cells slots Q (F0 m pc ls (xtr E (vr k1 q1) :: .int x :: xtr E (vr (60 + k1) q) :: r.map (xtr E)))
  rw [xs_ref (k := 60 + k1) _ (Or.inr (by omega)), xs_ref (k := k1) _ (Or.inl (by omega))]
  exact xs_aast hexec hb hK.1 hP hW hS hwq.2 hwq.1 hwv.2 hwv.1 h40 hc t0 ht0 hin hdg (fun H1 locs1 g1 g2 g3 => go E _ _ _ _ H1 locs1 ls cells slots hx (xle_uR _ _ _ _) (fun _ _ => rfl) rfl hl (xwts_R (xwts_tl (xwts_tl (xwts_tl hw)))) g1 (xWf_R hW _ _ hwv.2) g2 hRc hRs)
/-- the table of a static field -/
theorem xd_gets (hexec : p.tables.exec = Jvm.exec) (hb : c.code = cc) (hown : s.vm.findClass (MI y).1.cls = some m.cls) (hts : ∀ w ∈ tb, goodWord w = true → w.before args s = true) (hK : xKx tb D cl tys s) (hX : xHx sT A E X s s.heap) {idx : Nat} (hok : xok2 cl ft tb host sT MI NM y (.getstatic idx) len a b v = true) (hdg : decode cc pc = .ok (.getstatic idx, len)) (hx : xDo X d C hd (.getstatic idx) len a b v pc L st h o h' K) (hl : lv_has ls nL (xtL E L)) (hw : xwts h L st) (hS : va_S A s.heap H locs)
    (go : ∀ (pc1 : Nat) (L1 : xL) (st1 : List xV) (ls1 : Array Slot), K pc1 L1 st1 h → lv_has ls1 nL (xtL E L1) → xwts h L1 st1 → W p l e R s m args below meth c H locs cells slots Q (F0 m pc1 ls1 (st1.map (xtr E)))) :
    W p l e R s m args below meth c H locs cells slots Q (F0 m pc ls (st.map (xtr E))) := by
  simp only [xok2, Bool.and_eq_true, Bool.or_eq_true, decide_eq_true_eq] at hok
  obtain ⟨rfl, rfl, hlk⟩ := hok
  obtain ⟨-, -, -, hZ⟩ := hX
  have kk := go _ _ _ _ hx hl (xwts_cons hw (Or.inl ⟨by decide, by decide⟩))
  rcases hlk with hlk | hlk
  · obtain ⟨g1, g2⟩ := xhas_of hlk
    exact va_gets hexec hb hZ hS hown (hts _ g1 g2) (fun _ g => g) hdg kk
  · exact va_getsN hexec hb hZ hS hown (va_Nw.use rfl (hK.2.1 _ (xhasN_of hlk) rfl)) (fun _ g => g) hdg kk
end XAS
