/-- the library's methods that are called -/
def xLibOk (tb : List Cond) : Prop := Cond.initialized "java/lang/Math" ∈ tb ∧ (Cond.static Lib.MathLoose.abs_long.x ∈ tb ∧ Cond.code Lib.MathLoose.abs_long.x Lib.MathLoose.abs_long.code 2 (some .long) ∈ tb) ∧ (Cond.static Lib.Math.abs.name ∈ tb ∧ Cond.code Lib.Math.abs.name Lib.Math.abs.code 1 (some .int) ∈ tb) ∧ (Cond.static Lib.Math.min.name ∈ tb ∧ Cond.code Lib.Math.min.name Lib.Math.min.code 2 (some .int) ∈ tb) ∧ (Cond.static Lib.Math.max.name ∈ tb ∧ Cond.code Lib.Math.max.name Lib.Math.max.code 2 (some .int) ∈ tb)
section XCS
variable {p : Program} {l : Launch} {e : Env} {R : Room} {s : State} {m : MethodId} {args : Array Value} {below : List Frame} {meth : Method} {c : Code} {H : Heap} {locs : List Loc} {cells slots : Nat} {Q : State → Prop}
variable {cc : ByteArray} {pc : Nat} {ls : Array Slot} {D : va_G} {cl : List vw_C} {ft : Nat → Nat → FieldType} {dA : Nat → ClassId} {tys : List (ClassId × FieldType)} {sT : String × String × String} {A : Nat → Prop} {X : xX} {E : xPhi} {h h' : xH} {L : xL} {st : List xV} {nL : Nat} {tb : List Cond} {host : String} {MI : Nat → xMi} {NM y d : Nat} {C : Nat → List xV → xH → xO → xH → Prop} {hd : xB} {i : Instr} {len a b : Nat} {v : xV} {o : xO} {K : Nat → xL → List xV → xH → Prop}
theorem xd_lib (hexec : p.tables.exec = Jvm.exec) (hb : c.code = cc) (hml : c.maxLocals = nL) (hown : s.vm.findClass (MI y).1.cls = some m.cls) (hts : ∀ w ∈ tb, goodWord w = true → w.before args s = true) (hlib : xLibOk tb) (hRf : (MI y).2.2.2.2.1 ≤ R.frames) (hRl : (MI y).2.2.2.2.2.1 ≤ R.locals) (hRc : cells ≤ R.cells) (hRs : slots ≤ R.slots) {idx : Nat} (ha : Nat.ble 1000 a = true) (hok : xok2 cl ft tb host sT MI NM y (.invokestatic idx) len a b v = true) (hdg : decode cc pc = .ok (.invokestatic idx, len)) (hx : xDo X d C hd (.invokestatic idx) len a b v pc L st h o h' K) (hl : lv_has ls nL (xtL E L)) (hw : xwts h L st)
    (go : ∀ (pc1 : Nat) (L1 : xL) (st1 : List xV) (ls1 : Array Slot), K pc1 L1 st1 h → lv_has ls1 nL (xtL E L1) → xwts h L1 st1 → W p l e R s m args below meth c H locs cells slots Q (F0 m pc1 ls1 (st1.map (xtr E)))) :
    W p l e R s m args below meth c H locs cells slots Q (F0 m pc ls (st.map (xtr E))) := by
  simp only [xok2, Bool.and_eq_true, decide_eq_true_eq] at hok
  obtain ⟨rfl, hf⟩ := hok
  rw [ha] at hf
  simp only [cond_true, Bool.and_eq_true, decide_eq_true_eq] at hf
  obtain ⟨hlk, hf1, hf2⟩ := hf
  obtain ⟨g1, g2⟩ := xhas_of hlk
  have hlkb := hts _ g1 g2
  simp only [xDo] at hx
  rw [ha] at hx
  simp only [cond_true] at hx
  obtain ⟨hwd, hy⟩ := xbif_of hx
  clear hx
  have hwd := Nat.le_of_ble_eq_true hwd
  have hml2 : c.maxLocals = ls.size := by rw [hml]; exact hl.1.symm
  obtain ⟨hini, ⟨a1, a2⟩, ⟨b1, b2⟩, ⟨c1, c2⟩, ⟨d1, d2⟩⟩ := hlib
  have hini := hts _ hini rfl
  unfold xlib at hy
  split at hy
  · obtain ⟨x, r, rfl, hz⟩ := xj1_of hy
    clear hy
    have hwd : 2 + xwd r ≤ 12 := hwd
    exact va_mabs_long hexec hb hml2 hown hlkb (hts _ a1 rfl) hini (hts _ a2 rfl) (by omega) (by rw [xwd_sum]; omega) hRc hRs hdg (go _ _ _ _ hz hl (xwts_cons (xwts_tl hw) trivial))
  · obtain ⟨x, r, rfl, hz⟩ := xi1_of hy
    clear hy
    have hwd : 1 + xwd r ≤ 12 := hwd
    exact va_mabs hexec hb hml2 hown hlkb (hts _ b1 rfl) hini (hts _ b2 rfl) (by omega) (by rw [xwd_sum]; omega) hRc hRs hdg (go _ _ _ _ hz hl (xwts_cons (xwts_tl hw) trivial))
  · obtain ⟨z, r1, rfl, hy1⟩ := xi1_of hy
    clear hy
    obtain ⟨x, r, rfl, hz⟩ := xi1_of hy1
    clear hy1
    have hwd : 1 + (1 + xwd r) ≤ 12 := hwd
    exact va_mmin hexec hb hml2 hown hlkb (hts _ c1 rfl) hini (hts _ c2 rfl) (by omega) (by rw [xwd_sum]; omega) hRc hRs hdg (go _ _ _ _ hz hl (xwts_cons (xwts_tl (xwts_tl hw)) trivial))
  · obtain ⟨z, r1, rfl, hy1⟩ := xi1_of hy
    clear hy
    obtain ⟨x, r, rfl, hz⟩ := xi1_of hy1
    clear hy1
    have hwd : 1 + (1 + xwd r) ≤ 12 := hwd
    exact va_mmax hexec hb hml2 hown hlkb (hts _ d1 rfl) hini (hts _ d2 rfl) (by omega) (by rw [xwd_sum]; omega) hRc hRs hdg (go _ _ _ _ hz hl (xwts_cons (xwts_tl (xwts_tl hw)) trivial))
  · exact hy.elim
theorem xd_sw (hexec : p.tables.exec = Jvm.exec) (hb : c.code = cc) {dflt lo hi : Int} {offs : Array Int} (hok : (0 ≤ (pc : Int) + dflt) ∧ ∀ off ∈ offs.toList, 0 ≤ (pc : Int) + off) (hdg : decode cc pc = .ok (.tableswitch dflt lo hi offs, len)) (hx : xDo X d C hd (.tableswitch dflt lo hi offs) len a b v pc L st h o h' K) (hl : lv_has ls nL (xtL E L)) (hw : xwts h L st)
    (go : ∀ (pc1 : Nat) (L1 : xL) (st1 : List xV) (ls1 : Array Slot), K pc1 L1 st1 h → lv_has ls1 nL (xtL E L1) → xwts h L1 st1 → W p l e R s m args below meth c H locs cells slots Q (F0 m pc1 ls1 (st1.map (xtr E)))) :
    W p l e R s m args below meth c H locs cells slots Q (F0 m pc ls (st.map (xtr E))) := by
  simp only [xDo] at hx
  obtain ⟨x, r, rfl, hy⟩ := xi1_of hx
  clear hx
  unfold xsw at hy
  split at hy
  · rename_i off e1
    have kk := go _ _ _ _ hy hl (xwts_tl hw)
    unfold xtab at e1
    split at e1
    · rename_i hq
      cases e1
      exact lv_tableOut hexec hb hdg hq (Int.toNat_of_nonneg hok.1).symm kk
    · rename_i hq
      have hm : off ∈ offs.toList := by
        rw [← Array.getElem?_toList] at e1
        exact List.mem_of_getElem? e1
      exact lv_tableIn hexec hb hdg (fun z => hq (Or.inl z)) (fun z => hq (Or.inr z)) e1 (Int.toNat_of_nonneg (hok.2 off hm)).symm kk
  · exact hy.elim
/-- a call, by its row: the callee returned -/
theorem xd_call (hexec : p.tables.exec = Jvm.exec) (hb : c.code = cc) (hml : c.maxLocals = nL) (hown : s.vm.findClass (MI y).1.cls = some m.cls) (hts : ∀ w ∈ tb, goodWord w = true → w.before args s = true) (hK : xKx tb D cl tys s) (hX : xHx sT A E X s s.heap) (hA : ∀ q, s.heap.size ≤ q → A q) (hRf : (MI y).2.2.2.2.1 ≤ R.frames) (hRl : (MI y).2.2.2.2.2.1 ≤ R.locals) {idx kind pos : Nat} (hMz : xMok tb (MI a)) (hco : xcok tb host (MI y) (MI a) idx b pos kind = true) (hkd : (kind = 0 ∧ i = .invokestatic idx) ∨ (kind = 1 ∧ i = .invokespecial idx ∧ ∃ k, xrecv st b k True) ∨ (kind = 2 ∧ i = .invokevirtual idx ∧ ∃ k r, k < 40 ∧ cl[k]? = some r ∧ r.1 = (MI a).1.cls ∧ xrecv st b k True)) (hdg : decode cc pc = .ok (i, 3))
    {v1 : Option xV} {h1 : xH} (hwd : xwd (st.drop b) ≤ 8) (hbl : b ≤ st.length) (hcon : xCon tb cl ft dA D tys sT A X l (MI a) (st.take b).reverse h v1 h1) (hle : xle h h1) (hle1 : xle h1 h') (hx : K (pc + 3) L (v1.toList ++ st.drop b) h1) (hl : lv_has ls nL (xtL E L)) (hw : xwts h L st) (hP : xPt cl ft dA D E h H) (hW : xWf A E h) (hS : va_S A s.heap H locs) (hRc : cells + (xQ h' - xQ h) ≤ R.cells) (hRs : slots + (xZ h' - xZ h) ≤ R.slots)
    (go : xGo p l e R s m args below meth c Q cl ft dA D A nL h h' E K) :
    W p l e R s m args below meth c H locs cells slots Q (F0 m pc ls (st.map (xtr E))) := by
  simp only [xcok, Bool.and_eq_true, Bool.or_eq_true, decide_eq_true_eq] at hco
  obtain ⟨hlk, hkk, hna, hfr, hlo⟩ := hco
  have hlk2 : (Cond.methodLink (MI y).1.cls idx (MI a).1).before args s = true ∨ (Cond.methodLinkNest (MI y).1.cls idx (MI a).1 host).before args s = true := by
    rcases hlk with g | g
    · obtain ⟨g1, g2⟩ := xhas_of g
      exact Or.inl (hts _ g1 g2)
    · exact Or.inr (va_Nw.use rfl (hK.2.1 _ (xhasN_of g) rfl))
  have hq1 := hle.2.1
  have hq2 := hle1.2.1
  have hz1 := hle.2.2.1
  have hz2 := hle1.2.2.1
  have kk : ∀ (E1 : xPhi) (H1 : Heap) (locs1 : List Loc), (∀ a, a < xN h → E1.1 a = E.1 a) → E1.2 = E.2 → xPt cl ft dA D E1 h1 H1 → xWf A E1 h1 → va_S A s.heap H1 locs1 → lv_has ls nL (xtL E1 L) → xwts h1 L (v1.toList ++ st.drop b) → W p l e R s m args below meth c H1 locs1 (cells + (xQ h1 - xQ h)) (slots + (xZ h1 - xZ h)) Q (F0 m (pc + 3) ls ((v1.toList ++ st.drop b).map (xtr E1))) :=
    fun E1 H1 locs1 k1 k2 k3 k4 k5 k6 k7 => go E1 _ _ _ _ H1 locs1 ls _ _ hx hle k1 k2 k6 k7 k3 k4 k5 (by omega) (by omega)
  have hst : st = (st.take b).reverse.reverse ++ st.drop b := by rw [List.reverse_reverse, List.take_append_drop]
  rcases hkd with ⟨rfl, rfl⟩ | ⟨rfl, rfl, k, hrv⟩ | ⟨rfl, rfl, k, r0, h40, hc, hrc, hrv⟩
  · have hna : (MI a).2.2.2.2.2.2.2 + 0 = b := hna
    rw [hst]
    rw [hst] at hw
    exact xs_callS hexec hb hml hown hts hK hX hA hMz hkk (by omega) (by omega) hlk2 hS hP hW hl hle (by rw [List.length_reverse, List.length_take]; omega) hw hwd hcon (by omega) (by omega) hdg kk
  · have hna : (MI a).2.2.2.2.2.2.2 + 1 = b := hna
    obtain ⟨k0, q, r, e1, e2⟩ := xa1_of hrv
    have e2 := Nat.eq_of_beq_eq_true (xbif_of e2).1
    subst e2
    have hd1 : st.drop b = r := by
      have : st.drop b = (st.drop (b - 1)).drop 1 := by rw [List.drop_drop]; congr 1; omega
      rw [this, e1]
      rfl
    have hst2 : st = (st.take (b - 1)).reverse.reverse ++ vr k0 q :: r := by
      rw [List.reverse_reverse, ← e1, List.take_append_drop]
    have htk : (st.take b).reverse = vr k0 q :: (st.take (b - 1)).reverse := by
      have e3 : st.take b = st.take (b - 1) ++ [vr k0 q] := by
        have e4 : st.take b = st.take (b - 1) ++ (st.drop (b - 1)).take 1 := by
          rw [← List.take_add]
          congr 1
          omega
        rw [e4, e1]
        rfl
      rw [e3, List.reverse_append]
      rfl
    rw [htk] at hcon
    rw [hd1] at hwd kk
    have hlen : (st.take (b - 1)).reverse.length = (MI a).2.2.2.2.2.2.2 := by rw [List.length_reverse, List.length_take]; omega
    generalize (st.take (b - 1)).reverse = as at hst2 hcon hlen
    subst hst2
    exact xs_callI hexec hb hml hown hts hK hX hA hMz hkk (by omega) (by omega) hlk2 hS hP hW hl hle hlen hw hwd hcon (by omega) (by omega) hdg kk
  · have hna : (MI a).2.2.2.2.2.2.2 + 1 = b := hna
    obtain ⟨k0, q, r, e1, e2⟩ := xa1_of hrv
    have e2 := Nat.eq_of_beq_eq_true (xbif_of e2).1
    subst e2
    have hd1 : st.drop b = r := by
      have : st.drop b = (st.drop (b - 1)).drop 1 := by rw [List.drop_drop]; congr 1; omega
      rw [this, e1]
      rfl
    have hst2 : st = (st.take (b - 1)).reverse.reverse ++ vr k0 q :: r := by
      rw [List.reverse_reverse, ← e1, List.take_append_drop]
    have htk : (st.take b).reverse = vr k0 q :: (st.take (b - 1)).reverse := by
      have e3 : st.take b = st.take (b - 1) ++ [vr k0 q] := by
        have e4 : st.take b = st.take (b - 1) ++ (st.drop (b - 1)).take 1 := by
          rw [← List.take_add]
          congr 1
          omega
        rw [e4, e1]
        rfl
      rw [e3, List.reverse_append]
      rfl
    rw [htk] at hcon
    rw [hd1] at hwd kk
    have hlen : (st.take (b - 1)).reverse.length = (MI a).2.2.2.2.2.2.2 := by rw [List.length_reverse, List.length_take]; omega
    generalize (st.take (b - 1)).reverse = as at hst2 hcon hlen
    subst hst2
    exact xs_callV hexec hb hml hown hts hK hX hA hMz hkk (by omega) (by omega) hlk2 hS hP hW hl hle h40 hc hrc hlen hw hwd hcon (by omega) (by omega) hdg kk
end XCS
