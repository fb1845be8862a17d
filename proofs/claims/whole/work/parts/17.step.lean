section XSP
variable {p : Program} {l : Launch} {e : Env} {R : Room} {s : State} {m : MethodId} {args : Array Value} {below : List Frame} {meth : Method} {c : Code} {H : Heap} {locs : List Loc} {cells slots : Nat} {Q : State → Prop}
variable {cc : ByteArray} {pc : Nat} {ls : Array Slot} {D : va_G} {cl : List vw_C} {ft : Nat → Nat → FieldType} {dA : Nat → ClassId} {tys : List (ClassId × FieldType)} {sT : String × String × String} {A : Nat → Prop} {X : xX} {E : xPhi} {h h' : xH} {L : xL} {st : List xV} {nL : Nat} {tb : List Cond} {host : String} {MI : Nat → xMi} {NM y d : Nat} {C : Nat → List xV → xH → xO → xH → Prop} {hd : xB} {i : Instr} {len a b : Nat} {v : xV} {o : xO} {K : Nat → xL → List xV → xH → Prop}
/-- the claim's tables are as they must be -/
def xTab (tb : List Cond) (cl : List vw_C) (ft : Nat → Nat → FieldType) (dA : Nat → ClassId) (tys : List (ClassId × FieldType)) (MI : Nat → xMi) (NM : Nat) : Prop := xClOk tb cl ft ∧ xTyOk tb cl dA tys ∧ xLibOk tb ∧ (Cond.instanceMethod objectInit ∈ tb ∧ Cond.code objectInit ⟨#[0xb1]⟩ 1 none ∈ tb)
/-- what stands around a walk -/
def xSur (p : Program) (s : State) (m : MethodId) (args : Array Value) (meth : Method) (c : Code) (R : Room) (tb : List Cond) (cl : List vw_C) (D : va_G) (tys : List (ClassId × FieldType)) (A : Nat → Prop) (cc : ByteArray) (nL : Nat) (me : xMi) : Prop := p.tables.exec = Jvm.exec ∧ c.code = cc ∧ c.maxLocals = nL ∧ s.vm.findClass me.1.cls = some m.cls ∧ meth.name = me.1.name ∧ (∀ w ∈ tb, goodWord w = true → w.before args s = true) ∧ xKx tb D cl tys s ∧ (∀ q, s.heap.size ≤ q → A q) ∧ me.2.2.2.2.1 ≤ R.frames ∧ me.2.2.2.2.2.1 ≤ R.locals
/-- a row is a call's -/
def xInvk (cl : List vw_C) (tb : List Cond) (host : String) (MI : Nat → xMi) (NM y : Nat) (i : Instr) (a b : Nat) (st : List xV) : Prop := ∃ idx kind pos, a < NM ∧ xcok tb host (MI y) (MI a) idx b pos kind = true ∧ ((kind = 0 ∧ i = .invokestatic idx) ∨ (kind = 1 ∧ i = .invokespecial idx ∧ ∃ k, xrecv st b k True) ∨ (kind = 2 ∧ i = .invokevirtual idx ∧ ∃ (k : Nat) (r : vw_C), k < 40 ∧ cl[k]? = some r ∧ r.1 = (MI a).1.cls ∧ xrecv st b k True))
/-- a call's arm: the callee returned, or what it threw is caught -/
theorem xd_arm (hsur : xSur p s m args meth c R tb cl D tys A cc nL (MI y)) (hX : xHx sT A E X s s.heap) (hMz : a < NM → ∀ v1, xMok tb (MI a) ∨ ∀ as h h1, ¬ C a as h (.inl v1) h1) {idx kind pos : Nat} (haN : a < NM) (hco : xcok tb host (MI y) (MI a) idx b pos kind = true) (hkd : (kind = 0 ∧ i = .invokestatic idx) ∨ (kind = 1 ∧ i = .invokespecial idx ∧ ∃ k, xrecv st b k True) ∨ (kind = 2 ∧ i = .invokevirtual idx ∧ ∃ k r, k < 40 ∧ cl[k]? = some r ∧ r.1 = (MI a).1.cls ∧ xrecv st b k True)) (hdg : decode cc pc = .ok (i, 3))
    (hC : ∀ (v1 : Option xV) (h1 : xH), C a (st.take b).reverse h (.inl v1) h1 → xCon tb cl ft dA D tys sT A X l (MI a) (st.take b).reverse h v1 h1) (hCle : ∀ z as h o h1, C z as h o h1 → xle h h1) (hKle : ∀ pc1 L1 st1 h1, K pc1 L1 st1 h1 → xle h1 h') (hx : xcall C hd pc 3 a b L st h K) (hl : lv_has ls nL (xtL E L)) (hw : xwts h L st) (hP : xPt cl ft dA D E h H) (hW : xWf A E h) (hS : va_S A s.heap H locs) (hRc : cells + (xQ h' - xQ h) ≤ R.cells) (hRs : slots + (xZ h' - xZ h) ≤ R.slots)
    (hcx : ∀ (k : Nat) (h1 : xH) (q : Nat × Nat), xInvk cl tb host MI NM y i a b st → b ≤ st.length → xwd (st.drop b) ≤ 8 → C a (st.take b).reverse h (.inr k) h1 → xcatch hd pc k = some q → K q.2 (xoff L q.1) [] h1 → W p l e R s m args below meth c H locs cells slots Q (F0 m pc ls (st.map (xtr E))))
    (go : xGo p l e R s m args below meth c Q cl ft dA D A nL h h' E K) :
    W p l e R s m args below meth c H locs cells slots Q (F0 m pc ls (st.map (xtr E))) := by
  obtain ⟨hexec, hb, hml, hown, hmn, hts, hK, hA, hRf, hRl⟩ := hsur
  obtain ⟨hbb, o1, h1, hc, hy⟩ := xbif_of hx
  rw [Bool.and_eq_true] at hbb
  have hbl := Nat.le_of_ble_eq_true hbb.1
  have hwd := Nat.le_of_ble_eq_true hbb.2
  rcases o1 with v1 | k
  · have hx1 : K (pc + 3) L (v1.toList ++ st.drop b) h1 := by
      cases v1 with
      | none => exact hy
      | some w => exact hy
    have hM : xMok tb (MI a) := by
      rcases hMz haN v1 with g | g
      · exact g
      · exact absurd hc (g _ _ _)
    exact xd_call hexec hb hml hown hts hK hX hA hRf hRl hM hco hkd hdg hwd hbl (hC v1 h1 hc) (hCle _ _ _ _ _ hc) (hKle _ _ _ _ hx1) hx1 hl hw hP hW hS hRc hRs go
  · have hy : (match xcatch hd pc k with | some q => K q.2 (xoff L q.1) [] h1 | none => False) := hy
    cases hq : xcatch hd pc k with
    | none => rw [hq] at hy; exact hy.elim
    | some q =>
      rw [hq] at hy
      exact hcx k h1 q ⟨idx, kind, pos, haN, hco, hkd⟩ hbl hwd hc hq hy
set_option maxHeartbeats 4000000 in
set_option maxRecDepth 100000 in
/-- ONE STEP -/
theorem xstep (hsur : xSur p s m args meth c R tb cl D tys A cc nL (MI y)) (htab : xTab tb cl ft dA tys MI NM) (hX : xHx sT A E X s s.heap) (hMz : a < NM → ∀ v1, xMok tb (MI a) ∨ ∀ as h h1, ¬ C a as h (.inl v1) h1)
    (hok : xEnds i a = true ∨ xok1 nL pc i len a v = true ∨ xok2 cl ft tb host sT MI NM y i len a b v = true ∨ xok3 pc i = true) (hdg : decode cc pc = .ok (i, len)) (hx : xDo X d C hd i len a b v pc L st h o h' K)
    (hC : ∀ (as : List xV) (v1 : Option xV) (h1 : xH), a < NM → C a as h (.inl v1) h1 → xCon tb cl ft dA D tys sT A X l (MI a) as h v1 h1) (hCle : ∀ z as h o h1, C z as h o h1 → xle h h1) (hKle : ∀ pc1 L1 st1 h1, K pc1 L1 st1 h1 → xle h1 h') (hl : lv_has ls nL (xtL E L)) (hw : xwts h L st) (hP : xPt cl ft dA D E h H) (hW : xWf A E h) (hS : va_S A s.heap H locs) (hRc : cells + (xQ h' - xQ h) ≤ R.cells) (hRs : slots + (xZ h' - xZ h) ≤ R.slots)
    (hend : xEnds i a = true → W p l e R s m args below meth c H locs cells slots Q (F0 m pc ls (st.map (xtr E))))
    (hcx : ∀ (k : Nat) (h1 : xH) (q : Nat × Nat), xInvk cl tb host MI NM y i a b st → b ≤ st.length → xwd (st.drop b) ≤ 8 → C a (st.take b).reverse h (.inr k) h1 → xcatch hd pc k = some q → K q.2 (xoff L q.1) [] h1 → W p l e R s m args below meth c H locs cells slots Q (F0 m pc ls (st.map (xtr E))))
    (go : xGo p l e R s m args below meth c Q cl ft dA D A nL h h' E K) :
    W p l e R s m args below meth c H locs cells slots Q (F0 m pc ls (st.map (xtr E))) := by
  obtain ⟨hcl, hty, hlib, hob⟩ := htab
  have go0 : ∀ (pc1 : Nat) (L1 : xL) (st1 : List xV) (ls1 : Array Slot), K pc1 L1 st1 h → lv_has ls1 nL (xtL E L1) → xwts h L1 st1 → W p l e R s m args below meth c H locs cells slots Q (F0 m pc1 ls1 (st1.map (xtr E))) :=
    fun pc1 L1 st1 ls1 k1 k2 k3 => go E pc1 L1 st1 h H locs ls1 cells slots k1 (xle_rf h) (fun _ _ => rfl) rfl k2 k3 hP hW hS hRc hRs
  rcases hok with hok | hok | hok | hok
  · exact hend hok
  · exact xs_pure hsur.1 hsur.2.1 hok hdg hx hl hw go0
  · obtain ⟨hexec, hb, hml, hown, hmn, hts, hK, hA, hRf, hRl⟩ := id hsur
    cases i with
    | ldc2_w idx =>
      simp only [xok2, Bool.and_eq_true, decide_eq_true_eq] at hok
      obtain ⟨rfl, hf⟩ := hok
      split at hf
      · obtain ⟨g1, g2⟩ := xhas_of hf
        exact lv_ldc2 hexec hb hown (hts _ g1 g2) hdg (go0 _ _ _ _ hx hl (xwts_cons hw trivial))
      · cases hf
    | getfield idx => exact xd_get hexec hb hown hts hK hcl hok hdg hx hl hw hP hW go0
    | putfield idx => exact xd_put hexec hb hown hmn hts hK hcl hok hdg hx hl hw hP hW hS hRc hRs go
    | getstatic idx => exact xd_gets hexec hb hown hts hK hX hok hdg hx hl hw hS go0
    | arraylength => exact xd_alen hexec hb hX (by simpa [xok2] using hok) hdg hx hl hw hS go0
    | iaload => exact xd_iald hexec hb hK hty hX (by simpa [xok2] using hok) hdg hx hl hw hP hS go0
    | laload => exact xd_lald hexec hb hK hty hX (by simpa [xok2] using hok) hdg hx hl hw hP hS go0
    | aaload => exact xd_aald hexec hb hK hty (by simpa [xok2] using hok) hdg hx hl hw hP hW go0
    | iastore => exact xd_iast hexec hb hK hty (by simpa [xok2] using hok) hdg hx hl hw hP hW hS hRc hRs go
    | lastore => exact xd_last hexec hb hK hty (by simpa [xok2] using hok) hdg hx hl hw hP hW hS hRc hRs go
    | aastore => exact xd_aast hexec hb hK hty (by simpa [xok2] using hok) hdg hx hl hw hP hW hS hRc hRs go
    | newarray at9 => exact xd_newa hexec hb hts hK hty hA hok hdg hx hl hw hP hW hS hRc hRs hKle go
    | anewarray idx => exact xd_newq hexec hb hown hts hK hty hA hok hdg hx hl hw hP hW hS hRc hRs hKle go
    | new idx => exact xd_new hexec hb hown hts hK hcl hA hok hdg hx hl hw hP hW hS hRc hRs hKle go
    | invokestatic idx =>
      cases ha : Nat.ble 1000 a with
      | true => exact xd_lib hexec hb hml hown hts hlib hRf hRl (by omega) (by omega) ha hok hdg hx hl hw go0
      | false =>
        simp only [xok2, Bool.and_eq_true, decide_eq_true_eq] at hok
        obtain ⟨rfl, hf⟩ := hok
        rw [ha] at hf
        simp only [cond_false, Bool.and_eq_true, decide_eq_true_eq] at hf
        simp only [xDo] at hx
        rw [ha] at hx
        exact xd_arm hsur hX hMz hf.1 hf.2 (Or.inl ⟨rfl, rfl⟩) hdg (fun v1 h1 g => hC _ v1 h1 hf.1 g) hCle hKle hx hl hw hP hW hS hRc hRs hcx go
    | invokevirtual idx =>
      simp only [xok2, Bool.and_eq_true, decide_eq_true_eq] at hok
      obtain ⟨rfl, haN, hco, h40, hf⟩ := hok
      cases hc : cl[xci v]? with
      | none => rw [hc] at hf; cases hf
      | some r0 =>
        rw [hc] at hf
        have hf : r0.1 = (MI a).1.cls := decide_eq_true_eq.mp hf
        have hx : xrecv st b (xci v) (xcall C hd pc 3 a b L st h K) := hx
        have hrv : xrecv st b (xci v) True := by
          obtain ⟨k, q, r, e1, e2⟩ := xa1_of hx
          unfold xrecv
          rw [e1]
          show (bif Nat.beq k (xci v) then True else False)
          rw [(xbif_of e2).1]
          trivial
        exact xd_arm hsur hX hMz haN hco (Or.inr (Or.inr ⟨rfl, rfl, xci v, r0, h40, hc, hf, hrv⟩)) hdg (fun v1 h1 g => hC _ v1 h1 haN g) hCle hKle (xrecv_nx hx) hl hw hP hW hS hRc hRs hcx go
    | invokespecial idx =>
      cases ha : Nat.beq a 999 with
      | true => exact xd_obj hexec hb hml hown hts hob hRf hRl (Nat.eq_of_beq_eq_true ha) hok hdg hx hl hw go0
      | false =>
        simp only [xok2, Bool.and_eq_true, decide_eq_true_eq] at hok
        obtain ⟨rfl, hf⟩ := hok
        rw [ha] at hf
        simp only [cond_false, Bool.and_eq_true, decide_eq_true_eq] at hf
        simp only [xDo] at hx
        rw [ha] at hx
        have hx : xrecv st b (xci v) (xcall C hd pc 3 a b L st h K) := hx
        have hrv : xrecv st b (xci v) True := by
          obtain ⟨k, q, r, e1, e2⟩ := xa1_of hx
          unfold xrecv
          rw [e1]
          show (bif Nat.beq k (xci v) then True else False)
          rw [(xbif_of e2).1]
          trivial
        exact xd_arm hsur hX hMz hf.1 hf.2 (Or.inr (Or.inl ⟨rfl, rfl, xci v, hrv⟩)) hdg (fun v1 h1 g => hC _ v1 h1 hf.1 g) hCle hKle (xrecv_nx hx) hl hw hP hW hS hRc hRs hcx go
    | return_ => exact hend rfl
    | ireturn => exact hend rfl
    | lreturn => exact hend rfl
    | areturn => exact hend rfl
    | _ => exact absurd hok (by simp [xok2])
  · cases i with
    | tableswitch dflt lo hi offs =>
      simp only [xok3, Bool.and_eq_true, decide_eq_true_eq, List.all_eq_true] at hok
      exact xd_sw hsur.1 hsur.2.1 hok hdg hx hl hw go0
    | _ => exact absurd hok (by simp [xok3])
end XSP
