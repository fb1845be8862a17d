section XWK
variable {p : Program} {l : Launch} {e : Env} {R : Room} {s : State} {m : MethodId} {args : Array Value} {below : List Frame} {meth : Method} {c : Code} {H : Heap} {locs : List Loc} {cells slots : Nat} {Q : State → Prop}
variable {cc : ByteArray} {pc : Nat} {ls : Array Slot} {D : va_G} {cl : List vw_C} {ft : Nat → Nat → FieldType} {dA : Nat → ClassId} {tys : List (ClassId × FieldType)} {sT : String × String × String} {A : Nat → Prop} {X : xX} {E E0 : xPhi} {h h0 h' : xH} {L : xL} {st : List xV} {nL : Nat} {tb : List Cond} {host : String} {MI : Nat → xMi} {NM y d : Nat} {C : Nat → List xV → xH → xO → xH → Prop} {hd : xB} {i : Instr} {len a b : Nat} {v : xV} {v0 : Option xV} {o : xO} {K : Nat → xL → List xV → xH → Prop} {mc ms : Nat}
/-- the end of a method that returns -/
theorem xend (hexec : p.tables.exec = Jvm.exec) (hb : c.code = cc) (hr : meth.sig.returnType = (MI y).2.2.2.1) (hlocks : meth.locks = false) (hends : xEnds i a = true) (hok : xok2 cl ft tb host sT MI NM y i len a b v = true ∨ ∃ idx, i = .new idx) (hdg : decode cc pc = .ok (i, len)) (hx : xDo X d C hd i len a b v pc L st h (.inl v0) h' K) (hw : xwts h L st) (hP : xPt cl ft dA D E h H) (hW : xWf A E h) (hS : va_S A s.heap H locs) (hE1 : ∀ a, a < xN h0 → E.1 a = E0.1 a) (hE2 : E.2 = E0.2) (hmc : cells + (xQ h' - xQ h) ≤ mc) (hms : slots + (xZ h' - xZ h) ≤ ms) :
    W p l e R s m args below meth c H locs cells slots (MQ below (xQc cl ft dA D A h0 E0 v0 h') args s mc ms A) (F0 m pc ls (st.map (xtr E))) := by
  have fin : ∀ (w : Option xV), v0 = w → h' = h → (∀ z, w = some z → xwt h z) → ∀ t : State, t.heap = H → xQc cl ft dA D A h0 E0 v0 h' args s (.returned (w.map (xtr E))) t := by
    intro w e1 e2 e3 t ht
    subst e1
    subst e2
    exact ⟨E, hE1, hE2, rfl, by rw [ht]; exact hP, hW, hS.F ht, e3⟩
  cases i with
  | return_ =>
    obtain ⟨rfl, e1, rfl⟩ := hx
    have e1 := Sum.inl.inj e1
    rcases hok with hok | ⟨idx, g⟩
    · simp only [xok2, Bool.and_eq_true, decide_eq_true_eq] at hok
      obtain ⟨rfl, hret⟩ := hok
      exact W.widen (k := mc) (n := ms) (by omega) (by omega) (W.vret hexec hb (by rw [hr, hret]) (fun t ht _ => fin none e1 rfl (fun z g => by cases g) t ht) hS.2.2 hdg hlocks)
    · cases g
  | ireturn =>
    rcases hok with hok | ⟨idx, g⟩
    · simp only [xok2, Bool.and_eq_true, decide_eq_true_eq] at hok
      obtain ⟨rfl, hret⟩ := hok
      simp only [xDo] at hx
      split at hx
      · obtain ⟨x, r, rfl, hy⟩ := xi1_of hx
        obtain ⟨rfl, e1, rfl⟩ := hy
        have e1 := Sum.inl.inj e1
        exact W.widen (k := mc) (n := ms) (by omega) (by omega) (W.iret hexec hb (by rw [hr]; exact decide_eq_true_eq.mp hret) (fun t ht _ => fin (some (vi x)) e1 rfl (fun z g => by cases g; trivial) t ht) hS.2.2 hdg hlocks)
      · rename_i hne
        obtain ⟨x, r, rfl, hy⟩ := xi1_of hx
        obtain ⟨rfl, h01, e1, rfl⟩ := hy
        have e1 := Sum.inl.inj e1
        have hret2 : (MI y).2.2.2.1 = some .boolean := by
          split at hret
          · exact absurd rfl (by assumption)
          · exact decide_eq_true_eq.mp hret
        exact W.widen (k := mc) (n := ms) (by omega) (by omega) (W.zret (ty := .boolean) hexec hb (by rw [hr, hret2]) (by rcases h01 with rfl | rfl <;> decide) (fun t ht _ => fin (some (vi x)) e1 rfl (fun z g => by cases g; trivial) t ht) hS.2.2 hdg hlocks)
    · cases g
  | lreturn =>
    obtain ⟨x, r, rfl, hy⟩ := xj1_of hx
    obtain ⟨rfl, e1, rfl⟩ := hy
    have e1 := Sum.inl.inj e1
    rcases hok with hok | ⟨idx, g⟩
    · simp only [xok2, Bool.and_eq_true, decide_eq_true_eq] at hok
      obtain ⟨rfl, hret⟩ := hok
      exact W.widen (k := mc) (n := ms) (by omega) (by omega) (W.lret hexec hb (by rw [hr, hret]) (fun t ht _ => fin (some (vl x)) e1 rfl (fun z g => by cases g; trivial) t ht) hS.2.2 hdg hlocks)
    · cases g
  | areturn =>
    simp only [xDo] at hx
    obtain ⟨k, q, r, rfl, hy⟩ := xa1_of hx
    obtain ⟨rfl, e1, rfl⟩ := hy
    have e1 := Sum.inl.inj e1
    rcases hok with hok | ⟨idx, g⟩
    · simp only [xok2, Bool.and_eq_true, decide_eq_true_eq] at hok
      obtain ⟨rfl, hret⟩ := hok
      split at hret
      · rename_i nm hret2
        exact W.widen (k := mc) (n := ms) (by omega) (by omega) (W.aret hexec hb (by rw [hr, hret2]) (Or.inl ⟨_, rfl⟩) (Or.inr ⟨_, rfl⟩) (fun t ht _ => fin (some (vr k q)) e1 rfl (fun z g => by cases g; exact hw.2 _ List.mem_cons_self) t ht) hS.2.2 hdg hlocks)
      · cases hret
    · cases g
  | new idx =>
    simp only [xDo] at hx
    have h40 : Nat.blt a 40 = false := by
      cases hq : Nat.blt a 40 with
      | false => rfl
      | true =>
        have g1 : a + 1 ≤ 40 := Nat.le_of_ble_eq_true hq
        have g2 : 40 ≤ a := Nat.le_of_ble_eq_true hends
        omega
    rw [h40] at hx
    cases hx.2.1
  | _ => cases hends
/-- a method's table of rows is as it must be -/
def xRows (cl : List vw_C) (ft : Nat → Nat → FieldType) (tb : List Cond) (host : String) (sT : String × String × String) (MI : Nat → xMi) (NM y : Nat) (P : xP) : Prop := ∀ (pc : Nat) (q : xT), P.1 pc = some q → decode (MI y).2.1 pc = .ok (q.1, q.2.1) ∧ (xEnds q.1 q.2.2.1 = true ∨ xok1 (MI y).2.2.1 pc q.1 q.2.1 q.2.2.1 q.2.2.2.2 = true ∨ xok2 cl ft tb host sT MI NM y q.1 q.2.1 q.2.2.1 q.2.2.2.1 q.2.2.2.2 = true ∨ xok3 pc q.1 = true) ∧ (xEnds q.1 q.2.2.1 = true → xok2 cl ft tb host sT MI NM y q.1 q.2.1 q.2.2.1 q.2.2.2.1 q.2.2.2.2 = true ∨ ∃ idx, q.1 = .new idx)
set_option maxHeartbeats 4000000 in
/-- THE WALK of a method that returns; hcx: what a callee throws is caught -/
theorem xwalk {P : xP} (hsur : xSur p s m args meth c R tb cl D tys A (MI y).2.1 (MI y).2.2.1 (MI y)) (htab : xTab tb cl ft dA tys MI NM) (hX : xHx sT A E0 X s s.heap) (hMz : ∀ z v1, z < NM → xMok tb (MI z) ∨ ∀ as h h1, ¬ C z as h (.inl v1) h1) (hrow : xRows cl ft tb host sT MI NM y P) (hr : meth.sig.returnType = (MI y).2.2.2.1) (hlocks : meth.locks = false)
    (hC : ∀ (z : Nat) (as : List xV) (h : xH) (v1 : Option xV) (h1 : xH), z < NM → C z as h (.inl v1) h1 → xCon tb cl ft dA D tys sT A X l (MI z) as h v1 h1) (hCle : ∀ z as h o h1, C z as h o h1 → xle h h1)
    (hcx : ∀ (n pc : Nat) (q : xT) (E : xPhi) (L : xL) (st : List xV) (h : xH) (H : Heap) (locs : List Loc) (ls : Array Slot) (cells slots k : Nat) (h1 : xH) (q1 : Nat × Nat), P.1 pc = some q → E.2 = E0.2 → lv_has ls (MI y).2.2.1 (xtL E L) → xwts h L st → xPt cl ft dA D E h H → xWf A E h → va_S A s.heap H locs → cells + (xQ h' - xQ h) ≤ R.cells → slots + (xZ h' - xZ h) ≤ R.slots → xInvk cl tb host MI NM y q.1 q.2.2.1 q.2.2.2.1 st → q.2.2.2.1 ≤ st.length → xwd (st.drop q.2.2.2.1) ≤ 8 → C q.2.2.1 (st.take q.2.2.2.1).reverse h (.inr k) h1 → xcatch P.2.1 pc k = some q1 → xC X d C P n q1.2 (xoff L q1.1) [] h1 (.inl v0) h' → (xGo p l e R s m args below meth c (MQ below (xQc cl ft dA D A h0 E0 v0 h') args s mc ms A) cl ft dA D A (MI y).2.2.1 h h' E (fun pc L st h => xC X d C P n pc L st h (.inl v0) h')) → W p l e R s m args below meth c H locs cells slots (MQ below (xQc cl ft dA D A h0 E0 v0 h') args s mc ms A) (F0 m pc ls (st.map (xtr E))))
    (hRm : R.cells ≤ mc ∧ R.slots ≤ ms) :
    ∀ (n pc : Nat) (E : xPhi) (L : xL) (st : List xV) (h : xH) (H : Heap) (locs : List Loc) (ls : Array Slot) (cells slots : Nat), xC X d C P n pc L st h (.inl v0) h' → xN h0 ≤ xN h → (∀ a, a < xN h0 → E.1 a = E0.1 a) → E.2 = E0.2 → lv_has ls (MI y).2.2.1 (xtL E L) → xwts h L st → xPt cl ft dA D E h H → xWf A E h → va_S A s.heap H locs → cells + (xQ h' - xQ h) ≤ R.cells → slots + (xZ h' - xZ h) ≤ R.slots → W p l e R s m args below meth c H locs cells slots (MQ below (xQc cl ft dA D A h0 E0 v0 h') args s mc ms A) (F0 m pc ls (st.map (xtr E))) := by
  intro n
  induction n with
  | zero => intro pc E L st h H locs ls cells slots hx; exact hx.elim
  | succ n ih =>
    intro pc E L st h H locs ls cells slots hx hn0 hE1 hE2 hl hw hP hW hS hRc hRs
    unfold xC at hx
    cases hq : P.1 pc with
    | none => rw [hq] at hx; exact hx.elim
    | some q =>
      rw [hq] at hx
      obtain ⟨hdg, hok, hok2⟩ := hrow pc q hq
      have go : xGo p l e R s m args below meth c (MQ below (xQc cl ft dA D A h0 E0 v0 h') args s mc ms A) cl ft dA D A (MI y).2.2.1 h h' E (fun pc L st h => xC X d C P n pc L st h (.inl v0) h') :=
        fun E1 pc1 L1 st1 h1 H1 locs1 ls1 cells1 slots1 k1 k2 k3 k4 k5 k6 k7 k8 k9 k10 k11 => ih pc1 E1 L1 st1 h1 H1 locs1 ls1 cells1 slots1 k1 (Nat.le_trans hn0 k2.1) (fun a ha => (k3 a (Nat.lt_of_lt_of_le ha hn0)).trans (hE1 a ha)) (k4.trans hE2) k5 k6 k7 k8 k9 k10 k11
      exact xstep (host := host) (NM := NM) hsur htab (hX.moved (Vm.Alike.refl _) hE2 (fun _ _ _ => rfl)) (fun ha v1 => hMz _ v1 ha) hok hdg hx (fun as v1 h1 ha g => hC _ as h v1 h1 ha g) hCle (fun pc1 L1 st1 h1 g => xC_le hCle n pc1 L1 st1 h1 _ _ g) hl hw hP hW hS hRc hRs (fun hends => xend hsur.1 hsur.2.1 hr hlocks hends (hok2 hends) hdg hx hw hP hW hS hE1 hE2 (by omega) (by omega)) (fun k h1 q1 g0 g1 g2 g3 g4 g5 => hcx n pc q E L st h H locs ls cells slots k h1 q1 hq hE2 hl hw hP hW hS hRc hRs g0 g1 g2 g3 g4 g5 go) go
end XWK
