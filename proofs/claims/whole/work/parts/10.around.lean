/-! WHAT STANDS AROUND A METHOD: the tables, the script, the table of a static field; and the contract of a method -/
def xKx (tb : List Cond) (D : va_G) (cl : List vw_C) (tys : List (ClassId × FieldType)) (U : State) : Prop := va_K D cl tys U ∧ (∀ w ∈ tb, xnest w = true → va_Nw w U) ∧ ∀ C, Cond.arrayOver (.object C) ∈ tb → va_AO C U
theorem xKx.warm {tb : List Cond} {D : va_G} {cl : List vw_C} {tys : List (ClassId × FieldType)} {s U : State} (hW : s.WarmedH U.vm) (h : xKx tb D cl tys s) : xKx tb D cl tys U := by
  refine ⟨va_K.moved hW.alike h.1, fun w hw hn => ?_, fun C hC => va_AO.moved hW.alike (h.2.2 C hC)⟩
  have h1 := h.2.1 w hw hn
  cases w with
  | fieldLinkNest a i b n d e => exact va_Nw.warmF hW h1
  | methodLinkNest a i x e => exact va_Nw.warmM hW h1
  | _ => cases hn
theorem xKx.same {tb : List Cond} {D : va_G} {cl : List vw_C} {tys : List (ClassId × FieldType)} {s U : State} (hv : s.vm = U.vm) (h : xKx tb D cl tys s) : xKx tb D cl tys U := by
  have ha : s.vm.Alike U.vm := hv ▸ Vm.Alike.refl s.vm
  refine ⟨va_K.moved ha h.1, fun w hw hn => ?_, fun C hC => va_AO.moved ha (h.2.2 C hC)⟩
  have h1 := h.2.1 w hw hn
  cases w with
  | fieldLinkNest a i b n d e => exact va_Nw.same rfl hv h1
  | methodLinkNest a i x e => exact va_Nw.same rfl hv h1
  | _ => cases hn
def xHx (sT : String × String × String) (A : Nat → Prop) (E : xPhi) (X : xX) (U : State) (H : Heap) : Prop := va_X (E.2 50) X.2.1 X.1 U H ∧ ¬ A (E.2 50) ∧ va_T .long (E.2 51) (X.2.2.1 51).length (fun j => .long ((X.2.2.1 51).getD j 0)) A U H ∧ va_Z sT.1 sT.2.1 sT.2.2 (.ref (E.2 51)) A U H
theorem xHx.moved {sT : String × String × String} {A : Nat → Prop} {E E1 : xPhi} {X : xX} {u U : State} {H H1 : Heap} (hv : u.vm.Alike U.vm) (hE : E1.2 = E.2) (hq : ∀ a : Nat, a < H.size → ¬ A a → H1[a]? = H[a]?) (h : xHx sT A E X u H) : xHx sT A E1 X U H1 := by
  obtain ⟨h1, h2, h3, h4⟩ := h
  have hb : E.2 50 < H.size := by
    obtain ⟨scr, g1, -⟩ := h1
    exact (Array.getElem?_eq_some_iff.mp g1).1
  unfold xHx
  rw [hE]
  exact ⟨va_X.moved hv (h1.kept (hq _ hb h2)), h2, va_T.moved hv (h3.kept hq), va_Z.moved hv (h4.kept hq)⟩
theorem xtr_ext {E E1 : xPhi} {h : xH} {v : xV} (h1 : ∀ a, a < xN h → E1.1 a = E.1 a) (h2 : E1.2 = E.2) (hw : xwt h v) : xtr E1 v = xtr E v := by
  rcases v with (x | x) | (_ | ⟨k, q⟩)
  · rfl
  · rfl
  · rfl
  · show Value.ref _ = Value.ref _
    congr 1
    unfold xad
    rcases hw with hw | ⟨-, hw⟩
    · have e1 : (Nat.ble 50 k && Nat.blt k 60) = true := by
        rw [Bool.and_eq_true]
        exact ⟨Nat.ble_eq_true_of_le hw.1, Nat.ble_eq_true_of_le hw.2⟩
      rw [e1, h2]
      rfl
    · rw [h2, h1 q hw]
theorem xtr_exts {E E1 : xPhi} {h : xH} {st : List xV} (h1 : ∀ a, a < xN h → E1.1 a = E.1 a) (h2 : E1.2 = E.2) (hw : ∀ v ∈ st, xwt h v) : st.map (xtr E1) = st.map (xtr E) := List.map_congr_left fun v hv => xtr_ext h1 h2 (hw v hv)
theorem xtL_ext {E E1 : xPhi} {h : xH} {L : xL} (h1 : ∀ a, a < xN h → E1.1 a = E.1 a) (h2 : E1.2 = E.2) (hw : ∀ q ∈ L, xwt h q.2) : xtL E1 L = xtL E L := List.map_congr_left fun q hq => by rw [xtr_ext h1 h2 (hw q hq)]
section XCN
variable (tb : List Cond) (cl : List vw_C) (ft : Nat → Nat → FieldType) (dA : Nat → ClassId) (D : va_G) (tys : List (ClassId × FieldType)) (sT : String × String × String) (A : Nat → Prop) (X : xX)
def xPc (args : List xV) (h : xH) (E : xPhi) : Array Value → State → Prop := va_Pc (args.map (xtr E)) (fun U => xKx tb D cl tys U ∧ xHx sT A E X U U.heap ∧ xPt cl ft dA D E h U.heap ∧ ∀ q, U.heap.size ≤ q → A q)
def xQc (h : xH) (E : xPhi) (v : Option xV) (h' : xH) : Array Value → State → Outcome → State → Prop := fun _ st oc t => ∃ E1 : xPhi, (∀ a, a < xN h → E1.1 a = E.1 a) ∧ E1.2 = E.2 ∧ oc = .returned (v.map (xtr E1)) ∧ xPt cl ft dA D E1 h' t.heap ∧ xWf A E1 h' ∧ va_F A st t ∧ ∀ w, v = some w → xwt h' w
theorem xPc_blind (args : List xV) (h : xH) (E : xPhi) : FrameBlind (xPc tb cl ft dA D tys sT A X args h E) := by
  intro a U g mk q
  obtain ⟨q0, q1, q2, q3, q4⟩ := q
  exact ⟨q0, xKx.same (s := U) (U := U.calling g mk a) (show U.vm = (U.calling g mk a).vm from rfl) q1, xHx.moved (u := U) (U := U.calling g mk a) (H := U.heap) (H1 := (U.calling g mk a).heap) (Vm.Alike.refl U.vm) rfl (fun _ _ _ => rfl) q2, q3, q4⟩
/-- a method's contract for one run of it: it comes to h' and to v -/
def xCon (l : Launch) (it : xMi) (args : List xV) (h : xH) (v : Option xV) (h' : xH) : Prop := ∀ E : xPhi, xWf A E h → (∀ w ∈ args, xwt h w) → Met l it.1 (.code it.1 it.2.1 it.2.2.1 it.2.2.2.1 :: tb.filter goodWord) { frames := it.2.2.2.2.1, cells := xQ h' - xQ h, slots := xZ h' - xZ h, locals := it.2.2.2.2.2.1 } (xPc tb cl ft dA D tys sT A X args h E) (xQc cl ft dA D A h E v h') (xQ h' - xQ h) (xZ h' - xZ h) A
end XCN
section XRN
variable {p : Program} {l : Launch} {e : Env} {R : Room} {s : State} {m : MethodId} {args : Array Value} {below : List Frame} {meth : Method} {c : Code} {H : Heap} {locs : List Loc} {cells slots : Nat} {Q : State → Prop}
variable {cc : ByteArray} {pc mc ms : Nat} {ls : Array Slot} {D : va_G} {cl : List vw_C} {ft : Nat → Nat → FieldType} {dA : Nat → ClassId} {A : Nat → Prop} {E : xPhi} {h h1 : xH} {st0 : List Value} {rest : List xV} {v : Option xV} {av : Array Value} {L : xL} {nL : Nat}
/-- behind a call that returned -/
theorem xs_run (hr : va_Run p l e R s m args below meth c H locs cells slots mc ms (F0 m pc ls st0) (rest.map (xtr E)) (xQc cl ft dA D A h E v h1 av) A) (hS : va_S A s.heap H locs) (hl : lv_has ls nL (xtL E L)) (hw : xwts h L rest) (hle : xle h h1)
    (kk : ∀ (E1 : xPhi) (H1 : Heap) (locs1 : List Loc), (∀ a, a < xN h → E1.1 a = E.1 a) → E1.2 = E.2 → xPt cl ft dA D E1 h1 H1 → xWf A E1 h1 → va_S A s.heap H1 locs1 → lv_has ls nL (xtL E1 L) → xwts h1 L (v.toList ++ rest) → W p l e R s m args below meth c H1 locs1 (cells + mc) (slots + ms) Q (F0 m (pc + 3) ls ((v.toList ++ rest).map (xtr E1)))) : W p l e R s m args below meth c H locs cells slots Q (F0 m pc ls st0) := by
  intro T hT X
  obtain ⟨v0, st₀, t, T', L0, h0, X', hL, e1, e2, ⟨E1, k1, k2, k3, k4, k5, ⟨hz, hk⟩, k7⟩, st⟩ := hr T hT X
  have hv : v0 = v.map (xtr E1) := by
    have := Outcome.returned.inj k3
    exact this
  subst hv
  rw [h0] at hz hk
  have hS1 : va_S A s.heap T'.heap (locs ++ L0) := ⟨Nat.le_trans hS.1 (by rw [e1]; exact hz), fun q g1 g2 => by rw [e1, hk q (Nat.lt_of_lt_of_le g1 hS.1) g2]; exact hS.2.1 q g1 g2, fun q hq => by
    rcases List.mem_append.mp hq with h | h
    · exact hS.2.2 q h
    · exact hL q h⟩
  have hw1 : xwts h1 L (v.toList ++ rest) := by
    have hw2 := xwts_le hle hw
    refine ⟨hw2.1, fun w hq => ?_⟩
    rcases List.mem_append.mp hq with g | g
    · exact k7 w (by cases v with
        | none => cases g
        | some z => rw [List.mem_singleton.mp g])
    · exact hw2.2 w g
  obtain ⟨t2, a1, b1⟩ := kk E1 T'.heap (locs ++ L0) k1 k2 (by rw [e1]; exact k4) k5 hS1 (by rw [xtL_ext k1 k2 hw.1]; exact hl) hw1 T' rfl X'
  refine ⟨t2, st t2 ?_, b1⟩
  have e3 : (v.toList ++ rest).map (xtr E1) = (v.map (xtr E1)).toList ++ rest.map (xtr E) := by
    rw [List.map_append, xtr_exts k1 k2 hw.2]
    cases v <;> rfl
  rw [e3] at a1
  exact a1
end XRN
