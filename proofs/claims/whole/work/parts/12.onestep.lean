/-- what the claim's tables say of its objects and arrays -/
def xClOk (tb : List Cond) (cl : List vw_C) (ft : Nat → Nat → FieldType) : Prop := ∀ (ci : Nat) (r : vw_C), cl[ci]? = some r → (∀ w ∈ u_ws r.1 r.2.1 r.2.2, w ∈ tb ∧ goodWord w = true) ∧ (∀ k, k < r.2.2 → parseFieldDescriptor (r.2.1 k).2.2.1 = some (ft ci k)) ∧ (∀ a, a < r.2.2 → ∀ b, b < r.2.2 → a ≠ b → (r.2.1 a).2.1 ≠ (r.2.1 b).2.1) ∧ (∀ k, k < r.2.2 → xft (ft ci k) = 3 → defaultValue (ft ci k) = .null) ∧ Cond.instantiable r.1 r.2.2 ∈ tb ∧ Cond.initialized r.1 ∈ tb
def xTyOk (tb : List Cond) (cl : List vw_C) (dA : Nat → ClassId) (tys : List (ClassId × FieldType)) : Prop := (∃ t0 : Nat, tys[t0]? = some (dA 40, FieldType.int)) ∧ (∃ t0 : Nat, tys[t0]? = some (dA 41, FieldType.long)) ∧ Cond.arrayClass .int ∈ tb ∧ Cond.arrayClass .long ∈ tb ∧ ∀ k, xoa k = true → ∃ (ci : Nat) (r : vw_C) (t0 : Nat), k = 60 + ci ∧ ci < 40 ∧ cl[ci]? = some r ∧ tys[t0]? = some (dA k, .object r.1) ∧ Cond.arrayOver (.object r.1) ∈ tb
theorem xfv_i {ft : Nat → Nat → FieldType} {E : xPhi} {h : xH} {a ci k : Nat} (hf : xft (ft ci k) = 0 ∨ xft (ft ci k) = 2) : xfv ft E h a ci k = .int (xI h a k) := by
  unfold xfv
  rcases hf with hf | hf <;> simp only [hf]
theorem xfv_j {ft : Nat → Nat → FieldType} {E : xPhi} {h : xH} {a ci k : Nat} (hf : xft (ft ci k) = 1) : xfv ft E h a ci k = .long (xJ h a k) := by
  unfold xfv
  simp only [hf]
theorem xfv_r {ft : Nat → Nat → FieldType} {E : xPhi} {h : xH} {a ci k : Nat} (hf : xft (ft ci k) = 3) : xfv ft E h a ci k = va_rf (xro E (xR h a k)) := by
  unfold xfv
  simp only [hf]
def xEnds (i : Instr) (a : Nat) : Bool := match i with
  | .return_ => true
  | .ireturn => true
  | .lreturn => true
  | .areturn => true
  | .new _ => Nat.ble 40 a
  | _ => false
theorem xhas_of {tb : List Cond} {q : Nat} {w : Cond} (h : xhas tb q w = true) : w ∈ tb ∧ goodWord w = true := by
  simp only [xhas, Bool.and_eq_true, decide_eq_true_eq] at h
  exact ⟨List.mem_of_getElem? h.1, h.2⟩
theorem xhasN_of {tb : List Cond} {q : Nat} {w : Cond} (h : xhasN tb q w = true) : w ∈ tb := by
  simp only [xhasN, decide_eq_true_eq] at h
  exact List.mem_of_getElem? h
theorem xad_in (E : xPhi) {k : Nat} (q : Nat) (h : k < 50 ∨ 60 ≤ k) : xad E k q = E.1 q := by
  unfold xad
  have e1 : (Nat.ble 50 k && Nat.blt k 60) = false := by
    cases hb9 : (Nat.ble 50 k && Nat.blt k 60) with
    | false => rfl
    | true =>
      rw [Bool.and_eq_true] at hb9
      have h1 := Nat.le_of_ble_eq_true hb9.1
      have h2 : k + 1 ≤ 60 := Nat.le_of_ble_eq_true hb9.2
      omega
  rw [e1]
  rfl
/-- a reference that is read: its value, and that it is of its kind -/
theorem xrd_of {h : xH} {r kind : Nat} {K : xV → Prop} {E : xPhi} {A : Nat → Prop} (hW : xWf A E h) (hr : r ≤ xN h) (hk : kind < 50 ∨ 60 ≤ kind) (hx : xrd h r kind K) : ∃ w, K w ∧ xwt h w ∧ va_rf (xro E r) = xtr E w := by
  unfold xrd at hx
  split at hx
  · exact ⟨_, hx, trivial, rfl⟩
  · obtain ⟨g1, hx⟩ := xbif_of hx
    have g1 := Nat.eq_of_beq_eq_true g1
    refine ⟨_, hx, Or.inr ⟨g1, hr⟩, ?_⟩
    show Value.ref _ = Value.ref _
    rw [xad_in E _ hk]
theorem xwt_in {h : xH} {k q : Nat} (hw : xwt h (vr k q)) (hk : k < 50 ∨ 60 ≤ k) : (xK h q).1 = k ∧ q < xN h := by
  rcases hw with g | g
  · exact absurd g (by show ¬ (50 ≤ k ∧ k < 60); omega)
  · exact g
section XST
variable {p : Program} {l : Launch} {e : Env} {R : Room} {s : State} {m : MethodId} {args : Array Value} {below : List Frame} {meth : Method} {c : Code} {H : Heap} {locs : List Loc} {cells slots : Nat} {Q : State → Prop}
variable {cc : ByteArray} {pc : Nat} {ls : Array Slot} {D : va_G} {cl : List vw_C} {ft : Nat → Nat → FieldType} {dA : Nat → ClassId} {tys : List (ClassId × FieldType)} {sT : String × String × String} {A : Nat → Prop} {X : xX} {E : xPhi} {h h' : xH} {L : xL} {st : List xV} {nL : Nat} {tb : List Cond} {host : String} {MI : Nat → xMi} {NM y d : Nat} {C : Nat → List xV → xH → xO → xH → Prop} {hd : xB} {i : Instr} {len a b : Nat} {v : xV} {o : xO} {K : Nat → xL → List xV → xH → Prop}
set_option maxHeartbeats 4000000 in
set_option maxRecDepth 100000 in
/-- getfield -/
theorem xd_get (hexec : p.tables.exec = Jvm.exec) (hb : c.code = cc) (hown : s.vm.findClass (MI y).1.cls = some m.cls) (hts : ∀ w ∈ tb, goodWord w = true → w.before args s = true) (hK : xKx tb D cl tys s) (hcl : xClOk tb cl ft) {idx : Nat} (hok : xok2 cl ft tb host sT MI NM y (.getfield idx) len a b v = true) (hdg : decode cc pc = .ok (.getfield idx, len)) (hx : xDo X d C hd (.getfield idx) len a b v pc L st h o h' K) (hl : lv_has ls nL (xtL E L)) (hw : xwts h L st) (hP : xPt cl ft dA D E h H) (hW : xWf A E h)
    (go : ∀ (pc1 : Nat) (L1 : xL) (st1 : List xV) (ls1 : Array Slot), K pc1 L1 st1 h → lv_has ls1 nL (xtL E L1) → xwts h L1 st1 → W p l e R s m args below meth c H locs cells slots Q (F0 m pc1 ls1 (st1.map (xtr E)))) :
    W p l e R s m args below meth c H locs cells slots Q (F0 m pc ls (st.map (xtr E))) := by
  simp only [xok2, Bool.and_eq_true, decide_eq_true_eq] at hok
  obtain ⟨rfl, hf, ha⟩ := hok
  simp only [xDo] at hx
  obtain ⟨k, q, r, rfl, hz⟩ := xa1_of hx
  clear hx
  obtain ⟨hk, hy⟩ := xbif_of hz
  clear hz
  have hk := Nat.eq_of_beq_eq_true hk
  subst hk
  simp only [xfok, Bool.and_eq_true, decide_eq_true_eq] at hf
  obtain ⟨h40, hf⟩ := hf
  cases hc : cl[xci v]? with
  | none => rw [hc] at hf; cases hf
  | some r0 =>
    rw [hc] at hf
    obtain ⟨C0, T0, N0⟩ := r0
    simp only [Bool.and_eq_true, decide_eq_true_eq] at hf
    obtain ⟨hbN, hC0, hlk⟩ := hf
    obtain ⟨hlk1, hlk2⟩ := xhas_of hlk
    obtain ⟨hws, hty, hnm, hdf, -, -⟩ := hcl _ _ hc
    have hwq := xwt_in (hw.2 _ List.mem_cons_self) (Or.inl (by omega))
    have hwr := xwts_tl hw
    have key : W p l e R s m args below meth c H locs cells slots Q (F0 m (pc + 3) ls (xfv ft E h q (xci v) b :: r.map (xtr E))) → W p l e R s m args below meth c H locs cells slots Q (F0 m pc ls ((vr (xci v) q :: r).map (xtr E))) := by
      intro kk
      have e1 : (vr (xci v) q :: r).map (xtr E) = .ref (E.1 q) :: r.map (xtr E) := by
        show Value.ref (xad E (xci v) q) :: _ = _
        rw [xad_in E q (Or.inl (by omega))]
      rw [e1]
      exact xs_get (Ts := tb.filter goodWord) hexec hb (fun w g => by obtain ⟨g1, g2⟩ := List.mem_filter.mp g; exact hts w g1 g2) (fun w g => List.mem_filter.mpr (hws w g)) hown hK.1 hP hwq.2 hwq.1 h40 hc hbN hC0 (Or.inl (hts _ hlk1 hlk2)) hdg kk
    split at hy
    · refine key ?_
      rw [xfv_i (by simpa using ha)]
      exact go _ _ _ _ hy hl (xwts_cons hwr trivial)
    · refine key ?_
      rw [xfv_j (decide_eq_true_eq.mp ha)]
      exact go _ _ _ _ hy hl (xwts_cons hwr trivial)
    · refine key ?_
      have hkk := ha
      simp only [Bool.and_eq_true, decide_eq_true_eq, Bool.or_eq_true] at hkk
      rw [xfv_r hkk.1]
      obtain ⟨w, hy2, hww, ew⟩ := xrd_of hW (hW.2.2.2 q b) hkk.2 hy
      rw [ew]
      exact go _ _ _ _ hy2 hl (xwts_cons hwr hww)
end XST
