section XAR
variable {p : Program} {l : Launch} {e : Env} {R : Room} {s : State} {m : MethodId} {args : Array Value} {below : List Frame} {meth : Method} {c : Code} {H : Heap} {locs : List Loc} {cells slots : Nat} {Q : State → Prop}
variable {cc : ByteArray} {pc : Nat} {ls : Array Slot} {D : va_G} {cl : List vw_C} {ft : Nat → Nat → FieldType} {dA : Nat → ClassId} {A : Nat → Prop} {tys : List (ClassId × FieldType)} {H0 : Heap} {E : xPhi} {h : xH} {Ts : List Cond} {rest : List Value}
theorem xI_put_o {a k b j : Nat} {v : Int32} (hb : b ≠ a) : xI (xuI h a k v) b j = xI h b j := xu_ne _ _ (fun q => hb q.1)
theorem xJ_put_o {a k b j : Nat} {v : Int64} (hb : b ≠ a) : xJ (xuJ h a k v) b j = xJ h b j := xu_ne _ _ (fun q => hb q.1)
theorem xR_put_o {a k b j : Nat} {v : Nat} (hb : b ≠ a) : xR (xuR h a k v) b j = xR h b j := xu_ne _ _ (fun q => hb q.1)
theorem xcell_uI {a k b : Nat} {v : Int32} (hb : b ≠ a) : xcell cl ft dA E (xuI h a k v) b = xcell cl ft dA E h b := xcell_eq rfl (fun _ => xI_put_o hb) (fun _ => rfl) (fun _ => rfl)
theorem xcell_uJ {a k b : Nat} {v : Int64} (hb : b ≠ a) : xcell cl ft dA E (xuJ h a k v) b = xcell cl ft dA E h b := xcell_eq rfl (fun _ => rfl) (fun _ => xJ_put_o hb) (fun _ => rfl)
theorem xcell_uR {a k b : Nat} {v : Nat} (hb : b ≠ a) : xcell cl ft dA E (xuR h a k v) b = xcell cl ft dA E h b := xcell_eq rfl (fun _ => rfl) (fun _ => rfl) (fun _ => by rw [xR_put_o hb])
theorem xs_iald (hexec : p.tables.exec = Jvm.exec) (hb : c.code = cc) (hK : va_K D cl tys s) (hP : xPt cl ft dA D E h H) {a : Nat} (ha : a < xN h) (hka : (xK h a).1 = 40) (t0 : Nat) (ht : tys[t0]? = some (dA 40, .int)) {i : Int32} (hin : vp_in i (xK h a).2) (hdg : decode cc pc = .ok (.iaload, 1))
    (kk : W p l e R s m args below meth c H locs cells slots Q (F0 m (pc + 1) ls (.int (xI h a i.toNatClampNeg) :: rest))) : W p l e R s m args below meth c H locs cells slots Q (F0 m pc ls (.int i :: .ref (E.1 a) :: rest)) :=
  va_iald hexec hb hK (xPt_one hP ha (xcell_i hka)) 0 t0 rfl ht hin hdg kk
theorem xs_zald (hexec : p.tables.exec = Jvm.exec) (hb : c.code = cc) (hK : va_K D cl tys s) (hP : xPt cl ft dA D E h H) {a : Nat} (ha : a < xN h) (hka : (xK h a).1 = 42) (t0 : Nat) (ht : tys[t0]? = some (dA 42, .boolean)) {i : Int32} (hin : vp_in i (xK h a).2) (hdg : decode cc pc = .ok (.baload, 1))
    (kk : W p l e R s m args below meth c H locs cells slots Q (F0 m (pc + 1) ls (.int (xI h a i.toNatClampNeg) :: rest))) : W p l e R s m args below meth c H locs cells slots Q (F0 m pc ls (.int i :: .ref (E.1 a) :: rest)) :=
  va_zald hexec hb hK (xPt_one hP ha (xcell_z hka)) 0 t0 rfl ht hin hdg kk
theorem xs_lald (hexec : p.tables.exec = Jvm.exec) (hb : c.code = cc) (hK : va_K D cl tys s) (hP : xPt cl ft dA D E h H) {a : Nat} (ha : a < xN h) (hka : (xK h a).1 = 41) (t0 : Nat) (ht : tys[t0]? = some (dA 41, .long)) {i : Int32} (hin : vp_in i (xK h a).2) (hdg : decode cc pc = .ok (.laload, 1))
    (kk : W p l e R s m args below meth c H locs cells slots Q (F0 m (pc + 1) ls (.long (xJ h a i.toNatClampNeg) :: rest))) : W p l e R s m args below meth c H locs cells slots Q (F0 m pc ls (.int i :: .ref (E.1 a) :: rest)) :=
  va_lald hexec hb hK (xPt_one hP ha (xcell_j hka)) 0 t0 rfl ht hin hdg kk
theorem xs_aald (hexec : p.tables.exec = Jvm.exec) (hb : c.code = cc) (hK : va_K D cl tys s) (hP : xPt cl ft dA D E h H) {a k : Nat} (ha : a < xN h) (hka : (xK h a).1 = k) (h60 : 60 ≤ k) (t0 : Nat) {C : String} (ht : tys[t0]? = some (dA k, .object C)) {i : Int32} (hin : vp_in i (xK h a).2) (hdg : decode cc pc = .ok (.aaload, 1))
    (kk : W p l e R s m args below meth c H locs cells slots Q (F0 m (pc + 1) ls (va_rf (xro E (xR h a i.toNatClampNeg)) :: rest))) : W p l e R s m args below meth c H locs cells slots Q (F0 m pc ls (.int i :: .ref (E.1 a) :: rest)) :=
  va_aldq hexec hb hK (xPt_one hP ha (xcell_a hka h60)) 0 t0 rfl ht hin hdg kk
theorem xs_iast (hexec : p.tables.exec = Jvm.exec) (hb : c.code = cc) (hK : va_K D cl tys s) (hP : xPt cl ft dA D E h H) (hW : xWf A E h) (hS : va_S A H0 H locs) {a : Nat} (ha : a < xN h) (hka : (xK h a).1 = 40) (t0 : Nat) (ht : tys[t0]? = some (dA 40, .int)) {i x : Int32} (hin : vp_in i (xK h a).2) (hdg : decode cc pc = .ok (.iastore, 1))
    (kk : ∀ (H1 : Heap) (locs1 : List Loc), xPt cl ft dA D E (xuI h a i.toNatClampNeg x) H1 → va_S A H0 H1 locs1 → H1.size = H.size → W p l e R s m args below meth c H1 locs1 cells slots Q (F0 m (pc + 1) ls rest)) : W p l e R s m args below meth c H locs cells slots Q (F0 m pc ls (.int x :: .int i :: .ref (E.1 a) :: rest)) := by
  have hat := xPt_one hP ha (xcell_i hka) 0 _ rfl
  refine W.iast hexec hb hat ((hK.2 t0 _ ht).1 _ (fun j => .int (xI h a j))) (fun q => by cases q) (by show ¬ (i < 0 ∨ (arrV _ _ _).slots.size ≤ _); rw [arrV_size]; exact hin) rfl rfl hdg fun H1 e1 z oq => ?_
  refine kk H1 _ (xPt_put hP hW ha rfl (fun b _ hb => xcell_uI hb) oq ?_) (hS.put z oq (hW.2.1 a ha)) z
  rw [xcell_i (h := xuI h a i.toNatClampNeg x) hka]
  show H1[E.1 a]? = some (vp_cell _ _)
  rw [e1, vp_cell_i, vp_cell_i, arrV_store]
  show some (arrV _ (xK h a).2 _) = some (arrV _ (xK h a).2 _)
  congr 2
  funext q
  by_cases hq : q = i.toNatClampNeg
  · subst hq
    simp [updV, xI, xuI, xu]
  · simp [updV, xI, xuI, xu, hq]
theorem xs_zast (hexec : p.tables.exec = Jvm.exec) (hb : c.code = cc) (hK : va_K D cl tys s) (hP : xPt cl ft dA D E h H) (hW : xWf A E h) (hS : va_S A H0 H locs) {a : Nat} (ha : a < xN h) (hka : (xK h a).1 = 42) (t0 : Nat) (ht : tys[t0]? = some (dA 42, .boolean)) {i x : Int32} (hin : vp_in i (xK h a).2) (h01 : x = 0 ∨ x = 1) (hdg : decode cc pc = .ok (.bastore, 1))
    (kk : ∀ (H1 : Heap) (locs1 : List Loc), xPt cl ft dA D E (xuI h a i.toNatClampNeg x) H1 → va_S A H0 H1 locs1 → H1.size = H.size → W p l e R s m args below meth c H1 locs1 cells slots Q (F0 m (pc + 1) ls rest)) : W p l e R s m args below meth c H locs cells slots Q (F0 m pc ls (.int x :: .int i :: .ref (E.1 a) :: rest)) := by
  have hat := xPt_one hP ha (xcell_z hka) 0 _ rfl
  have hnar : narrow .boolean (.int x) = .int x := by rcases h01 with rfl | rfl <;> decide
  refine W.zast hexec hb hat ((hK.2 t0 _ ht).1 _ (fun j => .int (xI h a j))) (fun q => by cases q) (by show ¬ (i < 0 ∨ (arrV _ _ _).slots.size ≤ _); rw [arrV_size]; exact hin) rfl rfl hdg fun H1 e1 z oq => ?_
  rw [hnar] at e1
  refine kk H1 _ (xPt_put hP hW ha rfl (fun b _ hb => xcell_uI hb) oq ?_) (hS.put z oq (hW.2.1 a ha)) z
  rw [xcell_z (h := xuI h a i.toNatClampNeg x) hka]
  show H1[E.1 a]? = some (vp_cell _ _)
  rw [e1, vp_cell_i, vp_cell_i, arrV_store]
  show some (arrV _ (xK h a).2 _) = some (arrV _ (xK h a).2 _)
  congr 2
  funext q
  by_cases hq : q = i.toNatClampNeg
  · subst hq
    simp [updV, xI, xuI, xu]
  · simp [updV, xI, xuI, xu, hq]
theorem xs_last (hexec : p.tables.exec = Jvm.exec) (hb : c.code = cc) (hK : va_K D cl tys s) (hP : xPt cl ft dA D E h H) (hW : xWf A E h) (hS : va_S A H0 H locs) {a : Nat} (ha : a < xN h) (hka : (xK h a).1 = 41) (t0 : Nat) (ht : tys[t0]? = some (dA 41, .long)) {i : Int32} {x : Int64} (hin : vp_in i (xK h a).2) (hdg : decode cc pc = .ok (.lastore, 1))
    (kk : ∀ (H1 : Heap) (locs1 : List Loc), xPt cl ft dA D E (xuJ h a i.toNatClampNeg x) H1 → va_S A H0 H1 locs1 → H1.size = H.size → W p l e R s m args below meth c H1 locs1 cells slots Q (F0 m (pc + 1) ls rest)) : W p l e R s m args below meth c H locs cells slots Q (F0 m pc ls (.long x :: .int i :: .ref (E.1 a) :: rest)) := by
  have hat := xPt_one hP ha (xcell_j hka) 0 _ rfl
  refine W.last hexec hb hat ((hK.2 t0 _ ht).1 _ (fun j => .long (xJ h a j))) (fun q => by cases q) (by show ¬ (i < 0 ∨ (arrV _ _ _).slots.size ≤ _); rw [arrV_size]; exact hin) rfl rfl hdg fun H1 e1 z oq => ?_
  refine kk H1 _ (xPt_put hP hW ha rfl (fun b _ hb => xcell_uJ hb) oq ?_) (hS.put z oq (hW.2.1 a ha)) z
  rw [xcell_j (h := xuJ h a i.toNatClampNeg x) hka]
  show H1[E.1 a]? = some (vp_cell _ _)
  rw [e1, vp_cell_l, vp_cell_l, arrV_store]
  show some (arrV _ (xK h a).2 _) = some (arrV _ (xK h a).2 _)
  congr 2
  funext q
  by_cases hq : q = i.toNatClampNeg
  · subst hq
    simp [updV, xJ, xuJ, xu]
  · simp [updV, xJ, xuJ, xu, hq]
theorem xs_aast (hexec : p.tables.exec = Jvm.exec) (hb : c.code = cc) (hK : va_K D cl tys s) (hP : xPt cl ft dA D E h H) (hW : xWf A E h) (hS : va_S A H0 H locs) {a ci v : Nat} {r : vw_C} (ha : a < xN h) (hka : (xK h a).1 = 60 + ci) (hv : v < xN h) (hkv : (xK h v).1 = ci) (h40 : ci < 40) (hc : cl[ci]? = some r) (t0 : Nat) (ht : tys[t0]? = some (dA (60 + ci), .object r.1)) {i : Int32} (hin : vp_in i (xK h a).2) (hdg : decode cc pc = .ok (.aastore, 1))
    (kk : ∀ (H1 : Heap) (locs1 : List Loc), xPt cl ft dA D E (xuR h a i.toNatClampNeg (v + 1)) H1 → va_S A H0 H1 locs1 → H1.size = H.size → W p l e R s m args below meth c H1 locs1 cells slots Q (F0 m (pc + 1) ls rest)) : W p l e R s m args below meth c H locs cells slots Q (F0 m pc ls (.ref (E.1 v) :: .int i :: .ref (E.1 a) :: rest)) := by
  have hat := xPt_one hP ha (xcell_a hka (by omega)) 0 _ rfl
  have hav := xPt_one hP hv (xcell_o hkv h40) 0 _ rfl
  have hlt : i.toNatClampNeg < (xK h a).2 := Nat.not_le.mp fun q => hin (Or.inr q)
  have h0 : ¬ i < 0 := fun q => hin (Or.inl q)
  obtain ⟨r', hr', cellV, g1, g2, g3, -⟩ := hav
  have hcls := (hK.1 ci r hc).2
  obtain ⟨kA, comp, k1, k2, k3, -⟩ := (hK.2 t0 _ ht).2
  have hcomp : comp = D.1 ci := Option.some.inj (k3.symm.trans hcls.1)
  subst hcomp
  obtain ⟨kC, hkC, -⟩ := hcls.2
  refine W.aast hexec hb hat (fun q h => by cases h) (fun h => by cases h) k1 k2 rfl hkC ⟨h0, by show _ < (arrV _ _ _).slots.size; rw [arrV_size]; exact hlt⟩ g1 (fun q h => by rw [g3] at h; cases h) (by rw [g2]; exact hkC) (by rw [g2]; exact va_assign hcls) rfl rfl hdg fun H1 e1 z oq => ?_
  refine kk H1 _ (xPt_put hP hW ha rfl (fun b _ hb => xcell_uR hb) oq ?_) (hS.put z oq (hW.2.1 a ha)) z
  rw [xcell_a (h := xuR h a i.toNatClampNeg (v + 1)) hka (by omega)]
  show H1[E.1 a]? = some (vp_cell _ _)
  rw [e1, vp_cell_q, vp_cell_q, arrV_store]
  show some (arrV _ (xK h a).2 _) = some (arrV _ (xK h a).2 _)
  congr 2
  funext q
  by_cases hq : q = i.toNatClampNeg
  · subst hq
    simp [updV, xR, xuR, xu, xro, va_rf]
  · simp [updV, xR, xuR, xu, hq]
end XAR
