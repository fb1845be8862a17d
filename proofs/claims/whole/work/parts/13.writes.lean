/-- the walk goes on from wherever K holds -/
def xGo (p : Program) (l : Launch) (e : Env) (R : Room) (s : State) (m : MethodId) (args : Array Value) (below : List Frame) (meth : Method) (c : Code) (Q : State → Prop) (cl : List vw_C) (ft : Nat → Nat → FieldType) (dA : Nat → ClassId) (D : va_G) (A : Nat → Prop) (nL : Nat) (h h' : xH) (E : xPhi) (K : Nat → xL → List xV → xH → Prop) : Prop :=
  ∀ (E1 : xPhi) (pc1 : Nat) (L1 : xL) (st1 : List xV) (h1 : xH) (H1 : Heap) (locs1 : List Loc) (ls1 : Array Slot) (cells1 slots1 : Nat), K pc1 L1 st1 h1 → xle h h1 → (∀ a, a < xN h → E1.1 a = E.1 a) → E1.2 = E.2 → lv_has ls1 nL (xtL E1 L1) → xwts h1 L1 st1 → xPt cl ft dA D E1 h1 H1 → xWf A E1 h1 → va_S A s.heap H1 locs1 → cells1 + (xQ h' - xQ h1) ≤ R.cells → slots1 + (xZ h' - xZ h1) ≤ R.slots → W p l e R s m args below meth c H1 locs1 cells1 slots1 Q (F0 m pc1 ls1 (st1.map (xtr E1)))
theorem xWf_I {A : Nat → Prop} {E : xPhi} {h : xH} (hW : xWf A E h) (a k : Nat) (x : Int32) : xWf A E (xuI h a k x) := hW
theorem xWf_J {A : Nat → Prop} {E : xPhi} {h : xH} (hW : xWf A E h) (a k : Nat) (x : Int64) : xWf A E (xuJ h a k x) := hW
theorem xWf_R {A : Nat → Prop} {E : xPhi} {h : xH} (hW : xWf A E h) (a k : Nat) {q : Nat} (hq : q < xN h) : xWf A E (xuR h a k (q + 1)) := by
  refine ⟨hW.1, hW.2.1, hW.2.2.1, fun b j => ?_⟩
  show xu (xR h) a k (q + 1) b j ≤ xN h
  unfold xu
  split
  · exact hq
  · exact hW.2.2.2 b j
section XWR
variable {p : Program} {l : Launch} {e : Env} {R : Room} {s : State} {m : MethodId} {args : Array Value} {below : List Frame} {meth : Method} {c : Code} {H : Heap} {locs : List Loc} {cells slots : Nat} {Q : State → Prop}
variable {cc : ByteArray} {pc : Nat} {ls : Array Slot} {D : va_G} {cl : List vw_C} {ft : Nat → Nat → FieldType} {dA : Nat → ClassId} {tys : List (ClassId × FieldType)} {sT : String × String × String} {A : Nat → Prop} {X : xX} {E : xPhi} {h h' : xH} {L : xL} {st : List xV} {nL : Nat} {tb : List Cond} {host : String} {MI : Nat → xMi} {NM y d : Nat} {C : Nat → List xV → xH → xO → xH → Prop} {hd : xB} {i : Instr} {len a b : Nat} {v : xV} {o : xO} {K : Nat → xL → List xV → xH → Prop}
theorem xwts_I {a k : Nat} {x : Int32} (hw : xwts h L st) : xwts (xuI h a k x) L st := hw
theorem xwts_J {a k : Nat} {x : Int64} (hw : xwts h L st) : xwts (xuJ h a k x) L st := hw
theorem xwts_R {a k q : Nat} (hw : xwts h L st) : xwts (xuR h a k q) L st := hw
theorem xfv_uI_o {a ci k j : Nat} {x : Int32} (hj : j ≠ k) : xfv ft E (xuI h a k x) a ci j = xfv ft E h a ci j := by
  unfold xfv
  have e1 : xI (xuI h a k x) a j = xI h a j := xu_ne _ _ (fun q => hj q.2)
  rw [e1]
  rfl
theorem xfv_uJ_o {a ci k j : Nat} {x : Int64} (hj : j ≠ k) : xfv ft E (xuJ h a k x) a ci j = xfv ft E h a ci j := by
  unfold xfv
  have e1 : xJ (xuJ h a k x) a j = xJ h a j := xu_ne _ _ (fun q => hj q.2)
  rw [e1]
  rfl
theorem xfv_uR_o {a ci k j q : Nat} (hj : j ≠ k) : xfv ft E (xuR h a k q) a ci j = xfv ft E h a ci j := by
  unfold xfv
  have e1 : xR (xuR h a k q) a j = xR h a j := xu_ne _ _ (fun q => hj q.2)
  rw [e1]
  rfl
set_option maxHeartbeats 4000000 in
set_option maxRecDepth 100000 in
/-- putfield -/
theorem xd_put (hexec : p.tables.exec = Jvm.exec) (hb : c.code = cc) (hown : s.vm.findClass (MI y).1.cls = some m.cls) (hmn : meth.name = (MI y).1.name) (hts : ∀ w ∈ tb, goodWord w = true → w.before args s = true) (hK : xKx tb D cl tys s) (hcl : xClOk tb cl ft) {idx : Nat} (hok : xok2 cl ft tb host sT MI NM y (.putfield idx) len a b v = true) (hdg : decode cc pc = .ok (.putfield idx, len)) (hx : xDo X d C hd (.putfield idx) len a b v pc L st h o h' K) (hl : lv_has ls nL (xtL E L)) (hw : xwts h L st) (hP : xPt cl ft dA D E h H) (hW : xWf A E h) (hS : va_S A s.heap H locs) (hRc : cells + (xQ h' - xQ h) ≤ R.cells) (hRs : slots + (xZ h' - xZ h) ≤ R.slots)
    (go : xGo p l e R s m args below meth c Q cl ft dA D A nL h h' E K) :
    W p l e R s m args below meth c H locs cells slots Q (F0 m pc ls (st.map (xtr E))) := by
  simp only [xok2, Bool.and_eq_true, decide_eq_true_eq] at hok
  obtain ⟨rfl, hf, hfin, ha⟩ := hok
  simp only [xfok, Bool.and_eq_true, decide_eq_true_eq] at hf
  obtain ⟨h40, hf⟩ := hf
  cases hc : cl[xci v]? with
  | none => rw [hc] at hf; cases hf
  | some r0 =>
    rw [hc] at hf
    obtain ⟨C0, T0, N0⟩ := r0
    simp only [Bool.and_eq_true, decide_eq_true_eq] at hf
    obtain ⟨hbN, hC0, hlk⟩ := hf
    obtain ⟨hlk1, hlk2⟩ := xhas_of hlk
    obtain ⟨hws, hty, hnm, hdf, -, -⟩ := hcl _ _ hc
    have hlkb := hts _ hlk1 hlk2
    have hfin2 : (T0 b).2.2.2 = false ∨ ((T0 b).2.2.2 = true ∧ meth.name = "<init>" ∧ C0 = (MI y).1.cls ∧ (Cond.fieldLink (MI y).1.cls idx C0 (T0 b).2.1 (T0 b).2.2.1).before args s = true) := by
      unfold xfin at hfin
      rw [hc] at hfin
      simp only [Bool.or_eq_true, Bool.and_eq_true, decide_eq_true_eq, Bool.not_eq_true'] at hfin
      rcases hfin with g | ⟨g1, g2⟩
      · exact Or.inl g
      · cases hq : (T0 b).2.2.2 with
        | false => exact Or.inl rfl
        | true => exact Or.inr ⟨rfl, by rw [hmn]; exact g1, g2, hlkb⟩
    have key : ∀ (q : Nat) (r : List xV) (w : Value) (h1 : xH), xwt h (vr (xci v) q) → narrow (ft (xci v) b) w = w → fits (ft (xci v) b) w = true → xN h1 = xN h → xK h1 = xK h → (∀ b1, b1 < xN h → b1 ≠ q → xcell cl ft dA E h1 b1 = xcell cl ft dA E h b1) → xfv ft E h1 q (xci v) b = w → (∀ j, j ≠ b → xfv ft E h1 q (xci v) j = xfv ft E h q (xci v) j) → (∀ (H1 : Heap) (locs1 : List Loc), xPt cl ft dA D E h1 H1 → va_S A s.heap H1 locs1 → H1.size = H.size → W p l e R s m args below meth c H1 locs1 cells slots Q (F0 m (pc + 3) ls (r.map (xtr E)))) → W p l e R s m args below meth c H locs cells slots Q (F0 m pc ls (w :: (vr (xci v) q :: r).map (xtr E))) := by
      intro q r w h1 hwq hn hfit hn1 hk1 ho hf0 hf1 kk
      have hwq := xwt_in hwq (Or.inl (by omega))
      have e1 : (vr (xci v) q :: r).map (xtr E) = .ref (E.1 q) :: r.map (xtr E) := by
        show Value.ref (xad E (xci v) q) :: _ = _
        rw [xad_in E q (Or.inl (by omega))]
      rw [e1]
      exact xs_put (Ts := tb.filter goodWord) hexec hb (fun w g => by obtain ⟨g1, g2⟩ := List.mem_filter.mp g; exact hts w g1 g2) (fun w g => List.mem_filter.mpr (hws w g)) hty hnm hown hK.1 hP hW hS hwq.2 hwq.1 h40 hc hbN hC0 (Or.inl hlkb) hfin2 hn hfit hn1 hk1 ho hf0 hf1 hdg kk
    simp only [xDo] at hx
    split at hx
    · obtain ⟨x, r1, rfl, hz⟩ := xi1_of hx
      clear hx
      obtain ⟨k, q, r, rfl, hy⟩ := xa1_of hz
      clear hz
      obtain ⟨hk, hx⟩ := xbif_of hy
      clear hy
      have hk := Nat.eq_of_beq_eq_true hk
      subst hk
      have hty0 : ft (xci v) b = .int := decide_eq_true_eq.mp ha
      refine key q r (.int x) (xuI h q b x) (hw.2 _ (List.mem_cons_of_mem _ List.mem_cons_self)) (by rw [hty0]; rfl) (by rw [hty0]; rfl) rfl rfl (fun b1 _ g => xcell_uI g) ?_ (fun j hj => xfv_uI_o hj) (fun H1 locs1 g1 g2 g3 => go E _ _ _ _ H1 locs1 ls cells slots hx (xle_uI _ _ _ _) (fun _ _ => rfl) rfl hl (xwts_I (xwts_tl (xwts_tl hw))) g1 (xWf_I hW q b x) g2 hRc hRs)
      rw [xfv_i (Or.inl (by rw [hty0]; rfl))]
      show Value.int (xu (xI h) q b x q b) = _
      rw [xu_at]
    · obtain ⟨x, r1, rfl, hz⟩ := xj1_of hx
      clear hx
      obtain ⟨k, q, r, rfl, hy⟩ := xa1_of hz
      clear hz
      obtain ⟨hk, hx⟩ := xbif_of hy
      clear hy
      have hk := Nat.eq_of_beq_eq_true hk
      subst hk
      have hty0 : ft (xci v) b = .long := decide_eq_true_eq.mp ha
      refine key q r (.long x) (xuJ h q b x) (hw.2 _ (List.mem_cons_of_mem _ List.mem_cons_self)) (by rw [hty0]; rfl) (by rw [hty0]; rfl) rfl rfl (fun b1 _ g => xcell_uJ g) ?_ (fun j hj => xfv_uJ_o hj) (fun H1 locs1 g1 g2 g3 => go E _ _ _ _ H1 locs1 ls cells slots hx (xle_uJ _ _ _ _) (fun _ _ => rfl) rfl hl (xwts_J (xwts_tl (xwts_tl hw))) g1 (xWf_J hW q b x) g2 hRc hRs)
      rw [xfv_j (by rw [hty0]; rfl)]
      show Value.long (xu (xJ h) q b x q b) = _
      rw [xu_at]
    · obtain ⟨x, r1, rfl, hz⟩ := xi1_of hx
      clear hx
      obtain ⟨k, q, r, rfl, hy⟩ := xa1_of hz
      clear hz
      obtain ⟨hk, h01, hx⟩ := xbif_of hy
      clear hy
      have hk := Nat.eq_of_beq_eq_true hk
      subst hk
      have hty0 : ft (xci v) b = .boolean := decide_eq_true_eq.mp ha
      refine key q r (.int x) (xuI h q b x) (hw.2 _ (List.mem_cons_of_mem _ List.mem_cons_self)) (by rw [hty0]; rcases h01 with rfl | rfl <;> decide) (by rw [hty0]; rcases h01 with rfl | rfl <;> decide) rfl rfl (fun b1 _ g => xcell_uI g) ?_ (fun j hj => xfv_uI_o hj) (fun H1 locs1 g1 g2 g3 => go E _ _ _ _ H1 locs1 ls cells slots hx (xle_uI _ _ _ _) (fun _ _ => rfl) rfl hl (xwts_I (xwts_tl (xwts_tl hw))) g1 (xWf_I hW q b x) g2 hRc hRs)
      rw [xfv_i (Or.inr (by rw [hty0]; rfl))]
      show Value.int (xu (xI h) q b x q b) = _
      rw [xu_at]
    · obtain ⟨k1, q1, r1, rfl, hz⟩ := xa1_of hx
      clear hx
      obtain ⟨k, q, r, rfl, hy⟩ := xa1_of hz
      clear hz
      obtain ⟨hk, hx⟩ := xbif_of hy
      clear hy
      rw [Bool.and_eq_true] at hk
      obtain ⟨hk, hk1⟩ := hk
      have hk := Nat.eq_of_beq_eq_true hk
      have hk1 := Nat.eq_of_beq_eq_true hk1
      subst hk
      subst hk1
      simp only [Bool.and_eq_true, decide_eq_true_eq, Bool.or_eq_true] at ha
      obtain ⟨⟨hty0, hfit0⟩, hkk⟩ := ha
      have hwq1 := xwt_in (hw.2 _ List.mem_cons_self) hkk
      have hnf : ∀ z : Nat, narrow (ft (xci v) b) (.ref z) = .ref z ∧ fits (ft (xci v) b) (.ref z) = true := by
        intro z
        cases hf9 : ft (xci v) b <;> rw [hf9] at hfit0 hty0 <;> first | exact ⟨rfl, rfl⟩ | cases hfit0 | cases hty0
      have e0 : (vr k1 q1 :: vr (xci v) q :: r).map (xtr E) = .ref (E.1 q1) :: (vr (xci v) q :: r).map (xtr E) := by
        show Value.ref (xad E k1 q1) :: _ = _
        rw [xad_in E q1 hkk]
      rw [e0]
      refine key q r (.ref (E.1 q1)) (xuR h q b (q1 + 1)) (hw.2 _ (List.mem_cons_of_mem _ List.mem_cons_self)) (hnf _).1 (hnf _).2 rfl rfl (fun b1 _ g => xcell_uR g) ?_ (fun j hj => xfv_uR_o hj) (fun H1 locs1 g1 g2 g3 => go E _ _ _ _ H1 locs1 ls cells slots hx (xle_uR _ _ _ _) (fun _ _ => rfl) rfl hl (xwts_R (xwts_tl (xwts_tl hw))) g1 (xWf_R hW q b hwq1.2) g2 hRc hRs)
      rw [xfv_r hty0]
      show va_rf (xro E (xu (xR h) q b (q1 + 1) q b)) = _
      rw [xu_at]
      rfl
end XWR
