/-! THE CLAIM OUT OF ONE WALK OF THE LAW'S BODY. Your part is whole_start (and what it stands on); all else here is the same for every law, but numbers. -/
def R_law : String := "TwinEntryLaw"
def lw_P (b : Addr) (xs : List Int32) (args : Array Value) (s : State) : Prop := args = #[.ref b] ∧ s.IntsAt b xs ∧ xs.length ≤ 2048 ∧ (Jvm.Cond.and given_1 narrow_1).before args s = true
def lw_Q (_ : Array Value) (s : State) (o : Outcome) (t : State) : Prop := o = .returned (some (.int 1)) ∧ Framed s o t [] 616624 7246232
def lw_Z (below : List Frame) (a : Array Value) (s : State) : State → Prop := fun t => ∃ o, t.status = .running ∧ Ended t below o ∧ lw_Q a s o t
/-- the law's own end, with 1 on the stack, nothing written that was there before, its room as the claim has it -/
theorem lw_ret {p : Program} {l : Launch} {e : Env} {s : State} {m : MethodId} {below : List Frame} {meth : Method} {c : Code} {b : Nat} (hx : p.tables.exec = Jvm.exec) (hb : c.code = code) (hr : meth.sig.returnType = ret) (hlocks : meth.locks = false) {pc : Nat} {H : Heap} {ls : Array Slot} (hdg : decode code pc = .ok (.ireturn, 1)) : W p l e room_1 s m #[Value.ref b] below meth c H [] 616624 7246232 (lw_Z below #[Value.ref b] s) (F0 m pc ls [.int 1]) := by
  intro T hT X
  obtain ⟨fs, hret, hrun, hended, hW, hframe⟩ := X.leave (v := some (.int 1)) (hlocks := hlocks) (fun h => by rw [hr] at h; cases h)
  have hmeth' : T.vm.method? m = some meth := X.method'
  refine ⟨T.setFrames fs, ?_, .returned (some (.int 1)), hrun, hended, rfl, ⟨_, rfl⟩, hW, hframe⟩
  jvm_step X.here [X.here.top, hx, hb, hdg, hmeth', hr, ret, narrow_b1]
  (try refine ⟨rfl, ?_⟩); (try refine ⟨rfl, ?_⟩)
  first | (intro acts; rw [hret _ acts rfl rfl rfl]) | rw [hret _ _ rfl rfl rfl]
  exact Steps.refl _
/-- what holds at the law's entry: the machine, the code, the tables' words (any of lw_tbl by 'hts w (by decide +kernel)'), the script of L ints xs at the cell b, what the Statement gives of the start (any of its parts by flat_of_before) -/
def lw_At (p : Program) (s : State) (m : MethodId) (meth : Method) (c : Code) (b L : Nat) (xs : Nat → Int32) : Prop :=
  p.tables.exec = Jvm.exec ∧ c.code = code ∧ meth.sig.returnType = ret ∧ c.maxLocals = 8 ∧ s.vm.findClass R_law = some m.cls ∧ (∀ w ∈ lw_tbl, w.before #[Value.ref b] s = true) ∧ va_X b L xs s s.heap ∧ b < s.heap.size ∧ meth.locks = false ∧ (Jvm.Cond.and given_1 narrow_1).before #[Value.ref b] s = true
-- ===== what the pure machine must do =====
/-- the powers of ten -/
def xtens : List Int64 := [1, 10, 100, 1000, 10000, 100000, 1000000, 10000000, 100000000, 1000000000, 10000000000, 100000000000, 1000000000000, 10000000000000, 100000000000000, 1000000000000000, 10000000000000000, 100000000000000000, 1000000000000000000]
def xX0 (xs : Nat → Int32) (L : Nat) : xX := (xs, L, fun _ => xtens, fun _ => [])
/-- the empty heap -/
def xh0 : xH := (fun _ _ => 0, fun _ _ => 0, fun _ _ => 0, fun _ => (98, 0), 0, 0, 0)
/-- THE PURE STATEMENT: on this script the law comes to its end with 1, in its room -/
def xPure (xs : Nat → Int32) (L : Nat) : Prop := ∃ (n d : Nat) (h' : xH), xC (xX0 xs L) d (xF (xX0 xs L) xtt d) p220 n 0 [(0, vr 50 0)] [] xh0 (.inl (some (vi 1))) h' ∧ xQ h' ≤ 616624 ∧ xZ h' ≤ 7246232
set_option maxRecDepth 100000 in
theorem xTens_in {args : Array Value} {s : State} (hgv : (Jvm.Cond.and given_1 narrow_1).before args s = true) : ∀ j : Nat, j < 19 → (Cond.eq (Term.elem (Term.static "TwinEntry" "TENS" "[J") (Term.int (Int32.ofNat j))) (Term.long (xtens.getD j 0))).before args s = true := by
  intro j hj
  refine flat_of_before _ hgv _ ?_
  have : ∀ j : Nat, j < 19 → (Cond.eq (Term.elem (Term.static "TwinEntry" "TENS" "[J") (Term.int (Int32.ofNat j))) (Term.long (xtens.getD j 0))) ∈ flatC (Jvm.Cond.and given_1 narrow_1) := by decide +kernel
  exact this j hj
set_option maxRecDepth 100000 in
theorem xNc_in {args : Array Value} {s : State} (hgv : (Jvm.Cond.and given_1 narrow_1).before args s = true) : xNa s := by
  intro i j hi hj hij
  refine va_Nc.of (args := args) (flat_of_before _ hgv _ ?_)
  have : ∀ i : Nat, i < 4 → ∀ j : Nat, j < 4 → i ≠ j → (Cond.not (.castable (xen i) (xen j))) ∈ flatC (Jvm.Cond.and given_1 narrow_1) := by decide +kernel
  exact this i hi j hj hij
set_option maxRecDepth 100000 in
theorem xWords : Cond.laysStatic "TwinEntry" "TENS" "[J" ∈ lw_tbl ∧ Cond.initialized "TwinEntry" ∈ lw_tbl ∧ Cond.laysStatic Bundle.tN "UNASSIGNED_STACK" Bundle.steD ∈ lw_tbl ∧ Cond.laysStatic Bundle.tN "SUPPRESSED_SENTINEL" Bundle.listD ∈ lw_tbl ∧ Cond.arrayClass .int ∈ lw_tbl ∧ Cond.arrayClass .long ∈ lw_tbl ∧ Cond.arrayOver (.object "TwinEntry$Desk") ∈ lw_tbl ∧ Cond.arrayOver (.object "TwinEntry$Decimal") ∈ lw_tbl := ⟨List.mem_of_getElem? (i := 321) (by decide +kernel), List.mem_of_getElem? (i := 100) (by decide +kernel), List.mem_of_getElem? (i := 678) (by decide +kernel), List.mem_of_getElem? (i := 680) (by decide +kernel), List.mem_of_getElem? (i := 168) (by decide +kernel), List.mem_of_getElem? (i := 1255) (by decide +kernel), List.mem_of_getElem? (i := 419) (by decide +kernel), List.mem_of_getElem? (i := 142) (by decide +kernel)⟩
set_option maxRecDepth 100000 in
theorem xNarrow_in : Cond.arrayOf (Term.static "TwinEntry" "TENS" "[J") .long ∈ flatC (Jvm.Cond.and given_1 narrow_1) ∧ Cond.eq (Term.length (Term.static "TwinEntry" "TENS" "[J")) (Term.int 19) ∈ flatC (Jvm.Cond.and given_1 narrow_1) ∧ Cond.isRef (.static Bundle.tN "UNASSIGNED_STACK" Bundle.steD) ∈ flatC (Jvm.Cond.and given_1 narrow_1) ∧ Cond.isRef (.static Bundle.tN "SUPPRESSED_SENTINEL" Bundle.listD) ∈ flatC (Jvm.Cond.and given_1 narrow_1) := ⟨by decide +kernel, by decide +kernel, by decide +kernel, by decide +kernel⟩
theorem xD_all {s : State} {args : Array Value} (hts : ∀ w ∈ lw_tbl, w.before args s = true) : ∃ D : va_G, ∀ (c : Nat) (q : vw_C), xcl[c]? = some q → u_Kn s q.1 q.2.1 q.2.2 (D.1 c) (D.2 c) := by
  have h1 : ∀ c : Nat, ∃ z : ClassId × (Nat → Nat), ∀ q : vw_C, xcl[c]? = some q → u_Kn s q.1 q.2.1 q.2.2 z.1 z.2 := by
    intro c
    cases hq : xcl[c]? with
    | none => exact ⟨(default, fun _ => 0), fun q h => by cases h⟩
    | some q =>
      obtain ⟨g1, -, -, -, g2, -⟩ := xClOk_all c q hq
      obtain ⟨cC, iS, h⟩ := u_known (C := q.1) (T := q.2.1) (N := q.2.2) (n := q.2.2) hts (fun w hw => (g1 w hw).1) (hts _ g2)
      exact ⟨(cC, iS), fun q1 h1 => by cases h1; exact h⟩
  obtain ⟨f, hf⟩ := Classical.skolem.mp h1
  exact ⟨(fun c => (f c).1, fun c => (f c).2), fun c q hq => hf c q hq⟩
theorem xarrC {s : State} {args : Array Value} {ty : FieldType} (hp : ∀ C, ty ≠ .object C) (h : (Cond.arrayClass ty).before args s = true) : ∃ cA : ClassId, ArrOfT s cA ty ∧ va_RA s cA ty := by
  obtain ⟨cA, kA, comp, h1, h2, h3⟩ := Cond.arrayClass_spec h
  refine ⟨cA, fun n z => ⟨fun k h => (by cases h), kA, h2, comp, h3⟩, ?_⟩
  cases ty with
  | object C => exact absurd rfl (hp C)
  | _ => exact h1
theorem xarrO {s : State} {args : Array Value} {C : String} (h : (Cond.arrayOver (.object C)).before args s = true) : ∃ cA : ClassId, ArrOfT s cA (.object C) ∧ va_RA s cA (.object C) := by
  obtain ⟨comp, cA, kA, h1, -, h2, h3, h4⟩ := Cond.arrayOver_spec h
  exact ⟨cA, fun n z => ⟨fun k h => (by cases h), kA, h2, comp, h3⟩, kA, comp, h2, h3, h1, h4⟩
set_option maxHeartbeats 4000000 in
set_option maxRecDepth 100000 in
theorem whole_start {p : Program} {e : Env} {s : State} {m : MethodId} {below : List Frame} {meth : Method} {c : Code} (l : Launch) (hlt : l.stackTraces = false) {b L : Nat} {xs : Nat → Int32} (hpure : xPure xs L) (hmn : meth.name = "law") (C0 : lw_At p s m meth c b L xs) : W p l e room_1 s m #[Value.ref b] below meth c s.heap [] 0 0 (lw_Z below #[Value.ref b] s) (entryFrame m ([Value.ref b] : List Value).toArray 8) := by
  obtain ⟨hx, hb, hr, hml, hown, hts, hX, hbl, hlocks, hgv⟩ := C0
  have hAn : ∀ a : Nat, a < s.heap.size → ¬ (fun q : Nat => s.heap.size ≤ q) a := fun a h1 h2 => absurd (show s.heap.size ≤ a from h2) (Nat.not_le.mpr h1)
  obtain ⟨w1, w2, w3, w4, w5, w6, w7, w8⟩ := xWords
  obtain ⟨n1, n2, n3, n4⟩ := xNarrow_in
  have hfl := flat_of_before _ hgv
  obtain ⟨t, ht, hT⟩ := va_Tof (f := fun j => .long (xtens.getD j 0)) (A := fun q : Nat => s.heap.size ≤ q) (N := 19) (by decide) (hfl _ n1) (va_eqt (hfl _ n2)) (fun j hj => va_eqtl (xTens_in hgv j hj)) hAn
  have hZ := va_Zref (A := fun q : Nat => s.heap.size ≤ q) (hts _ w1) (hts _ w2) ht hAn
  have hS1 := xSt.of (A := fun q : Nat => s.heap.size ≤ q) (hts _ w3) (hfl _ n3) hAn
  have hS2 := xSt.of (A := fun q : Nat => s.heap.size ≤ q) (hts _ w4) (hfl _ n4) hAn
  obtain ⟨D, hD⟩ := xD_all hts
  obtain ⟨cI, a1, a2⟩ := xarrC (ty := .int) (fun C h => by cases h) (hts _ w5)
  obtain ⟨cJ, a3, a4⟩ := xarrC (ty := .long) (fun C h => by cases h) (hts _ w6)
  obtain ⟨cE, a5, a6⟩ := xarrO (hts _ w7)
  obtain ⟨cF, a7, a8⟩ := xarrO (hts _ w8)
  let dA : Nat → ClassId := fun k => if k = 40 then cI else if k = 41 then cJ else if k = 62 then cE else cF
  let tys : List (ClassId × FieldType) := [(cI, .int), (cJ, .long), (cE, .object "TwinEntry$Desk"), (cF, .object "TwinEntry$Decimal")]
  have hTy : xTyOk lw_tbl xcl dA tys := by
    refine ⟨⟨0, rfl⟩, ⟨1, rfl⟩, w5, w6, fun k hk => ?_⟩
    have : k = 62 ∨ k = 65 := by
      simp only [xoa, Bool.or_eq_true] at hk
      rcases hk with h | h
      · exact Or.inl (Nat.eq_of_beq_eq_true h)
      · exact Or.inr (Nat.eq_of_beq_eq_true h)
    rcases this with rfl | rfl
    · exact ⟨2, _, 2, rfl, by decide, rfl, rfl, w7⟩
    · exact ⟨5, _, 3, rfl, by decide, rfl, rfl, w8⟩
  have htab : xTab lw_tbl xcl xfts dA tys xmi 208 := ⟨xClOk_all, hTy, xLibOk_all, xObj_all⟩
  have hK : va_K D xcl tys s := by
    refine ⟨hD, fun k q hq => ?_⟩
    have hk : k < 4 := (List.getElem?_eq_some_iff.mp hq).1
    have : k = 0 ∨ k = 1 ∨ k = 2 ∨ k = 3 := by omega
    rcases this with rfl | rfl | rfl | rfl
    · cases hq; exact ⟨a1, a2⟩
    · cases hq; exact ⟨a3, a4⟩
    · cases hq; exact ⟨a5, a6⟩
    · cases hq; exact ⟨a7, a8⟩
  have hKx : xKx lw_tbl D xcl tys s := by
    refine ⟨hK, fun w hw hn => ?_, fun C hC => va_AO.of (hts _ hC)⟩
    cases w with
    | fieldLinkNest a i b n d e => exact va_Nw.of rfl (hts _ hw)
    | methodLinkNest a i x e => exact va_Nw.of rfl (hts _ hw)
    | _ => cases hn
  have hTx : xTx lw_tbl (fun q : Nat => s.heap.size ≤ q) s s.heap := by
    refine ⟨fun w hw hn => ?_, hS1, hS2⟩
    cases w with
    | declares x => exact va_Nw.of rfl (hts _ hw)
    | castable a b => exact va_Nw.of rfl (hts _ hw)
    | _ => cases hn
  let E : xPhi := (fun _ => 0, fun k => if k = 50 then b else t)
  have hHx : xHx xsT (fun q : Nat => s.heap.size ≤ q) E (xX0 xs L) s s.heap := ⟨hX, hAn b hbl, hT, hZ⟩
  obtain ⟨n, d, h', hn, hq, hz⟩ := hpure
  have hl := lv_entry ([.ref b]) (n := 8) (Nat.le_of_ble_eq_true rfl)
  rw [lg_entry_eq]
  generalize (lg_sl ([.ref b]) ++ List.replicate (8 - (lg_sl ([.ref b])).length) Slot.unset).toArray = ls at hl ⊢
  have hl : lv_has ls 8 [(0, .ref b)] := hl
  have hdep := xdepth (l := l) (D := D) (A := fun q : Nat => s.heap.size ≤ q) (X := xX0 xs L) hlt htab d
  refine xwalkL (host := "TwinEntry") (NM := 208) (NA := 220) (y := 220) (d := d) (C := xF (xX0 xs L) xtt d) (P := p220) (E0 := E) (h' := h') (HH := xhh) (x0 := 1) (MI := xmi) (tb := lw_tbl) (cl := xcl) (ft := xfts) (dA := dA) (tys := tys) (sT := xsT) (A := fun q : Nat => s.heap.size ≤ q) (X := xX0 xs L) (R := room_1) ⟨hx, hb, hml, hown, hmn, fun w g _ => hts w g, hKx, fun q g => g, Nat.le_of_ble_eq_true rfl, Nat.le_of_ble_eq_true rfl⟩ htab hHx hTx (xNc_in hgv) (fun z hz => xMok_all hz) (fun z g1 g2 => (xMokW_all g1 g2).1) ⟨by decide, by decide⟩ xrows_law ?_ ?_ rfl (fun z as h v1 h1 hz g => hdep.1 z as h v1 h1 hz g) (fun z as h v1 h1 g1 g2 g => xdepthW hlt htab d z as h v1 h1 g1 g2 g) (fun z as h o h1 g => xF_le d z as h o h1 g) ?_ rfl n 0 E [(0, vr 50 0)] [] xh0 s.heap [] ls 0 0 hn rfl hl ⟨fun q hq => ?_, fun _ g => by cases g⟩ (fun a ha => absurd ha (Nat.not_lt_zero a)) ⟨fun a b ha => absurd ha (Nat.not_lt_zero a), fun a ha => absurd ha (Nat.not_lt_zero a), fun _ _ => rfl, fun _ _ => Nat.le_refl _⟩ va_S.rf ?_ ?_
  · intro pc q hq idx hi g1 g2
    have g := xlaw_plain hq
    simp only [xplL, hi, Bool.or_eq_true] at g
    rcases g with g | g
    · have : q.2.2.1 + 1 ≤ 208 := Nat.le_of_ble_eq_true g
      omega
    · exact g
  · intro pc q hq idx hi
    have g := xlaw_plain hq
    rcases hi with hi | hi
    · simp only [xplL, hi] at g
      exact Nat.le_of_ble_eq_true g
    · simp only [xplL, hi] at g
      exact Nat.le_of_ble_eq_true g
  · intro pc H locs ls cells slots hdg hS hc hs
    refine va_forget (fun q hq => hS.2.2 q hq) ?_
    exact W.widen (k := 616624) (n := 7246232) hc hs (lw_ret hx hb hr hlocks hdg)
  · cases List.mem_singleton.mp hq
    exact Or.inl ⟨by decide, by decide⟩
  · show 0 + (xQ h' - 0) ≤ 616624
    omega
  · show 0 + (xZ h' - 0) ≤ 7246232
    omega
