/-- what a row of a method's table must say of itself; the rows with pool entries have more to say, elsewhere -/
def xok1 (nL pc : Nat) (i : Instr) (len a : Nat) (v : xV) : Bool := match i with
  | .iconst n => decide (len = 1) && decide (v = vi (Int32.ofInt n))
  | .bipush n => decide (len = 2) && decide (v = vi (Int8.ofInt n).toInt32)
  | .sipush n => decide (len = 3) && decide (v = vi (Int16.ofInt n).toInt32)
  | .lconst n => decide (len = 1) && decide (v = vl (Int64.ofNat (n : Nat)))
  | .aconst_null => decide (len = 1)
  | .iload _ => decide (len = 2)
  | .iload_n _ => decide (len = 1)
  | .lload _ => decide (len = 2)
  | .lload_n _ => decide (len = 1)
  | .aload _ => decide (len = 2)
  | .aload_n _ => decide (len = 1)
  | .istore n => decide (len = 2) && decide (n < nL)
  | .istore_n n => decide (len = 1) && decide ((n : Nat) < nL)
  | .lstore n => decide (len = 2) && decide (n + 1 < nL)
  | .lstore_n n => decide (len = 1) && decide ((n : Nat) + 1 < nL)
  | .astore n => decide (len = 2) && decide (n < nL)
  | .astore_n n => decide (len = 1) && decide ((n : Nat) < nL)
  | .iinc n k => decide (len = 3) && decide (n < nL) && decide (v = vi (Int32.ofInt k))
  | .goto off => decide (len = 3) && decide ((pc : Int) + off = (a : Int))
  | .ifCond _ off => decide (len = 3) && decide ((pc : Int) + off = (a : Int))
  | .if_icmp _ off => decide (len = 3) && decide ((pc : Int) + off = (a : Int))
  | .iadd => decide (len = 1)
  | .isub => decide (len = 1)
  | .imul => decide (len = 1)
  | .iand => decide (len = 1)
  | .ior => decide (len = 1)
  | .ixor => decide (len = 1)
  | .ishl => decide (len = 1)
  | .ishr => decide (len = 1)
  | .iushr => decide (len = 1)
  | .ineg => decide (len = 1)
  | .idiv => decide (len = 1)
  | .irem => decide (len = 1)
  | .ladd => decide (len = 1)
  | .lsub => decide (len = 1)
  | .lmul => decide (len = 1)
  | .land => decide (len = 1)
  | .lor => decide (len = 1)
  | .lxor => decide (len = 1)
  | .lneg => decide (len = 1)
  | .ldiv => decide (len = 1)
  | .lrem => decide (len = 1)
  | .lshl => decide (len = 1)
  | .lshr => decide (len = 1)
  | .lushr => decide (len = 1)
  | .lcmp => decide (len = 1)
  | .i2l => decide (len = 1)
  | .l2i => decide (len = 1)
  | .i2b => decide (len = 1)
  | .i2c => decide (len = 1)
  | .pop => decide (len = 1)
  | .dup => decide (len = 1)
  | .dup_x1 => decide (len = 1)
  | .dup_x2 => decide (len = 1)
  | .dup2 => decide (len = 1)
  | .pop2 => decide (len = 1)
  | .dup2_x1 => decide (len = 1)
  | .dup2_x2 => decide (len = 1)
  | _ => false
section XS
variable {p : Program} {l : Launch} {e : Env} {R : Room} {s : State} {m : MethodId} {args : Array Value} {below : List Frame} {meth : Method} {c : Code} {H : Heap} {locs : List Loc} {cells slots : Nat} {Q : State → Prop}
set_option maxHeartbeats 4000000 in
set_option maxRecDepth 100000 in
/-- the instructions that leave the heap as it is -/
theorem xs_pure (hexec : p.tables.exec = Jvm.exec) {cc : ByteArray} (hb : c.code = cc) {X : xX} {d : Nat} {C : Nat → List xV → xH → xO → xH → Prop} {hd : xB} {i : Instr} {len a b nL pc : Nat} {v : xV} {L : xL} {st : List xV} {h h' : xH} {o : xO} {K : Nat → xL → List xV → xH → Prop} {E : xPhi} {ls : Array Slot}
    (hok : xok1 nL pc i len a v = true) (hdg : decode cc pc = .ok (i, len)) (hx : xDo X d C hd i len a b v pc L st h o h' K) (hl : lv_has ls nL (xtL E L)) (hw : xwts h L st)
    (go : ∀ (pc1 : Nat) (L1 : xL) (st1 : List xV) (ls1 : Array Slot), K pc1 L1 st1 h → lv_has ls1 nL (xtL E L1) → xwts h L1 st1 → W p l e R s m args below meth c H locs cells slots Q (F0 m pc1 ls1 (st1.map (xtr E)))) :
    W p l e R s m args below meth c H locs cells slots Q (F0 m pc ls (st.map (xtr E))) := by
  cases i with
  | iconst n =>
    simp only [xok1, Bool.and_eq_true, decide_eq_true_eq] at hok
    obtain ⟨rfl, rfl⟩ := hok
    exact lv_iconst hexec hb hdg rfl (go _ _ _ _ hx hl (xwts_cons hw trivial))
  | bipush n =>
    simp only [xok1, Bool.and_eq_true, decide_eq_true_eq] at hok
    obtain ⟨rfl, rfl⟩ := hok
    exact lv_bipush hexec hb hdg rfl (go _ _ _ _ hx hl (xwts_cons hw trivial))
  | sipush n =>
    simp only [xok1, Bool.and_eq_true, decide_eq_true_eq] at hok
    obtain ⟨rfl, rfl⟩ := hok
    exact lv_sipush hexec hb hdg rfl (go _ _ _ _ hx hl (xwts_cons hw trivial))
  | lconst n =>
    simp only [xok1, Bool.and_eq_true, decide_eq_true_eq] at hok
    obtain ⟨rfl, rfl⟩ := hok
    exact lv_lconst hexec hb hdg rfl (go _ _ _ _ hx hl (xwts_cons hw trivial))
  | aconst_null =>
    simp only [xok1, decide_eq_true_eq] at hok
    subst hok
    exact lv_null hexec hb hdg (go _ _ _ _ hx hl (xwts_cons hw trivial))
  | iload n =>
    simp only [xok1, decide_eq_true_eq] at hok
    subst hok
    obtain ⟨x, e1, hx⟩ := xildr_of hx
    exact lv_iload hexec hb hdg (xtL_ld hl e1) (go _ _ _ _ hx hl (xwts_ld hw e1))
  | iload_n n =>
    simp only [xok1, decide_eq_true_eq] at hok
    subst hok
    obtain ⟨x, e1, hx⟩ := xildr_of hx
    exact lv_iload_n hexec hb hdg rfl (xtL_ld hl e1) (go _ _ _ _ hx hl (xwts_ld hw e1))
  | lload n =>
    simp only [xok1, decide_eq_true_eq] at hok
    subst hok
    obtain ⟨x, e1, hx⟩ := xjldr_of hx
    exact lv_lload hexec hb hdg (xtL_ld hl e1) (go _ _ _ _ hx hl (xwts_ld hw e1))
  | lload_n n =>
    simp only [xok1, decide_eq_true_eq] at hok
    subst hok
    obtain ⟨x, e1, hx⟩ := xjldr_of hx
    exact lv_lload_n hexec hb hdg rfl (xtL_ld hl e1) (go _ _ _ _ hx hl (xwts_ld hw e1))
  | aload n =>
    simp only [xok1, decide_eq_true_eq] at hok
    subst hok
    have hx : xaldr L n fun x => K (pc + 2) L (x :: st) h := hx
    obtain ⟨x, e1, hx⟩ := xaldr_of hx
    rcases x with _ | q
    · exact lv_aloadN hexec hb hdg (xtL_ld hl e1) (go _ _ _ _ hx hl (xwts_ld hw e1))
    · exact lv_aload hexec hb hdg (xtL_ld hl e1) (go _ _ _ _ hx hl (xwts_ld hw e1))
  | aload_n n =>
    simp only [xok1, decide_eq_true_eq] at hok
    subst hok
    have hx : xaldr L n fun x => K (pc + 1) L (x :: st) h := hx
    obtain ⟨x, e1, hx⟩ := xaldr_of hx
    rcases x with _ | q
    · exact lv_aload_nN hexec hb hdg rfl (xtL_ld hl e1) (go _ _ _ _ hx hl (xwts_ld hw e1))
    · exact lv_aload_n hexec hb hdg rfl (xtL_ld hl e1) (go _ _ _ _ hx hl (xwts_ld hw e1))
  | istore n =>
    simp only [xok1, Bool.and_eq_true, decide_eq_true_eq] at hok
    obtain ⟨rfl, hn⟩ := hok
    obtain ⟨x, r, rfl, hx⟩ := xi1_of hx
    exact lv_istore hexec hb hdg hl hn (xtL_st1 (v := vi x)) (fun ls' hl' => go _ _ _ _ hx hl' (xwts_st1 hw))
  | istore_n n =>
    simp only [xok1, Bool.and_eq_true, decide_eq_true_eq] at hok
    obtain ⟨rfl, hn⟩ := hok
    obtain ⟨x, r, rfl, hx⟩ := xi1_of hx
    exact lv_istore_n hexec hb hdg rfl hl hn (xtL_st1 (v := vi x)) (fun ls' hl' => go _ _ _ _ hx hl' (xwts_st1 hw))
  | lstore n =>
    simp only [xok1, Bool.and_eq_true, decide_eq_true_eq] at hok
    obtain ⟨rfl, hn⟩ := hok
    obtain ⟨x, r, rfl, hx⟩ := xj1_of hx
    exact lv_lstore hexec hb hdg hl hn (xtL_st2 (v := vl x)) (fun ls' hl' => go _ _ _ _ hx hl' (xwts_st2 hw))
  | lstore_n n =>
    simp only [xok1, Bool.and_eq_true, decide_eq_true_eq] at hok
    obtain ⟨rfl, hn⟩ := hok
    obtain ⟨x, r, rfl, hx⟩ := xj1_of hx
    exact lv_lstore_n hexec hb hdg rfl hl hn (xtL_st2 (v := vl x)) (fun ls' hl' => go _ _ _ _ hx hl' (xwts_st2 hw))
  | astore n =>
    simp only [xok1, Bool.and_eq_true, decide_eq_true_eq] at hok
    obtain ⟨rfl, hn⟩ := hok
    have hx : xa1 st fun k q r => K (pc + 2) (xst1 L n (vr k q)) r h := hx
    obtain ⟨k, q, r, rfl, hx⟩ := xa1_of hx
    exact lv_astore hexec hb hdg hl hn (xtL_st1 (v := vr k q)) (fun ls' hl' => go _ _ _ _ hx hl' (xwts_st1 hw))
  | astore_n n =>
    simp only [xok1, Bool.and_eq_true, decide_eq_true_eq] at hok
    obtain ⟨rfl, hn⟩ := hok
    have hx : xa1 st fun k q r => K (pc + 1) (xst1 L n (vr k q)) r h := hx
    obtain ⟨k, q, r, rfl, hx⟩ := xa1_of hx
    exact lv_astore_n hexec hb hdg rfl hl hn (xtL_st1 (v := vr k q)) (fun ls' hl' => go _ _ _ _ hx hl' (xwts_st1 hw))
  | iinc n k =>
    simp only [xok1, Bool.and_eq_true, decide_eq_true_eq] at hok
    obtain ⟨⟨rfl, hn⟩, rfl⟩ := hok
    obtain ⟨x, e1, hx⟩ := xildr_of hx
    obtain ⟨j, hj⟩ := List.getElem?_of_mem (xtL_at (E := E) e1)
    exact lv_iinc hexec hb hdg hl hj rfl hn (xtL_st1 (v := vi (x + Int32.ofInt k))) (fun ls' hl' => go _ _ _ _ hx hl' (xwts_st1 (xwts_cons hw trivial)))
  | goto off =>
    simp only [xok1, Bool.and_eq_true, decide_eq_true_eq] at hok
    obtain ⟨rfl, ht⟩ := hok
    exact lv_goto hexec hb hdg ht (go _ _ _ _ hx hl hw)
  | ifCond cond off =>
    simp only [xok1, Bool.and_eq_true, decide_eq_true_eq] at hok
    obtain ⟨rfl, ht⟩ := hok
    obtain ⟨x, r, rfl, hx⟩ := xi1_of hx
    have hw := xwts_tl hw
    cases cond with
    | eq => exact lv_if_eq hexec hb hdg ht (fun q => go _ _ _ _ (hx.1 q) hl hw) (fun q => go _ _ _ _ (hx.2 q) hl hw)
    | ne => exact lv_if_ne hexec hb hdg ht (fun q => go _ _ _ _ (hx.1 q) hl hw) (fun q => go _ _ _ _ (hx.2 (fun z => z q)) hl hw)
    | lt => exact lv_if_lt hexec hb hdg ht (fun q => go _ _ _ _ (hx.1 q) hl hw) (fun q => go _ _ _ _ (hx.2 q) hl hw)
    | ge => exact lv_if_ge hexec hb hdg ht (fun q => go _ _ _ _ (hx.1 q) hl hw) (fun q => go _ _ _ _ (hx.2 q) hl hw)
    | gt => exact lv_if_gt hexec hb hdg ht (fun q => go _ _ _ _ (hx.1 q) hl hw) (fun q => go _ _ _ _ (hx.2 q) hl hw)
    | le => exact lv_if_le hexec hb hdg ht (fun q => go _ _ _ _ (hx.1 q) hl hw) (fun q => go _ _ _ _ (hx.2 q) hl hw)
  | if_icmp cond off =>
    simp only [xok1, Bool.and_eq_true, decide_eq_true_eq] at hok
    obtain ⟨rfl, ht⟩ := hok
    obtain ⟨y, r, rfl, hx⟩ := xi1_of hx
    obtain ⟨x, r, rfl, hx⟩ := xi1_of hx
    have hw := xwts_tl (xwts_tl hw)
    cases cond with
    | eq => exact lv_icmp_eq hexec hb hdg ht (fun q => go _ _ _ _ (hx.1 q) hl hw) (fun q => go _ _ _ _ (hx.2 q) hl hw)
    | ne => exact lv_icmp_ne hexec hb hdg ht (fun q => go _ _ _ _ (hx.1 q) hl hw) (fun q => go _ _ _ _ (hx.2 (fun z => z q)) hl hw)
    | lt => exact lv_icmp_lt hexec hb hdg ht (fun q => go _ _ _ _ (hx.1 q) hl hw) (fun q => go _ _ _ _ (hx.2 q) hl hw)
    | ge => exact lv_icmp_ge hexec hb hdg ht (fun q => go _ _ _ _ (hx.1 q) hl hw) (fun q => go _ _ _ _ (hx.2 q) hl hw)
    | gt => exact lv_icmp_gt hexec hb hdg ht (fun q => go _ _ _ _ (hx.1 q) hl hw) (fun q => go _ _ _ _ (hx.2 q) hl hw)
    | le => exact lv_icmp_le hexec hb hdg ht (fun q => go _ _ _ _ (hx.1 q) hl hw) (fun q => go _ _ _ _ (hx.2 q) hl hw)
  | iadd =>
    simp only [xok1, decide_eq_true_eq] at hok
    subst hok
    obtain ⟨y, r, rfl, hx⟩ := xi1_of hx
    obtain ⟨x, r, rfl, hx⟩ := xi1_of hx
    exact lv_iadd hexec hb hdg (go _ _ _ _ hx hl (xwts_cons (xwts_tl (xwts_tl hw)) trivial))
  | isub =>
    simp only [xok1, decide_eq_true_eq] at hok
    subst hok
    obtain ⟨y, r, rfl, hx⟩ := xi1_of hx
    obtain ⟨x, r, rfl, hx⟩ := xi1_of hx
    exact lv_isub hexec hb hdg (go _ _ _ _ hx hl (xwts_cons (xwts_tl (xwts_tl hw)) trivial))
  | imul =>
    simp only [xok1, decide_eq_true_eq] at hok
    subst hok
    obtain ⟨y, r, rfl, hx⟩ := xi1_of hx
    obtain ⟨x, r, rfl, hx⟩ := xi1_of hx
    exact lv_imul hexec hb hdg (go _ _ _ _ hx hl (xwts_cons (xwts_tl (xwts_tl hw)) trivial))
  | iand =>
    simp only [xok1, decide_eq_true_eq] at hok
    subst hok
    obtain ⟨y, r, rfl, hx⟩ := xi1_of hx
    obtain ⟨x, r, rfl, hx⟩ := xi1_of hx
    exact lv_iand hexec hb hdg (go _ _ _ _ hx hl (xwts_cons (xwts_tl (xwts_tl hw)) trivial))
  | ior =>
    simp only [xok1, decide_eq_true_eq] at hok
    subst hok
    obtain ⟨y, r, rfl, hx⟩ := xi1_of hx
    obtain ⟨x, r, rfl, hx⟩ := xi1_of hx
    exact lv_ior hexec hb hdg (go _ _ _ _ hx hl (xwts_cons (xwts_tl (xwts_tl hw)) trivial))
  | ixor =>
    simp only [xok1, decide_eq_true_eq] at hok
    subst hok
    obtain ⟨y, r, rfl, hx⟩ := xi1_of hx
    obtain ⟨x, r, rfl, hx⟩ := xi1_of hx
    exact lv_ixor hexec hb hdg (go _ _ _ _ hx hl (xwts_cons (xwts_tl (xwts_tl hw)) trivial))
  | ishl =>
    simp only [xok1, decide_eq_true_eq] at hok
    subst hok
    obtain ⟨y, r, rfl, hx⟩ := xi1_of hx
    obtain ⟨x, r, rfl, hx⟩ := xi1_of hx
    exact lv_ishl hexec hb hdg (go _ _ _ _ hx hl (xwts_cons (xwts_tl (xwts_tl hw)) trivial))
  | ishr =>
    simp only [xok1, decide_eq_true_eq] at hok
    subst hok
    obtain ⟨y, r, rfl, hx⟩ := xi1_of hx
    obtain ⟨x, r, rfl, hx⟩ := xi1_of hx
    exact lv_ishr hexec hb hdg (go _ _ _ _ hx hl (xwts_cons (xwts_tl (xwts_tl hw)) trivial))
  | iushr =>
    simp only [xok1, decide_eq_true_eq] at hok
    subst hok
    obtain ⟨y, r, rfl, hx⟩ := xi1_of hx
    obtain ⟨x, r, rfl, hx⟩ := xi1_of hx
    exact lv_iushr hexec hb hdg rfl (go _ _ _ _ hx hl (xwts_cons (xwts_tl (xwts_tl hw)) trivial))
  | ineg =>
    simp only [xok1, decide_eq_true_eq] at hok
    subst hok
    obtain ⟨x, r, rfl, hx⟩ := xi1_of hx
    exact lv_ineg hexec hb hdg (go _ _ _ _ hx hl (xwts_cons (xwts_tl hw) trivial))
  | idiv =>
    simp only [xok1, decide_eq_true_eq] at hok
    subst hok
    obtain ⟨y, r, rfl, hx⟩ := xi1_of hx
    obtain ⟨x, r, rfl, hne, hx⟩ := xi1_of hx
    exact lv_idiv hexec hb hdg hne (go _ _ _ _ hx hl (xwts_cons (xwts_tl (xwts_tl hw)) trivial))
  | irem =>
    simp only [xok1, decide_eq_true_eq] at hok
    subst hok
    obtain ⟨y, r, rfl, hx⟩ := xi1_of hx
    obtain ⟨x, r, rfl, hne, hx⟩ := xi1_of hx
    exact lv_irem hexec hb hdg hne (go _ _ _ _ hx hl (xwts_cons (xwts_tl (xwts_tl hw)) trivial))
  | ladd =>
    simp only [xok1, decide_eq_true_eq] at hok
    subst hok
    obtain ⟨y, r, rfl, hx⟩ := xj1_of hx
    obtain ⟨x, r, rfl, hx⟩ := xj1_of hx
    exact lv_ladd hexec hb hdg (go _ _ _ _ hx hl (xwts_cons (xwts_tl (xwts_tl hw)) trivial))
  | lsub =>
    simp only [xok1, decide_eq_true_eq] at hok
    subst hok
    obtain ⟨y, r, rfl, hx⟩ := xj1_of hx
    obtain ⟨x, r, rfl, hx⟩ := xj1_of hx
    exact lv_lsub hexec hb hdg (go _ _ _ _ hx hl (xwts_cons (xwts_tl (xwts_tl hw)) trivial))
  | lmul =>
    simp only [xok1, decide_eq_true_eq] at hok
    subst hok
    obtain ⟨y, r, rfl, hx⟩ := xj1_of hx
    obtain ⟨x, r, rfl, hx⟩ := xj1_of hx
    exact lv_lmul hexec hb hdg (go _ _ _ _ hx hl (xwts_cons (xwts_tl (xwts_tl hw)) trivial))
  | land =>
    simp only [xok1, decide_eq_true_eq] at hok
    subst hok
    obtain ⟨y, r, rfl, hx⟩ := xj1_of hx
    obtain ⟨x, r, rfl, hx⟩ := xj1_of hx
    exact lv_land hexec hb hdg (go _ _ _ _ hx hl (xwts_cons (xwts_tl (xwts_tl hw)) trivial))
  | lor =>
    simp only [xok1, decide_eq_true_eq] at hok
    subst hok
    obtain ⟨y, r, rfl, hx⟩ := xj1_of hx
    obtain ⟨x, r, rfl, hx⟩ := xj1_of hx
    exact lv_lor hexec hb hdg (go _ _ _ _ hx hl (xwts_cons (xwts_tl (xwts_tl hw)) trivial))
  | lxor =>
    simp only [xok1, decide_eq_true_eq] at hok
    subst hok
    obtain ⟨y, r, rfl, hx⟩ := xj1_of hx
    obtain ⟨x, r, rfl, hx⟩ := xj1_of hx
    exact lv_lxor hexec hb hdg (go _ _ _ _ hx hl (xwts_cons (xwts_tl (xwts_tl hw)) trivial))
  | lneg =>
    simp only [xok1, decide_eq_true_eq] at hok
    subst hok
    obtain ⟨x, r, rfl, hx⟩ := xj1_of hx
    exact lv_lneg hexec hb hdg (go _ _ _ _ hx hl (xwts_cons (xwts_tl hw) trivial))
  | ldiv =>
    simp only [xok1, decide_eq_true_eq] at hok
    subst hok
    obtain ⟨y, r, rfl, hx⟩ := xj1_of hx
    obtain ⟨x, r, rfl, hne, hx⟩ := xj1_of hx
    exact lv_ldiv hexec hb hdg hne (go _ _ _ _ hx hl (xwts_cons (xwts_tl (xwts_tl hw)) trivial))
  | lrem =>
    simp only [xok1, decide_eq_true_eq] at hok
    subst hok
    obtain ⟨y, r, rfl, hx⟩ := xj1_of hx
    obtain ⟨x, r, rfl, hne, hx⟩ := xj1_of hx
    exact lv_lrem hexec hb hdg hne (go _ _ _ _ hx hl (xwts_cons (xwts_tl (xwts_tl hw)) trivial))
  | lshl =>
    simp only [xok1, decide_eq_true_eq] at hok
    subst hok
    obtain ⟨y, r, rfl, hx⟩ := xi1_of hx
    obtain ⟨x, r, rfl, hx⟩ := xj1_of hx
    exact lv_lshl hexec hb hdg rfl (go _ _ _ _ hx hl (xwts_cons (xwts_tl (xwts_tl hw)) trivial))
  | lshr =>
    simp only [xok1, decide_eq_true_eq] at hok
    subst hok
    obtain ⟨y, r, rfl, hx⟩ := xi1_of hx
    obtain ⟨x, r, rfl, hx⟩ := xj1_of hx
    exact lv_lshr hexec hb hdg rfl (go _ _ _ _ hx hl (xwts_cons (xwts_tl (xwts_tl hw)) trivial))
  | lushr =>
    simp only [xok1, decide_eq_true_eq] at hok
    subst hok
    obtain ⟨y, r, rfl, hx⟩ := xi1_of hx
    obtain ⟨x, r, rfl, hx⟩ := xj1_of hx
    exact lv_lushr hexec hb hdg rfl (go _ _ _ _ hx hl (xwts_cons (xwts_tl (xwts_tl hw)) trivial))
  | lcmp =>
    simp only [xok1, decide_eq_true_eq] at hok
    subst hok
    obtain ⟨y, r, rfl, hx⟩ := xj1_of hx
    obtain ⟨x, r, rfl, hx⟩ := xj1_of hx
    exact W.lcmp hexec hb hdg (go _ _ _ _ hx hl (xwts_cons (xwts_tl (xwts_tl hw)) trivial))
  | i2l =>
    simp only [xok1, decide_eq_true_eq] at hok
    subst hok
    obtain ⟨x, r, rfl, hx⟩ := xi1_of hx
    exact lv_i2l hexec hb hdg rfl (go _ _ _ _ hx hl (xwts_cons (xwts_tl hw) trivial))
  | l2i =>
    simp only [xok1, decide_eq_true_eq] at hok
    subst hok
    obtain ⟨x, r, rfl, hx⟩ := xj1_of hx
    exact lv_l2i hexec hb hdg rfl (go _ _ _ _ hx hl (xwts_cons (xwts_tl hw) trivial))
  | i2b =>
    simp only [xok1, decide_eq_true_eq] at hok
    subst hok
    obtain ⟨x, r, rfl, hx⟩ := xi1_of hx
    exact lv_i2b hexec hb hdg rfl (go _ _ _ _ hx hl (xwts_cons (xwts_tl hw) trivial))
  | i2c =>
    simp only [xok1, decide_eq_true_eq] at hok
    subst hok
    obtain ⟨x, r, rfl, hx⟩ := xi1_of hx
    exact lv_i2c hexec hb hdg rfl (go _ _ _ _ hx hl (xwts_cons (xwts_tl hw) trivial))
  | pop =>
    simp only [xok1, decide_eq_true_eq] at hok
    subst hok
    obtain ⟨x, r, rfl, hx⟩ := xv1_of hx
    obtain ⟨h1, hx⟩ := xbif_of hx
    exact lv_pop hexec hb hdg ((xtr_cat E x).trans (Nat.eq_of_beq_eq_true h1)) (go _ _ _ _ hx hl (xwts_tl hw))
  | dup =>
    simp only [xok1, decide_eq_true_eq] at hok
    subst hok
    obtain ⟨x, r, rfl, hx⟩ := xv1_of hx
    obtain ⟨h1, hx⟩ := xbif_of hx
    exact lv_dup hexec hb hdg ((xtr_cat E x).trans (Nat.eq_of_beq_eq_true h1)) (go _ _ _ _ hx hl (xwts_cons hw (hw.2 x List.mem_cons_self)))
  | dup_x1 =>
    simp only [xok1, decide_eq_true_eq] at hok
    subst hok
    obtain ⟨x, r, rfl, hx⟩ := xv1_of hx
    obtain ⟨y, r, rfl, hx⟩ := xv1_of hx
    obtain ⟨h1, hx⟩ := xbif_of hx
    rw [Bool.and_eq_true] at h1
    exact lv_dup_x1 hexec hb hdg ((xtr_cat E x).trans (Nat.eq_of_beq_eq_true h1.1)) ((xtr_cat E y).trans (Nat.eq_of_beq_eq_true h1.2)) (go _ _ _ _ hx hl (xwts_cons (xwts_cons (xwts_cons (xwts_tl (xwts_tl hw)) (hw.2 x List.mem_cons_self)) (hw.2 y (List.mem_cons_of_mem _ List.mem_cons_self))) (hw.2 x List.mem_cons_self)))
  | dup_x2 =>
    simp only [xok1, decide_eq_true_eq] at hok
    subst hok
    obtain ⟨x, r, rfl, hx⟩ := xv1_of hx
    obtain ⟨y, r, rfl, hx⟩ := xv1_of hx
    obtain ⟨z, r, rfl, hx⟩ := xv1_of hx
    obtain ⟨h1, hx⟩ := xbif_of hx
    rw [Bool.and_eq_true, Bool.and_eq_true] at h1
    exact lv_dup_x2 hexec hb hdg ((xtr_cat E x).trans (Nat.eq_of_beq_eq_true h1.1)) ((xtr_cat E y).trans (Nat.eq_of_beq_eq_true h1.2.1)) ((xtr_cat E z).trans (Nat.eq_of_beq_eq_true h1.2.2)) (go _ _ _ _ hx hl ⟨hw.1, fun w hq => by
      simp only [List.mem_cons] at hq
      rcases hq with rfl | rfl | rfl | rfl | hq
      · exact hw.2 _ (by simp)
      · exact hw.2 _ (by simp)
      · exact hw.2 _ (by simp)
      · exact hw.2 _ (by simp)
      · exact hw.2 _ (by simp [hq])⟩)
  | dup2 =>
    simp only [xok1, decide_eq_true_eq] at hok
    subst hok
    simp only [xDo] at hx
    obtain ⟨x, r, rfl, hz⟩ := xv1_of hx
    clear hx
    cases hc : Nat.beq (xcat x) 2 with
    | true =>
      rw [hc] at hz
      exact lv_dup2_2 hexec hb hdg ((xtr_cat E x).trans (Nat.eq_of_beq_eq_true hc)) (go _ _ _ _ hz hl (xwts_cons hw (hw.2 x List.mem_cons_self)))
    | false =>
      rw [hc] at hz
      obtain ⟨y, r, rfl, hy⟩ := xv1_of hz
      clear hz
      obtain ⟨h1, hx⟩ := xbif_of hy
      rw [Bool.and_eq_true] at h1
      exact lv_dup2_11 hexec hb hdg ((xtr_cat E x).trans (Nat.eq_of_beq_eq_true h1.1)) ((xtr_cat E y).trans (Nat.eq_of_beq_eq_true h1.2)) (go _ _ _ _ hx hl (xwts_cons (xwts_cons hw (hw.2 y (List.mem_cons_of_mem _ List.mem_cons_self))) (hw.2 x List.mem_cons_self)))
  | pop2 =>
    simp only [xok1, decide_eq_true_eq] at hok
    subst hok
    simp only [xDo] at hx
    obtain ⟨x, r, rfl, hz⟩ := xv1_of hx
    clear hx
    cases hc : Nat.beq (xcat x) 2 with
    | true =>
      rw [hc] at hz
      exact lv_pop2_2 hexec hb hdg ((xtr_cat E x).trans (Nat.eq_of_beq_eq_true hc)) (go _ _ _ _ hz hl (xwts_tl hw))
    | false =>
      rw [hc] at hz
      obtain ⟨y, r, rfl, hy⟩ := xv1_of hz
      clear hz
      obtain ⟨h1, hx⟩ := xbif_of hy
      rw [Bool.and_eq_true] at h1
      exact lv_pop2_11 hexec hb hdg ((xtr_cat E x).trans (Nat.eq_of_beq_eq_true h1.1)) ((xtr_cat E y).trans (Nat.eq_of_beq_eq_true h1.2)) (go _ _ _ _ hx hl (xwts_tl (xwts_tl hw)))
  | dup2_x1 =>
    simp only [xok1, decide_eq_true_eq] at hok
    subst hok
    obtain ⟨x, r, rfl, hx⟩ := xv1_of hx
    obtain ⟨y, r, rfl, hx⟩ := xv1_of hx
    obtain ⟨h1, hx⟩ := xbif_of hx
    rw [Bool.and_eq_true] at h1
    exact lv_dup2_x1_2 hexec hb hdg ((xtr_cat E x).trans (Nat.eq_of_beq_eq_true h1.1)) ((xtr_cat E y).trans (Nat.eq_of_beq_eq_true h1.2)) (go _ _ _ _ hx hl (xwts_cons (xwts_cons (xwts_cons (xwts_tl (xwts_tl hw)) (hw.2 x List.mem_cons_self)) (hw.2 y (List.mem_cons_of_mem _ List.mem_cons_self))) (hw.2 x List.mem_cons_self)))
  | dup2_x2 =>
    simp only [xok1, decide_eq_true_eq] at hok
    subst hok
    obtain ⟨x, r, rfl, hx⟩ := xv1_of hx
    obtain ⟨y, r, rfl, hx⟩ := xv1_of hx
    obtain ⟨z, r, rfl, hx⟩ := xv1_of hx
    obtain ⟨h1, hx⟩ := xbif_of hx
    rw [Bool.and_eq_true, Bool.and_eq_true] at h1
    exact lv_dup2_x2_2 hexec hb hdg ((xtr_cat E x).trans (Nat.eq_of_beq_eq_true h1.1)) ((xtr_cat E y).trans (Nat.eq_of_beq_eq_true h1.2.1)) ((xtr_cat E z).trans (Nat.eq_of_beq_eq_true h1.2.2)) (go _ _ _ _ hx hl ⟨hw.1, fun w hq => by
      simp only [List.mem_cons] at hq
      rcases hq with rfl | rfl | rfl | rfl | hq
      · exact hw.2 _ (by simp)
      · exact hw.2 _ (by simp)
      · exact hw.2 _ (by simp)
      · exact hw.2 _ (by simp)
      · exact hw.2 _ (by simp [hq])⟩)
  | _ => exact absurd hok (by simp [xok1])
end XS
