/-! A PURE MACHINE. Its heap: ints, longs and references by (address, place), kind and length by address, how many addresses are taken, how many cells and slots were made. Its addresses are numbers from 0 on, in the order of making; what is thrown has none.
Kinds: 0 .. 39 objects by their number in 'vwCl'; 40 int[], 41 long[]; 50 the script; 51 .. 59 tables; 60 + k arrays of objects of kind k. -/
abbrev xH : Type := (Nat → Nat → Int32) × (Nat → Nat → Int64) × (Nat → Nat → Nat) × (Nat → Nat × Nat) × Nat × Nat × Nat
def xI (h : xH) : Nat → Nat → Int32 := h.1
def xJ (h : xH) : Nat → Nat → Int64 := h.2.1
/-- a reference: 0 is null, a + 1 the address a -/
def xR (h : xH) : Nat → Nat → Nat := h.2.2.1
def xK (h : xH) : Nat → Nat × Nat := h.2.2.2.1
def xN (h : xH) : Nat := h.2.2.2.2.1
def xQ (h : xH) : Nat := h.2.2.2.2.2.1
def xZ (h : xH) : Nat := h.2.2.2.2.2.2
def xu {α : Type} (f : Nat → Nat → α) (a k : Nat) (v : α) : Nat → Nat → α := fun b j => if b = a ∧ j = k then v else f b j
def xuI (h : xH) (a k : Nat) (v : Int32) : xH := (xu h.1 a k v, h.2)
def xuJ (h : xH) (a k : Nat) (v : Int64) : xH := (h.1, xu h.2.1 a k v, h.2.2)
def xuR (h : xH) (a k : Nat) (v : Nat) : xH := (h.1, h.2.1, xu h.2.2.1 a k v, h.2.2.2)
/-- a row of zeros at an address -/
def xz {α : Type} (f : Nat → Nat → α) (a : Nat) (v : α) : Nat → Nat → α := fun b j => if b = a then v else f b j
def xk {α : Type} (f : Nat → α) (a : Nat) (v : α) : Nat → α := fun b => if b = a then v else f b
/-- a new cell of a kind, of so many places -/
def xnew (h : xH) (kind n : Nat) : xH := (xz h.1 (xN h) 0, xz h.2.1 (xN h) 0, xz h.2.2.1 (xN h) 0, xk h.2.2.2.1 (xN h) (kind, n), xN h + 1, xQ h + 1, xZ h + n)
/-- a cell that is made and that nobody looks at again -/
def xgone (h : xH) (n : Nat) : xH := (h.1, h.2.1, h.2.2.1, h.2.2.2.1, xN h, xQ h + 1, xZ h + n)
abbrev xV : Type := (Int32 ⊕ Int64) ⊕ Option (Nat × Nat)
abbrev vi (x : Int32) : xV := .inl (.inl x)
abbrev vl (x : Int64) : xV := .inl (.inr x)
/-- a reference bears its kind -/
abbrev vr (k a : Nat) : xV := .inr (some (k, a))
abbrev vn : xV := .inr none
def xcat : xV → Nat
  | .inl (.inl _) => 1
  | .inl (.inr _) => 2
  | .inr _ => 1
/-- what a method ends with: a value or none, or the kind of what it throws -/
abbrev xO : Type := Option xV ⊕ Nat
/-- an instruction, its length, and what its pool entry says -/
abbrev xT : Type := Instr × Nat × Nat × Nat × xV
abbrev xL : Type := List (Nat × xV)
def xld : xL → Nat → Option xV
  | [], _ => none
  | q :: r, i => bif Nat.beq q.1 i then some q.2 else xld r i
def xst1 (L : xL) (i : Nat) (v : xV) : xL := (i, v) :: L.filter (fun q => !(q.1 == i) && !(q.1 + 1 == i && xcat q.2 == 2))
def xst2 (L : xL) (i : Nat) (v : xV) : xL := (i, v) :: L.filter (fun q => !(q.1 == i) && (!(q.1 == i + 1) && !(q.1 + 1 == i && xcat q.2 == 2)))
def xarg : Nat → List xV → xL
  | _, [] => []
  | i, v :: vs => (i, v) :: xarg (if xcat v = 2 then i + 2 else i + 1) vs
def xi1 (st : List xV) (K : Int32 → List xV → Prop) : Prop := match st with
  | .inl (.inl x) :: r => K x r
  | _ => False
def xj1 (st : List xV) (K : Int64 → List xV → Prop) : Prop := match st with
  | .inl (.inr x) :: r => K x r
  | _ => False
def xa1 (st : List xV) (K : Nat → Nat → List xV → Prop) : Prop := match st with
  | .inr (some q) :: r => K q.1 q.2 r
  | _ => False
def xv1 (st : List xV) (K : xV → List xV → Prop) : Prop := match st with
  | v :: r => K v r
  | _ => False
def xci : xV → Nat
  | .inr (some q) => q.1
  | _ => 0
def xco : xV → Int32
  | .inl (.inl x) => x
  | _ => 0
/-- a reference read: its kind is what its place says -/
def xrd (h : xH) (r kind : Nat) (K : xV → Prop) : Prop := match r with
  | 0 => K vn
  | q + 1 => bif Nat.beq (xK h q).1 kind then K (vr kind q) else False
/-- handlers: from, to, handler, kind, the place where it is put, the place behind that -/
abbrev xB : Type := List (Nat × Nat × Nat × Nat × Nat × Nat)
/-- where an exception of a kind that comes out of the call at pc is caught -/
def xcatch : xB → Nat → Nat → Option (Nat × Nat)
  | [], _, _ => none
  | q :: r, pc, k => bif Nat.ble q.1 pc && (Nat.blt pc q.2.1 && Nat.beq q.2.2.2.1 k) then some q.2.2.2.2 else xcatch r pc k
/-- the values kept when a reference goes to a place -/
def xoff (L : xL) (i : Nat) : xL := L.filter (fun q => !(q.1 == i) && !(q.1 + 1 == i && xcat q.2 == 2))
/-- the words on the stack below a call's arguments -/
def xwd : List xV → Nat
  | [] => 0
  | v :: r => xcat v + xwd r
def xback (hd : xB) (pc len : Nat) (L : xL) (rest : List xV) (o1 : xO) (h1 : xH) (K : Nat → xL → List xV → xH → Prop) : Prop := match o1 with
  | .inl none => K (pc + len) L rest h1
  | .inl (some v) => K (pc + len) L (v :: rest) h1
  | .inr k => match xcatch hd pc k with
    | some q => K q.2 (xoff L q.1) [] h1
    | none => False
/-- a call: so many arguments from the stack -/
def xcall (C : Nat → List xV → xH → xO → xH → Prop) (hd : xB) (pc len y na : Nat) (L : xL) (st : List xV) (h : xH) (K : Nat → xL → List xV → xH → Prop) : Prop :=
  bif Nat.ble na st.length && Nat.ble (xwd (st.drop na)) 8 then ∃ (o1 : xO) (h1 : xH), C y (st.take na).reverse h o1 h1 ∧ xback hd pc len L (st.drop na) o1 h1 K else False
/-- a call with a receiver of a kind -/
def xrecv (st : List xV) (na kind : Nat) (P : Prop) : Prop := xa1 (st.drop (na - 1)) fun k _ _ => bif Nat.beq k kind then P else False
/-- a method of the library, by a number -/
def xlib (y : Nat) (st : List xV) (K : List xV → Prop) : Prop := match y with
  | 1000 => xj1 st fun x r => K (vl (if 0 < x then x else -x) :: r)
  | 1001 => xi1 st fun x r => K (vi (if 0 ≤ x then x else 0 - x) :: r)
  | 1002 => xi1 st fun y r => xi1 r fun x r => K (vi (if y < x then y else x) :: r)
  | 1003 => xi1 st fun y r => xi1 r fun x r => K (vi (if x < y then y else x) :: r)
  | _ => False
def xbr (c : Prop) (A B : Prop) : Prop := (c → A) ∧ (¬ c → B)
def xif (cond : ClassFile.Cond) (x : Int32) (A B : Prop) : Prop := match cond with
  | .eq => xbr (x = 0) A B
  | .ne => xbr (¬ x = 0) A B
  | .lt => xbr (x < 0) A B
  | .ge => xbr (0 ≤ x) A B
  | .gt => xbr (0 < x) A B
  | .le => xbr (x ≤ 0) A B
def xifc (cond : ClassFile.Cond) (x y : Int32) (A B : Prop) : Prop := match cond with
  | .eq => xbr (x = y) A B
  | .ne => xbr (¬ x = y) A B
  | .lt => xbr (x < y) A B
  | .ge => xbr (y ≤ x) A B
  | .gt => xbr (y < x) A B
  | .le => xbr (x ≤ y) A B
abbrev xX : Type := (Nat → Int32) × Nat × (Nat → List Int64) × (Nat → List Int32)
def xildr (L : xL) (i : Nat) (K : Int32 → Prop) : Prop := match xld L i with
  | some (.inl (.inl x)) => K x
  | _ => False
def xjldr (L : xL) (i : Nat) (K : Int64 → Prop) : Prop := match xld L i with
  | some (.inl (.inr x)) => K x
  | _ => False
def xaldr (L : xL) (i : Nat) (K : xV → Prop) : Prop := match xld L i with
  | some (.inr q) => K (.inr q)
  | _ => False
/-- the kinds of arrays of objects that there are -/
def xoa (k : Nat) : Bool := Nat.beq k 62 || Nat.beq k 65
def xtab (x lo hi : Int) (offs : Array Int) (dflt : Int) : Option Int := if x < lo ∨ hi < x then some dflt else offs[(x - lo).toNat]?
def xsw (q : Option Int) (K : Int → Prop) : Prop := match q with
  | some off => K off
  | none => False
/-- one instruction; K goes on -/
def xDo (X : xX) (d : Nat) (C : Nat → List xV → xH → xO → xH → Prop) (hd : xB) (i : Instr) (len a b : Nat) (v : xV) (pc : Nat) (L : xL) (st : List xV) (h : xH) (o : xO) (h' : xH) (K : Nat → xL → List xV → xH → Prop) : Prop := match i with
  | .iconst _ => K (pc + len) L (v :: st) h
  | .bipush _ => K (pc + len) L (v :: st) h
  | .sipush _ => K (pc + len) L (v :: st) h
  | .lconst _ => K (pc + len) L (v :: st) h
  | .ldc _ => K (pc + len) L (v :: st) h
  | .ldc2_w _ => K (pc + len) L (v :: st) h
  | .aconst_null => K (pc + len) L (vn :: st) h
  | .iload n => xildr L n fun x => K (pc + len) L (vi x :: st) h
  | .iload_n n => xildr L n fun x => K (pc + len) L (vi x :: st) h
  | .lload n => xjldr L n fun x => K (pc + len) L (vl x :: st) h
  | .lload_n n => xjldr L n fun x => K (pc + len) L (vl x :: st) h
  | .aload n => xaldr L n fun x => K (pc + len) L (x :: st) h
  | .aload_n n => xaldr L n fun x => K (pc + len) L (x :: st) h
  | .istore n => xi1 st fun x r => K (pc + len) (xst1 L n (vi x)) r h
  | .istore_n n => xi1 st fun x r => K (pc + len) (xst1 L n (vi x)) r h
  | .lstore n => xj1 st fun x r => K (pc + len) (xst2 L n (vl x)) r h
  | .lstore_n n => xj1 st fun x r => K (pc + len) (xst2 L n (vl x)) r h
  | .astore n => xa1 st fun k q r => K (pc + len) (xst1 L n (vr k q)) r h
  | .astore_n n => xa1 st fun k q r => K (pc + len) (xst1 L n (vr k q)) r h
  | .iinc n _ => xildr L n fun x => K (pc + len) (xst1 L n (vi (x + xco v))) st h
  | .iadd => xi1 st fun y r => xi1 r fun x r => K (pc + len) L (vi (x + y) :: r) h
  | .isub => xi1 st fun y r => xi1 r fun x r => K (pc + len) L (vi (x - y) :: r) h
  | .imul => xi1 st fun y r => xi1 r fun x r => K (pc + len) L (vi (x * y) :: r) h
  | .iand => xi1 st fun y r => xi1 r fun x r => K (pc + len) L (vi (x &&& y) :: r) h
  | .ior => xi1 st fun y r => xi1 r fun x r => K (pc + len) L (vi (x ||| y) :: r) h
  | .ixor => xi1 st fun y r => xi1 r fun x r => K (pc + len) L (vi (x ^^^ y) :: r) h
  | .ishl => xi1 st fun y r => xi1 r fun x r => K (pc + len) L (vi (x <<< (y &&& 31)) :: r) h
  | .ishr => xi1 st fun y r => xi1 r fun x r => K (pc + len) L (vi (x >>> (y &&& 31)) :: r) h
  | .iushr => xi1 st fun y r => xi1 r fun x r => K (pc + len) L (vi ((x.toUInt32 >>> (y.toUInt32 &&& Int32.toUInt32 31)).toInt32) :: r) h
  | .ineg => xi1 st fun x r => K (pc + len) L (vi (-x) :: r) h
  | .idiv => xi1 st fun y r => xi1 r fun x r => ¬ y = 0 ∧ K (pc + len) L (vi (x / y) :: r) h
  | .irem => xi1 st fun y r => xi1 r fun x r => ¬ y = 0 ∧ K (pc + len) L (vi (x - x / y * y) :: r) h
  | .ladd => xj1 st fun y r => xj1 r fun x r => K (pc + len) L (vl (x + y) :: r) h
  | .lsub => xj1 st fun y r => xj1 r fun x r => K (pc + len) L (vl (x - y) :: r) h
  | .lmul => xj1 st fun y r => xj1 r fun x r => K (pc + len) L (vl (x * y) :: r) h
  | .land => xj1 st fun y r => xj1 r fun x r => K (pc + len) L (vl (x &&& y) :: r) h
  | .lor => xj1 st fun y r => xj1 r fun x r => K (pc + len) L (vl (x ||| y) :: r) h
  | .lxor => xj1 st fun y r => xj1 r fun x r => K (pc + len) L (vl (x ^^^ y) :: r) h
  | .lneg => xj1 st fun x r => K (pc + len) L (vl (-x) :: r) h
  | .ldiv => xj1 st fun y r => xj1 r fun x r => ¬ y = 0 ∧ K (pc + len) L (vl (x / y) :: r) h
  | .lrem => xj1 st fun y r => xj1 r fun x r => ¬ y = 0 ∧ K (pc + len) L (vl (x - x / y * y) :: r) h
  | .lshl => xi1 st fun y r => xj1 r fun x r => K (pc + len) L (vl (x <<< (y.toInt64 &&& 63)) :: r) h
  | .lshr => xi1 st fun y r => xj1 r fun x r => K (pc + len) L (vl (x >>> (y.toInt64 &&& 63)) :: r) h
  | .lushr => xi1 st fun y r => xj1 r fun x r => K (pc + len) L (vl ((x.toUInt64 >>> (y.toInt64.toUInt64 &&& Int64.toUInt64 63)).toInt64) :: r) h
  | .lcmp => xj1 st fun y r => xj1 r fun x r => K (pc + len) L (vi (lg_cmp x y) :: r) h
  | .i2l => xi1 st fun x r => K (pc + len) L (vl x.toInt64 :: r) h
  | .l2i => xj1 st fun x r => K (pc + len) L (vi x.toInt32 :: r) h
  | .i2b => xi1 st fun x r => K (pc + len) L (vi x.toInt8.toInt32 :: r) h
  | .i2c => xi1 st fun x r => K (pc + len) L (vi (x.toUInt32 % 65536).toInt32 :: r) h
  | .pop => xv1 st fun x r => bif Nat.beq (xcat x) 1 then K (pc + len) L r h else False
  | .dup => xv1 st fun x r => bif Nat.beq (xcat x) 1 then K (pc + len) L (x :: x :: r) h else False
  | .dup_x1 => xv1 st fun x r => xv1 r fun y r => bif Nat.beq (xcat x) 1 && Nat.beq (xcat y) 1 then K (pc + len) L (x :: y :: x :: r) h else False
  | .dup_x2 => xv1 st fun x r => xv1 r fun y r => xv1 r fun z r => bif Nat.beq (xcat x) 1 && (Nat.beq (xcat y) 1 && Nat.beq (xcat z) 1) then K (pc + len) L (x :: y :: z :: x :: r) h else False
  | .dup2 => xv1 st fun x r => bif Nat.beq (xcat x) 2 then K (pc + len) L (x :: x :: r) h else xv1 r fun y r => bif Nat.beq (xcat x) 1 && Nat.beq (xcat y) 1 then K (pc + len) L (x :: y :: x :: y :: r) h else False
  | .pop2 => xv1 st fun x r => bif Nat.beq (xcat x) 2 then K (pc + len) L r h else xv1 r fun y r => bif Nat.beq (xcat x) 1 && Nat.beq (xcat y) 1 then K (pc + len) L r h else False
  | .dup2_x1 => xv1 st fun x r => xv1 r fun y r => bif Nat.beq (xcat x) 2 && Nat.beq (xcat y) 1 then K (pc + len) L (x :: y :: x :: r) h else False
  | .dup2_x2 => xv1 st fun x r => xv1 r fun y r => xv1 r fun z r => bif Nat.beq (xcat x) 2 && (Nat.beq (xcat y) 1 && Nat.beq (xcat z) 1) then K (pc + len) L (x :: y :: z :: x :: r) h else False
  | .goto _ => K a L st h
  | .ifCond cond _ => xi1 st fun x r => xif cond x (K a L r h) (K (pc + len) L r h)
  | .if_icmp cond _ => xi1 st fun y r => xi1 r fun x r => xifc cond x y (K a L r h) (K (pc + len) L r h)
  | .tableswitch dflt lo hi offs => xi1 st fun x r => xsw (xtab x.toInt lo hi offs dflt) fun off => K ((pc : Int) + off).toNat L r h
  | .lookupswitch dflt ps => xi1 st fun x r => K ((pc : Int) + Op.lookupswitch.offset ps.toList dflt x.toInt).toNat L r h
  | .getfield _ => xa1 st fun k q r => bif Nat.beq k (xci v) then (match a with
      | 0 => K (pc + len) L (vi (xI h q b) :: r) h
      | 1 => K (pc + len) L (vl (xJ h q b) :: r) h
      | kk + 2 => xrd h (xR h q b) kk fun w => K (pc + len) L (w :: r) h) else False
  | .putfield _ => (match a with
      | 0 => xi1 st fun x r => xa1 r fun k q r => bif Nat.beq k (xci v) then K (pc + len) L r (xuI h q b x) else False
      | 1 => xj1 st fun x r => xa1 r fun k q r => bif Nat.beq k (xci v) then K (pc + len) L r (xuJ h q b x) else False
      | 2 => xi1 st fun x r => xa1 r fun k q r => bif Nat.beq k (xci v) then (x = 0 ∨ x = 1) ∧ K (pc + len) L r (xuI h q b x) else False
      | kk + 3 => xa1 st fun k1 q1 r => xa1 r fun k q r => bif Nat.beq k (xci v) && Nat.beq k1 kk then K (pc + len) L r (xuR h q b (q1 + 1)) else False)
  | .getstatic _ => K (pc + len) L (v :: st) h
  | .arraylength => xa1 st fun k _ r => bif Nat.beq k 50 then K (pc + len) L (vi (Int32.ofNat X.2.1) :: r) h else False
  | .iaload => xi1 st fun x r => xa1 r fun k q r => bif Nat.beq k 50 then vp_in x X.2.1 ∧ K (pc + len) L (vi (X.1 x.toNatClampNeg) :: r) h else
      bif Nat.beq k 40 then vp_in x (xK h q).2 ∧ K (pc + len) L (vi (xI h q x.toNatClampNeg) :: r) h else False
  | .laload => xi1 st fun x r => xa1 r fun k q r =>
      bif Nat.beq k 41 then vp_in x (xK h q).2 ∧ K (pc + len) L (vl (xJ h q x.toNatClampNeg) :: r) h else
      bif Nat.beq k 51 then vp_in x (X.2.2.1 51).length ∧ K (pc + len) L (vl ((X.2.2.1 51).getD x.toNatClampNeg 0) :: r) h else False
  | .aaload => xi1 st fun x r => xa1 r fun k q r => bif xoa k then vp_in x (xK h q).2 ∧ xrd h (xR h q x.toNatClampNeg) (k - 60) fun w => K (pc + len) L (w :: r) h else False
  | .iastore => xi1 st fun y r => xi1 r fun x r => xa1 r fun k q r => bif Nat.beq k 40 then vp_in x (xK h q).2 ∧ K (pc + len) L r (xuI h q x.toNatClampNeg y) else False
  | .lastore => xj1 st fun y r => xi1 r fun x r => xa1 r fun k q r => bif Nat.beq k 41 then vp_in x (xK h q).2 ∧ K (pc + len) L r (xuJ h q x.toNatClampNeg y) else False
  | .aastore => xa1 st fun k1 q1 r => xi1 r fun x r => xa1 r fun k q r => bif Nat.beq k (60 + k1) && xoa k then vp_in x (xK h q).2 ∧ K (pc + len) L r (xuR h q x.toNatClampNeg (q1 + 1)) else False
  | .newarray _ => xi1 st fun x r => ¬ x < 0 ∧ x.toNatClampNeg ≤ 10000 ∧ K (pc + len) L (vr a (xN h) :: r) (xnew h a x.toNatClampNeg)
  | .anewarray _ => xi1 st fun x r => ¬ x < 0 ∧ x.toNatClampNeg ≤ 10000 ∧ K (pc + len) L (vr a (xN h) :: r) (xnew h a x.toNatClampNeg)
  | .new _ => bif Nat.blt a 40 then K (pc + len) L (vr a (xN h) :: st) (xnew h a b) else st = [] ∧ o = .inr (a - 2000) ∧ h' = xgone h b
  | .invokestatic _ => bif Nat.ble 1000 a then bif Nat.ble (xwd st) 12 then xlib a st fun r => K (pc + len) L r h else False else xcall C hd pc len a b L st h K
  | .invokevirtual _ => xrecv st b (xci v) (xcall C hd pc len a b L st h K)
  | .invokespecial _ => bif Nat.beq a 999 then xa1 st fun _ _ r => bif Nat.ble (xwd r) 8 then K (pc + len) L r h else False else xrecv st b (xci v) (xcall C hd pc len a b L st h K)
  | .return_ => st = [] ∧ o = .inl none ∧ h' = h
  | .ireturn => (match a with
      | 0 => xi1 st fun x r => r = [] ∧ o = .inl (some (vi x)) ∧ h' = h
      | _ => xi1 st fun x r => r = [] ∧ (x = 0 ∨ x = 1) ∧ o = .inl (some (vi x)) ∧ h' = h)
  | .lreturn => xj1 st fun x r => r = [] ∧ o = .inl (some (vl x)) ∧ h' = h
  | .areturn => xa1 st fun k q r => r = [] ∧ o = .inl (some (vr k q)) ∧ h' = h
  | _ => False
/-- a method: its rows, its handlers, the size of its locals -/
abbrev xP : Type := (Nat → Option xT) × xB × Nat
def xC (X : xX) (d : Nat) (C : Nat → List xV → xH → xO → xH → Prop) (P : xP) : Nat → Nat → xL → List xV → xH → xO → xH → Prop
  | 0 => fun _ _ _ _ _ _ => False
  | n + 1 => fun pc L st h o h' => match P.1 pc with
    | none => False
    | some q => xDo X d C P.2.1 q.1 q.2.1 q.2.2.1 q.2.2.2.1 q.2.2.2.2 pc L st h o h' (fun pc L st h => xC X d C P n pc L st h o h')
/-- a method, by its number, at a depth: it comes from its arguments and a heap to an end and a heap -/
def xE (X : xX) (T : Nat → xP) : Nat → Nat → List xV → xH → xO → xH → Prop
  | 0 => fun _ _ _ _ _ => False
  | d + 1 => fun y args h o h' => xwd args ≤ (T y).2.2 ∧ ∃ n, xC X d (xE X T d) (T y) n 0 (xarg 0 args) [] h o h'
def xA (X : xX) (d : Nat) (C : Nat → List xV → xH → xO → xH → Prop) (P : xP) (pc : Nat) (L : xL) (st : List xV) (h : xH) (o : xO) (h' : xH) : Prop := ∃ n, xC X d C P n pc L st h o h'
theorem xA.seg {X : xX} {d : Nat} {C : Nat → List xV → xH → xO → xH → Prop} {P : xP} {pc pc1 : Nat} {L L1 : xL} {st st1 : List xV} {h h1 : xH} {o : xO} {h' : xH} (k : Nat)
    (he : ∀ n, xC X d C P (n + k) pc L st h o h' = xC X d C P n pc1 L1 st1 h1 o h') (g : xA X d C P pc1 L1 st1 h1 o h') : xA X d C P pc L st h o h' := by
  obtain ⟨n, hn⟩ := g
  exact ⟨n + k, by rw [he]; exact hn⟩
theorem xA.br {X : xX} {d : Nat} {C : Nat → List xV → xH → xO → xH → Prop} {P : xP} {pc pc1 pc2 : Nat} {L L1 L2 : xL} {st st1 st2 : List xV} {h h1 h2 : xH} {o : xO} {h' : xH} (k : Nat) {c : Prop}
    (he : ∀ n, xC X d C P (n + k) pc L st h o h' = xbr c (xC X d C P n pc1 L1 st1 h1 o h') (xC X d C P n pc2 L2 st2 h2 o h')) (g1 : c → xA X d C P pc1 L1 st1 h1 o h') (g2 : ¬ c → xA X d C P pc2 L2 st2 h2 o h') : xA X d C P pc L st h o h' := by
  by_cases hc : c
  · obtain ⟨n, hn⟩ := g1 hc
    exact ⟨n + k, by rw [he]; exact ⟨fun _ => hn, fun q => absurd hc q⟩⟩
  · obtain ⟨n, hn⟩ := g2 hc
    exact ⟨n + k, by rw [he]; exact ⟨fun q => absurd q hc, fun _ => hn⟩⟩
theorem xA.side {X : xX} {d : Nat} {C : Nat → List xV → xH → xO → xH → Prop} {P : xP} {pc pc1 : Nat} {L L1 : xL} {st st1 : List xV} {h h1 : xH} {o : xO} {h' : xH} (k : Nat) {c : Prop}
    (he : ∀ n, xC X d C P (n + k) pc L st h o h' = (c ∧ xC X d C P n pc1 L1 st1 h1 o h')) (hc : c) (g : xA X d C P pc1 L1 st1 h1 o h') : xA X d C P pc L st h o h' := by
  obtain ⟨n, hn⟩ := g
  exact ⟨n + k, by rw [he]; exact ⟨hc, hn⟩⟩
theorem xA.call {X : xX} {d : Nat} {C : Nat → List xV → xH → xO → xH → Prop} {P : xP} {pc y : Nat} {L : xL} {st args rest : List xV} {h h1 : xH} {o o1 : xO} {h' : xH} (k : Nat) {pc0 len : Nat} {L0 : xL} {h0 : xH}
    (he : ∀ n, xC X d C P (n + k) pc L st h o h' = ∃ (o1 : xO) (h1 : xH), C y args h0 o1 h1 ∧ xback P.2.1 pc0 len L0 rest o1 h1 (fun pc L st h => xC X d C P n pc L st h o h')) (hc : C y args h0 o1 h1) (g : ∃ n, xback P.2.1 pc0 len L0 rest o1 h1 (fun pc L st h => xC X d C P n pc L st h o h')) : xA X d C P pc L st h o h' := by
  obtain ⟨n, hn⟩ := g
  exact ⟨n + k, by rw [he]; exact ⟨o1, h1, hc, hn⟩⟩
