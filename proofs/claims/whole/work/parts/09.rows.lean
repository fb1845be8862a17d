/-! WHAT A TABLE'S ROWS MUST SAY. tb: the claim's words; a method: name, bytes, size of its locals, what it returns, frames and words that it may nest, how it is called (0 static, 1 constructor, 2 with a receiver), its parameters -/
abbrev xMi : Type := MethodName × ByteArray × Nat × Option FieldType × Nat × Nat × Nat × Nat
def xhas (tb : List Cond) (p : Nat) (w : Cond) : Bool := decide (tb[p]? = some w) && goodWord w
def xhasN (tb : List Cond) (p : Nat) (w : Cond) : Bool := decide (tb[p]? = some w)
def xnest : Cond → Bool
  | .fieldLinkNest _ _ _ _ _ _ => true
  | .methodLinkNest _ _ _ _ => true
  | _ => false
def xcp : xV → Nat
  | .inr (some q) => q.2
  | _ => 0
/-- a field's row: k-th field of the kind ci, its link at the place p -/
def xfok (cl : List vw_C) (tb : List Cond) (own : String) (idx ci k p : Nat) : Bool := decide (ci < 40) && (match cl[ci]? with
  | some r => decide (k < r.2.2) && (decide ((r.2.1 k).1 = r.1) && xhas tb p (.fieldLink own idx r.1 (r.2.1 k).2.1 (r.2.1 k).2.2.1))
  | none => false)
def xfin (cl : List vw_C) (name own : String) (ci k : Nat) : Bool := match cl[ci]? with
  | some r => !(r.2.1 k).2.2.2 || (decide (name = "<init>") && decide (r.1 = own))
  | none => false
/-- a call's row: the callee z, its link at the place p, the host of a nest -/
def xcok (tb : List Cond) (host : String) (me it : xMi) (idx na p kind : Nat) : Bool :=
  (xhas tb p (.methodLink me.1.cls idx it.1) || xhasN tb p (.methodLinkNest me.1.cls idx it.1 host)) && (decide (it.2.2.2.2.2.2.1 = kind) && (decide (it.2.2.2.2.2.2.2 + (bif Nat.beq kind 0 then 0 else 1) = na) && (decide (it.2.2.2.2.1 + 1 ≤ me.2.2.2.2.1) && decide (8 + (it.2.2.1 + 11) + it.2.2.2.2.2.1 ≤ me.2.2.2.2.2.1))))
def xatk : ArrayType → Nat
  | .int => 40
  | .long => 41
  | _ => 0
def xlibn (y : Nat) : MethodName := match y with
  | 1000 => Lib.MathLoose.abs_long.x
  | 1001 => Lib.Math.abs.name
  | 1002 => Lib.Math.min.name
  | 1003 => Lib.Math.max.name
  | _ => ⟨"", "", ""⟩
def xok2 (cl : List vw_C) (ft : Nat → Nat → FieldType) (tb : List Cond) (host : String) (sT : String × String × String) (MI : Nat → xMi) (NM : Nat) (y : Nat) (i : Instr) (len a b : Nat) (v : xV) : Bool := match i with
  | .ldc2_w idx => decide (len = 3) && (match v with
    | .inl (.inr x) => xhas tb a (.constantLong (MI y).1.cls idx x)
    | _ => false)
  | .getfield idx => decide (len = 3) && (xfok cl tb (MI y).1.cls idx (xci v) b (xcp v) && (match a with
    | 0 => decide (xft (ft (xci v) b) = 0) || decide (xft (ft (xci v) b) = 2)
    | 1 => decide (xft (ft (xci v) b) = 1)
    | kk + 2 => decide (xft (ft (xci v) b) = 3) && (decide (kk < 50) || decide (60 ≤ kk))))
  | .putfield idx => decide (len = 3) && (xfok cl tb (MI y).1.cls idx (xci v) b (xcp v) && (xfin cl (MI y).1.name (MI y).1.cls (xci v) b && (match a with
    | 0 => decide (ft (xci v) b = .int)
    | 1 => decide (ft (xci v) b = .long)
    | 2 => decide (ft (xci v) b = .boolean)
    | kk + 3 => decide (xft (ft (xci v) b) = 3) && fits (ft (xci v) b) (.ref 0) && (decide (kk < 50) || decide (60 ≤ kk)))))
  | .getstatic idx => decide (len = 3) && (decide (v = vr 51 0) && (xhas tb a (.fieldLink (MI y).1.cls idx sT.1 sT.2.1 sT.2.2) || xhasN tb a (.fieldLinkNest (MI y).1.cls idx sT.1 sT.2.1 sT.2.2 host)))
  | .arraylength => decide (len = 1)
  | .iaload => decide (len = 1)
  | .laload => decide (len = 1)
  | .aaload => decide (len = 1)
  | .iastore => decide (len = 1)
  | .lastore => decide (len = 1)
  | .aastore => decide (len = 1)
  | .newarray at9 => decide (len = 2) && (decide (xatk at9 = a) && decide (a ≠ 0))
  | .anewarray idx => decide (len = 3) && (decide (xoa a = true) && (match cl[a - 60]? with
    | some r => xhas tb b (.classLink (MI y).1.cls idx r.1)
    | none => false))
  | .new idx => decide (len = 3) && (decide (a < 40) && (match cl[a]? with
    | some r => decide (r.2.2 = b) && xhas tb (xcp v) (.classLink (MI y).1.cls idx r.1)
    | none => false))
  | .invokestatic idx => decide (len = 3) && (bif Nat.ble 1000 a then xhas tb (xcp v) (.methodLink (MI y).1.cls idx (xlibn a)) && (decide (1 ≤ (MI y).2.2.2.2.1) && decide (27 ≤ (MI y).2.2.2.2.2.1)) else decide (a < NM) && xcok tb host (MI y) (MI a) idx b (xcp v) 0)
  | .invokevirtual idx => decide (len = 3) && (decide (a < NM) && (xcok tb host (MI y) (MI a) idx b (xcp v) 2 && (decide (xci v < 40) && (match cl[xci v]? with
    | some r => decide (r.1 = (MI a).1.cls)
    | none => false))))
  | .invokespecial idx => decide (len = 3) && (bif Nat.beq a 999 then xhas tb (xcp v) (.methodLink (MI y).1.cls idx objectInit) && (decide (1 ≤ (MI y).2.2.2.2.1) && decide (20 ≤ (MI y).2.2.2.2.2.1)) else decide (a < NM) && xcok tb host (MI y) (MI a) idx b (xcp v) 1)
  | .return_ => decide (len = 1) && decide ((MI y).2.2.2.1 = none)
  | .ireturn => decide (len = 1) && (match a with
    | 0 => decide ((MI y).2.2.2.1 = some .int)
    | _ => decide ((MI y).2.2.2.1 = some .boolean))
  | .lreturn => decide (len = 1) && decide ((MI y).2.2.2.1 = some .long)
  | .areturn => decide (len = 1) && (match (MI y).2.2.2.1 with
    | some (.object _) => true
    | _ => false)
  | _ => false
def xok3 (pc : Nat) (i : Instr) : Bool := match i with
  | .tableswitch dflt _ _ offs => decide (0 ≤ (pc : Int) + dflt) && offs.toList.all (fun off => decide (0 ≤ (pc : Int) + off))
  | _ => false
