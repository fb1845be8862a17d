/-! WHAT A KEY DOES -/
def aMv (D : aD) (i j : Nat) : aD := sN D i (dN D j)
def aEnd (D : aD) : aD := bif dOn D then sLi (sOn D false) true else D
def aRaise (D : aD) : aD := aMv (aMv (aMv D 13 12) 12 11) 11 10
def aBring (mdl : Int) (p : Int × Int) (D : aD) : aD := if mdl = 1 then sN (sP D 2) 10 p else bif dLi D then sN (aRaise D) 10 p else sN D 10 p
def aOne : Int × Int := (100000000000, 0)
def isDg (k : Int) : Bool := decide (48 ≤ k) && decide (k ≤ 57)
def isBg (k : Int) : Bool := isDg k || (decide (k = 46) || decide (k = 69))
def isOp (k : Int) : Bool := decide (k = 43) || (decide (k = 45) || (decide (k = 42) || decide (k = 47)))
def isRk (k : Int) : Bool := isOp k || (decide (k = 40) || (decide (k = 41) || decide (k = 61)))
def aCl (k : Int) : Bool := decide (k = 67) || decide (k = 66)
def aNumD (mdl k : Int) (D : aD) : aD := if 107 ≤ k then aMv D (k - 107).toNat 10 else if 97 ≤ k then aBring mdl (dN D (k - 97).toNat) D else bif aCl k then sN D 10 (0, 0) else sN D 10 (neg2 (dN D 10))
def aNum (mdl k : Int) (D : aD) : aD := if mdl = 0 then sLi (aNumD mdl k (aEnd D)) (!(aCl k)) else if 107 ≤ k then aNumD mdl k (aEnd D) else sP (aNumD mdl k (aEnd D)) 2
noncomputable def aFnq (k : Int) (D : aD) : Int × (Int × Int) := if k = 81 then aRoot (dN D 10) else if k = 83 then aOp 42 (dN D 10) (dN D 10) else aOp 47 aOne (dN D 10)
def aFnD (mdl : Int) (p : Int × Int) (D : aD) : aD := if mdl = 0 then sN (sLi (aMv (aEnd D) 14 10) true) 10 p else sN (sP (aEnd D) 2) 10 p
noncomputable def aFn (mdl k : Int) (D : aD) : Int × aD := if (aFnq k D).1 = 0 then (0, aFnD mdl (aFnq k D).2 D) else ((aFnq k D).1, D)
def aOpD (p : Int × Int) (D : aD) : aD := sLi (aMv (aMv (sN (aMv (aEnd D) 14 10) 10 p) 11 12) 12 13) true
noncomputable def aOper (k : Int) (D : aD) : Int × aD := if (aOp k (dN D 11) (dN D 10)).1 = 0 then (0, aOpD (aOp k (dN D 11) (dN D 10)).2 D) else ((aOp k (dN D 11) (dN D 10)).1, D)
def aStack (k : Int) (D : aD) : Int × aD :=
  if k = 61 then (0, sLi (aRaise (aEnd D)) false)
  else if k = 76 then (0, sLi (aBring 0 (dN (aEnd D) 14) (aEnd D)) true)
  else if k = 87 then (0, sLi (sN (aMv (aEnd D) 10 11) 11 (dN (aEnd D) 10)) true)
  else if k = 68 then (0, sLi (sN (aMv (aMv (aMv (aEnd D) 10 11) 11 12) 12 13) 13 (dN (aEnd D) 10)) true)
  else (1, D)
/-! formulas -/
def tgt (v : Int) : Int := if v = 40 then 0 else if v = 43 then 1 else if v = 45 then 1 else 2
def aLeft (T : Nat → Int) (least : Int) : Nat → Nat
  | 0 => 0
  | n + 1 => if least ≤ tgt (T n) then aLeft T least n else n + 1
def aBr (T : Nat → Int) : Nat → Bool
  | 0 => false
  | n + 1 => aBr T n || decide (T n = 40)
def aLbR (k : Int) (T : Nat → Int) (n : Nat) : Nat := if k = 40 then n else aLeft T (if k = 61 then 0 else if k = 41 then 1 else tgt k) n
def aOutR (k P : Int) (T : Nat → Int) (n : Nat) : Bool := if k = 40 then decide (P = 2) else if k = 41 then !(decide (P = 2) && aBr T n) else decide (P = 1)
def aLb (k : Int) (D : aD) : Nat := aLbR k (dT D) (dS D)
def aOut (k : Int) (D : aD) : Bool := aOutR k (dP D) (dT D) (dS D)
noncomputable def aFold (D : aD) (l : Nat) : Nat → Int × Int → Int × (Int × Int)
  | 0, a => (0, a)
  | n + 1, a => if n < l then (0, a) else if dT D n = 40 then aFold D l n a else if (aOp (dT D n) (dN D (15 + n)) a).1 = 0 then aFold D l n (aOp (dT D n) (dN D (15 + n)) a).2 else aOp (dT D n) (dN D (15 + n)) a
def aFollow (k : Int) (l : Nat) (p : Int × Int) (D : aD) : aD := if k = 61 then sP (sSz (sN (aEnd D) 10 p) 0) 0 else if k = 41 then sP (sSz (sN (aEnd D) 10 p) (l - 1)) 2 else sP (sSz (sT (sN (sN (aEnd D) 10 p) (15 + l) p) l k) (l + 1)) 1
noncomputable def aForm (k : Int) (D : aD) : Int × aD :=
  if aOut k D = true then (5, D) else if 8 ≤ aLb k D ∧ (k = 40 ∨ isOp k = true) then (6, D)
  else if (aFold D (aLb k D) (dS D) (dN D 10)).1 = 0 then (0, aFollow k (aLb k D) (aFold D (aLb k D) (dS D) (dN D 10)).2 D) else ((aFold D (aLb k D) (dS D) (dN D 10)).1, D)
/-! an entry -/
def eNew : aE := (false, (0, fun _ => 0), -1, false, false, (0, fun _ => 0))
def eDigit (e : aE) (d : Nat) : aE := bif eHp e then (if ePl e < 2 then (eMi e, (eL e, eDg e), ePt e, eHp e, ePm e, (ePl e + 1, updN (ePd e) (ePl e) d)) else e) else (if eL e < 12 then (eMi e, (eL e + 1, updN (eDg e) (eL e) d), ePt e, eHp e, ePm e, (ePl e, ePd e)) else e)
def ePoint (e : aE) : aE := if ePt e = -1 ∧ eHp e = false then (eMi e, (eL e, eDg e), (eL e : Int), eHp e, ePm e, (ePl e, ePd e)) else e
def ePart (e : aE) : aE := bif eHp e then e else if eL e = 0 then (eMi e, (1, fun _ => 1), -1, true, ePm e, (ePl e, ePd e)) else (eMi e, (eL e, eDg e), ePt e, true, ePm e, (ePl e, ePd e))
def eSign (e : aE) : aE := bif eHp e then (eMi e, (eL e, eDg e), ePt e, eHp e, !(ePm e), (ePl e, ePd e)) else (!(eMi e), (eL e, eDg e), ePt e, eHp e, ePm e, (ePl e, ePd e))
def eBack (e : aE) : aE := bif eHp e then (if ePl e = 0 then (eMi e, (eL e, eDg e), ePt e, false, false, (0, ePd e)) else (eMi e, (eL e, eDg e), ePt e, eHp e, ePm e, (ePl e - 1, ePd e))) else if ePt e = eL e then (eMi e, (eL e, eDg e), -1, eHp e, ePm e, (ePl e, ePd e)) else (eMi e, (eL e - 1, eDg e), ePt e, eHp e, ePm e, (ePl e, ePd e))
def eTake (e : aE) (k : Int) : aE := bif isDg k then eDigit e (k - 48).toNat else if k = 46 then ePoint e else if k = 69 then ePart e else if k = 78 then eSign e else eBack e
def eLives (e : aE) : Bool := eHp e || (decide (0 < eL e) || decide (0 ≤ ePt e))
def eUnit (e : aE) : Int := (bif ePm e then -((dV (ePd e) 0 (ePl e) : Nat) : Int) else ((dV (ePd e) 0 (ePl e) : Nat) : Int)) - (if ePt e = -1 then 0 else (eL e : Int) - ePt e)
noncomputable def aRead (e : aE) : Int × (Int × Int) := rs (aFin (dV (eDg e) 0 (eL e)) false (eUnit e) (eMi e))
def eIn (D : aD) : aE := bif dOn D then dE D else eNew
noncomputable def aEnt (mdl k : Int) (D : aD) : Int × aD :=
  bif eLives (eTake (eIn D) k) then
    if (aRead (eTake (eIn D) k)).1 = 0 then (0, bif dOn D then sN (sE D (eTake (eIn D) k)) 10 (aRead (eTake (eIn D) k)).2 else aBring mdl (aRead (eTake (eIn D) k)).2 (sOn (sE D (eTake (eIn D) k)) true))
    else ((aRead (eTake (eIn D) k)).1, D)
  else (0, sLi (sN (sOn D false) 10 (0, 0)) false)
noncomputable def aKey (mdl k : Int) (D : aD) : Int × aD :=
  if isBg k = true ∨ (dOn D = true ∧ (k = 78 ∨ k = 66)) then aEnt mdl k D
  else if k = 81 ∨ k = 83 ∨ k = 73 then aFn mdl k D
  else if k = 78 ∨ k = 66 ∨ k = 67 ∨ (97 ≤ k ∧ k ≤ 116) then (0, aNum mdl k D)
  else if mdl = 1 then (if isRk k = true then aForm k D else (1, D))
  else if isOp k = true then aOper k D else aStack k D
/-! they keep a desk a desk -/
theorem vD_sN {D : aD} {i : Nat} {p : Int × Int} (h : vD D) (hp : vN p) : vD (sN D i p) := by
  obtain ⟨h1, h2, h3, h4, h5, h6⟩ := h
  refine ⟨fun j hj => ?_, fun j hj h40 => ?_, h3, h4, h5, h6⟩
  · show vN (if j = i then p else D.1 j)
    split
    · exact hp
    · exact h1 j hj
  · show vN (if 15 + j = i then p else D.1 (15 + j))
    split
    · exact hp
    · exact h2 j hj h40
theorem vD_sLi {D : aD} {b : Bool} (h : vD D) : vD (sLi D b) := h
theorem vD_sP {D : aD} {v : Int} (h : vD D) (hv : 0 ≤ v ∧ v ≤ 2) : vD (sP D v) := ⟨h.1, h.2.1, h.2.2.1, h.2.2.2.1, hv, h.2.2.2.2.2⟩
theorem vD_shut {D : aD} (h : vD D) : vD (sOn D false) := ⟨h.1, h.2.1, h.2.2.1, h.2.2.2.1, h.2.2.2.2.1, fun q => by cases q⟩
theorem vD_mv {D : aD} {i j : Nat} (h : vD D) (hj : j < 15) : vD (aMv D i j) := vD_sN h (h.1 j hj)
theorem vD_end {D : aD} (h : vD D) : vD (aEnd D) := by
  unfold aEnd
  cases dOn D
  · exact h
  · exact vD_sLi (vD_shut h)
theorem vD_raise {D : aD} (h : vD D) : vD (aRaise D) := vD_mv (vD_mv (vD_mv h (by omega)) (by omega)) (by omega)
theorem vD_bring {D : aD} {mdl : Int} {p : Int × Int} (h : vD D) (hp : vN p) : vD (aBring mdl p D) := by
  unfold aBring
  split
  · exact vD_sN (vD_sP h (by omega)) hp
  · cases dLi D
    · exact vD_sN h hp
    · exact vD_sN (vD_raise h) hp
theorem vN_0 : vN (0, 0) := Or.inl ⟨rfl, rfl⟩
theorem vD_numD {D : aD} {mdl k : Int} (he : vD D) : vD (aNumD mdl k D) := by
  unfold aNumD
  split
  · exact vD_mv he (by omega)
  · rename_i g0
    split
    · exact vD_bring he (he.1 _ (by omega))
    · cases aCl k
      · exact vD_sN he (neg2_v (he.1 10 (by omega)))
      · exact vD_sN he vN_0
theorem vD_num {D : aD} {mdl k : Int} (h : vD D) : vD (aNum mdl k D) := by
  have he := vD_numD (mdl := mdl) (k := k) (vD_end h)
  unfold aNum
  split
  · exact vD_sLi he
  · split
    · exact he
    · exact vD_sP he (by omega)
theorem vN_1 : vN aOne := Or.inr ⟨by decide, by decide, by decide, by decide⟩
theorem aFnq_v {k : Int} {D : aD} (h : vD D) : vN (aFnq k D).2 ∧ 0 ≤ (aFnq k D).1 ∧ (aFnq k D).1 ≤ 9 := by
  unfold aFnq
  split
  · have := aRoot_v (dN D 10); exact ⟨this.1, by omega⟩
  · split
    · exact aOp_v ..
    · exact aOp_v ..
theorem vD_fn {D : aD} {mdl k : Int} (h : vD D) : vD (aFn mdl k D).2 := by
  have he := vD_end h
  have hq := aFnq_v (k := k) h
  unfold aFn
  split
  · unfold aFnD
    dsimp only
    split
    · exact vD_sN (vD_sLi (vD_mv he (by omega))) hq.1
    · exact vD_sN (vD_sP he (by omega)) hq.1
  · exact h
theorem vD_oper {D : aD} {k : Int} (h : vD D) : vD (aOper k D).2 := by
  have he := vD_end h
  have hq := aOp_v k (dN D 11) (dN D 10)
  unfold aOper
  split
  · exact vD_sLi (vD_mv (vD_mv (vD_sN (vD_mv he (by omega)) hq.1) (by omega)) (by omega))
  · exact h
theorem vD_stack {D : aD} {k : Int} (h : vD D) : vD (aStack k D).2 := by
  have he := vD_end h
  unfold aStack
  split
  · exact vD_sLi (vD_raise he)
  · split
    · exact vD_sLi (vD_bring he (he.1 14 (by omega)))
    · split
      · exact vD_sLi (vD_sN (vD_mv he (by omega)) (he.1 10 (by omega)))
      · split
        · exact vD_sLi (vD_sN (vD_mv (vD_mv (vD_mv he (by omega)) (by omega)) (by omega)) (he.1 10 (by omega)))
        · exact h
theorem aLeft_le (T : Nat → Int) (least : Int) (n : Nat) : aLeft T least n ≤ n := by
  induction n with
  | zero => exact Nat.le_refl 0
  | succ n ih => unfold aLeft; split <;> omega
theorem aLbR_le (k : Int) (T : Nat → Int) (n : Nat) : aLbR k T n ≤ n := by
  unfold aLbR
  split
  · exact Nat.le_refl _
  · exact aLeft_le ..
theorem aLb_le (k : Int) (D : aD) : aLb k D ≤ dS D := aLbR_le ..
theorem aFold_v {D : aD} {l : Nat} (h : vD D) : ∀ (n : Nat) (a : Int × Int), n ≤ dS D → vN a → vN (aFold D l n a).2 ∧ 0 ≤ (aFold D l n a).1 ∧ (aFold D l n a).1 ≤ 9 := by
  intro n
  induction n with
  | zero => intro a _ ha; exact ⟨ha, by show (0 : Int) ≤ 0; omega, by show (0 : Int) ≤ 9; omega⟩
  | succ n ih =>
    intro a hn ha
    unfold aFold
    split
    · exact ⟨ha, by show (0 : Int) ≤ 0; omega, by show (0 : Int) ≤ 9; omega⟩
    · split
      · exact ih a (by omega) ha
      · split
        · exact ih _ (by omega) (aOp_v ..).1
        · exact aOp_v ..
theorem dT_end (D : aD) : dT (aEnd D) = dT D := by unfold aEnd; cases dOn D <;> rfl
theorem dS_end (D : aD) : dS (aEnd D) = dS D := by unfold aEnd; cases dOn D <;> rfl
theorem dN_end (D : aD) : dN (aEnd D) = dN D := by unfold aEnd; cases dOn D <;> rfl
theorem vD_form {D : aD} {k : Int} (h : vD D) (hk : isRk k = true) : vD (aForm k D).2 := by
  have he := vD_end h
  have hq := aFold_v (l := aLb k D) h (dS D) (dN D 10) (Nat.le_refl _) (h.1 10 (by omega))
  have hl := aLb_le k D
  have h8 := h.2.2.2.1
  have hT := dT_end D
  have hS := dS_end D
  unfold aForm
  split
  · exact h
  · rename_i h5
    split
    · exact h
    · rename_i h6
      split
      · unfold aFollow
        dsimp only
        split
        · have := vD_sN (i := 10) he hq.1
          exact ⟨this.1, fun i hi => absurd hi (by show ¬ i < 0; omega), fun i hi => absurd hi (by show ¬ i < 0; omega), by show 0 ≤ 8; omega, by show (0 : Int) ≤ 0 ∧ (0 : Int) ≤ 2; omega, this.2.2.2.2.2⟩
        · split
          · have := vD_sN (i := 10) he hq.1
            have hS' : dS (sN (aEnd D) 10 (aFold D (aLb k D) (dS D) (dN D 10)).2) = dS D := hS
            refine ⟨this.1, fun i hi => this.2.1 i ?_, fun i hi => this.2.2.1 i ?_, ?_, by show (0 : Int) ≤ 2 ∧ (2 : Int) ≤ 2; omega, this.2.2.2.2.2⟩
            · have : i < aLb k D - 1 := hi
              rw [hS']; omega
            · have : i < aLb k D - 1 := hi
              rw [hS']; omega
            · show aLb k D - 1 ≤ 8; omega
          · rename_i g1 g2
            have hk' : k = 40 ∨ isOp k = true := by
              unfold isRk at hk
              simp only [Bool.or_eq_true, decide_eq_true_eq] at hk
              rcases hk with w | w | w | w
              · exact Or.inr w
              · exact Or.inl w
              · exact absurd w g2
              · exact absurd w g1
            have hkk : isK k := by
              unfold isOp at hk'
              simp only [Bool.or_eq_true, decide_eq_true_eq] at hk'
              unfold isK; omega
            have hl8 : aLb k D < 8 := by
              by_cases q : aLb k D < 8
              · exact q
              · exact absurd ⟨by omega, hk'⟩ h6
            have hb := vD_sN (i := 15 + aLb k D) (vD_sN (i := 10) he hq.1) hq.1
            refine ⟨hb.1, fun i hi h40 => ?_, fun i hi => ?_, by show aLb k D + 1 ≤ 8; omega, by show (0 : Int) ≤ 1 ∧ (1 : Int) ≤ 2; omega, hb.2.2.2.2.2⟩
            · have hi' : i < aLb k D + 1 := hi
              by_cases q : i = aLb k D
              · subst q
                show vN (if 15 + aLb k D = 15 + aLb k D then _ else _)
                rw [if_pos rfl]; exact hq.1
              · refine hb.2.1 i (by show i < dS (aEnd D); rw [hS]; omega) ?_
                intro w
                apply h40
                show (if i = aLb k D then k else (aEnd D).2.1 i) = 40
                rw [if_neg q]; exact w
            · have hi' : i < aLb k D + 1 := hi
              show isK (if i = aLb k D then k else (aEnd D).2.1 i)
              by_cases q : i = aLb k D
              · rw [if_pos q]; exact hkk
              · rw [if_neg q]; exact hb.2.2.1 i (by show i < dS (aEnd D); rw [hS]; omega)
      · exact h
