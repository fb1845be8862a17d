/-! THE LINE: what is written -/
def aDg (W : Nat) : Nat → Nat × (Nat → Int) → Nat × (Nat → Int)
  | 0, o => o
  | c + 1, o => aDg W c (pu o ((48 + W / 10 ^ c % 10 : Nat) : Int))
def aPt (W f e : Nat) (o : Nat × (Nat → Int)) : Nat × (Nat → Int) := aDg (W % 10 ^ e) e (pu (aDg (W / 10 ^ e) f o) 46)
def aSq (g : Nat → Int) : Nat → Nat → Nat × (Nat → Int) → Nat × (Nat → Int)
  | _, 0, o => o
  | f, n + 1, o => aSq g (f + 1) n (pu o (g f))
def aSci (W : Nat) (p : Nat) (e : Int) (o : Nat × (Nat → Int)) : Nat × (Nat → Int) := aDg e.natAbs 2 (pu (pu (aPt W 1 p o) 69) (if 0 ≤ e then 43 else 45))
def aScN (d : Nat) (e : Int) (p : Nat) (o : Nat × (Nat → Int)) : Nat × (Nat → Int) :=
  if near d (10 ^ (11 - p)) false ≠ 10 ^ (p + 1) then aSci (near d (10 ^ (11 - p)) false) p e o
  else if e ≠ 99 then aSci (10 ^ p) p (e + 1) o else aSci (d / 10 ^ (11 - p)) p e o
def aFx (W p : Nat) : Nat → Nat → Nat
  | 0, f => f
  | n + 1, f => if W < 10 ^ (f + p) then f else aFx W p n (f + 1)
def aPp (e : Int) (p : Nat) : Nat := if (p : Int) ≤ 11 - e then p else (11 - e).toNat
def aFw (d : Nat) (e : Int) (p : Nat) : Nat := if 11 - e - (aPp e p : Nat) ≤ 12 then near d (10 ^ (11 - e - (aPp e p : Nat)).toNat) false else 0
def aNb (n : Int × Int) (sc : Bool) (p : Nat) (o : Nat × (Nat → Int)) : Nat × (Nat → Int) :=
  if sc = true ∨ 11 < n.2 ∨ (n.1 ≠ 0 ∧ aFw n.1.natAbs n.2 p = 0) then aScN n.1.natAbs n.2 p (pu o (if n.1 < 0 then 45 else 32))
  else aPt (aFw n.1.natAbs n.2 p) (aFx (aFw n.1.natAbs n.2 p) (aPp n.2 p) 12 1) (aPp n.2 p) (pu o (if n.1 < 0 then 45 else 32))
def aEy (e : aE) (o : Nat × (Nat → Int)) : Nat × (Nat → Int) :=
  bif eHp e then aSq (fun k => ((48 + ePd e k : Nat) : Int)) 0 (ePl e) (pu (pu (aSq (eCh e) 0 (eN e) (pu o (bif eMi e then 45 else 32))) 69) (bif ePm e then 45 else 43)) else aSq (eCh e) 0 (eN e) (pu o (bif eMi e then 45 else 32))
def aFlt (f : Int) (o : Nat × (Nat → Int)) : Nat × (Nat → Int) := pu (pu (pu (pu (pu (pu (pu o 70) 65) 85) 76) 84) 32) (48 + f)
def aLine (A : aA) : Nat × (Nat → Int) := if qF A ≠ 0 then aFlt (qF A) (0, fun _ => 32) else bif dOn (qD A) then aEy (dE (qD A)) (0, fun _ => 32) else aNb (dN (qD A) 10) (qSc A) (qPl A).toNat (0, fun _ => 32)
def lnC (o : Nat × (Nat → Int)) (i : Nat) : Int := if 20 ≤ i then 0 else if o.1 ≤ i then 32 else o.2 i
noncomputable def aPart (L : Nat → Int) (p : Nat) : Nat → Int64 → Int64
  | 0, x => x
  | n + 1, x => aPart L p n ((x <<< ((8 : Int32).toInt64 &&& 63)) ||| (i3 (L (8 * p + n))).toInt64)
/-! digits and sequences -/
theorem aDg_n (W : Nat) : ∀ (c : Nat) (o : Nat × (Nat → Int)), (aDg W c o).1 = o.1 + c := by
  intro c
  induction c with
  | zero => intro o; rfl
  | succ c ih => intro o; unfold aDg; rw [ih]; show o.1 + 1 + c = _; omega
theorem aPt_n (W f e : Nat) (o : Nat × (Nat → Int)) : (aPt W f e o).1 = o.1 + f + 1 + e := by
  unfold aPt; rw [aDg_n]; show (aDg (W / 10 ^ e) f o).1 + 1 + e = _; rw [aDg_n]
theorem aSq_n (g : Nat → Int) : ∀ (n f : Nat) (o : Nat × (Nat → Int)), (aSq g f n o).1 = o.1 + n := by
  intro n
  induction n with
  | zero => intro f o; rfl
  | succ n ih => intro f o; unfold aSq; rw [ih]; show o.1 + 1 + n = _; omega
theorem aDg_mod {W V : Nat} : ∀ (n : Nat) (o : Nat × (Nat → Int)), W % 10 ^ n = V % 10 ^ n → aDg W n o = aDg V n o := by
  intro n
  induction n with
  | zero => intro o _; rfl
  | succ n ih =>
    intro o h
    unfold aDg
    have h1 : W / 10 ^ n % 10 = V / 10 ^ n % 10 := by
      have a := Nat.mod_mul_right_div_self W (10 ^ n) 10
      have b := Nat.mod_mul_right_div_self V (10 ^ n) 10
      rw [← a, ← b, show 10 ^ n * 10 = 10 ^ (n + 1) from (Nat.pow_succ ..).symm, h]
    have h2 : W % 10 ^ n = V % 10 ^ n := by
      have a := Nat.mod_mod_of_dvd W (show 10 ^ n ∣ 10 ^ (n + 1) from ⟨10, Nat.pow_succ ..⟩)
      have b := Nat.mod_mod_of_dvd V (show 10 ^ n ∣ 10 ^ (n + 1) from ⟨10, Nat.pow_succ ..⟩)
      rw [← a, ← b, h]
    rw [h1]
    exact ih _ h2
theorem aDg_dV {r : Nat → Nat} : ∀ (n f : Nat) (o : Nat × (Nat → Int)), (∀ k, k < n → r (f + k) ≤ 9) → aDg (dV r f n) n o = aSq (fun k => ((48 + r k : Nat) : Int)) f n o := by
  intro n
  induction n with
  | zero => intro f o _; rfl
  | succ n ih =>
    intro f o h
    have e1 : dV r f (n + 1) = r f * 10 ^ n + dV r (f + 1) n := by
      have := dV_add r f 1 n
      rw [Nat.add_comm 1 n] at this
      rw [this]
      have e : dV r f 1 = r f := by show 10 * 0 + r (f + 0) = _; rw [Nat.add_zero]; omega
      rw [e]
    have hlt : dV r (f + 1) n < 10 ^ n := dV_lt (fun k hk => by have := h (k + 1) (by omega); rw [show f + (k + 1) = f + 1 + k by omega] at this; exact this)
    have hd : dV r f (n + 1) / 10 ^ n % 10 = r f := by
      rw [e1, Nat.mul_comm, Nat.mul_add_div (tenP_pos n), Nat.div_eq_of_lt hlt]
      have := h 0 (by omega)
      rw [Nat.add_zero] at this
      omega
    have hm : dV r f (n + 1) % 10 ^ n = dV r (f + 1) n % 10 ^ n := by rw [e1, Nat.mul_comm, Nat.mul_add_mod]
    unfold aDg aSq
    rw [hd, aDg_mod n _ hm]
    exact ih (f + 1) _ (fun k hk => by have := h (k + 1) (by omega); rw [show f + (k + 1) = f + 1 + k by omega] at this; exact this)
theorem aSq_add (g : Nat → Int) : ∀ (n m f : Nat) (o : Nat × (Nat → Int)), aSq g f (n + m) o = aSq g (f + n) m (aSq g f n o) := by
  intro n
  induction n with
  | zero => intro m f o; rw [Nat.zero_add]; rfl
  | succ n ih =>
    intro m f o
    rw [show n + 1 + m = (n + m) + 1 by omega]
    show aSq g (f + 1) (n + m) (pu o (g f)) = aSq g (f + (n + 1)) m (aSq g (f + 1) n (pu o (g f)))
    rw [ih, show f + 1 + n = f + (n + 1) by omega]
theorem aSq_congr {g g' : Nat → Int} {d : Nat} : ∀ (n f f' : Nat) (o : Nat × (Nat → Int)), (∀ k, k < n → g (f + k) = g' (f' + k)) → aSq g f n o = aSq g' f' n o := by
  intro n
  induction n with
  | zero => intro f f' o _; rfl
  | succ n ih =>
    intro f f' o h
    unfold aSq
    have h0 := h 0 (by omega)
    rw [Nat.add_zero, Nat.add_zero] at h0
    rw [h0]
    exact ih _ _ _ (fun k hk => by have := h (k + 1) (by omega); rw [show f + (k + 1) = f + 1 + k by omega, show f' + (k + 1) = f' + 1 + k by omega] at this; exact this)
/-- the figures of an entry, as the class writes them -/
theorem aSq_entry {e : aE} (h : wE e) (o : Nat × (Nat → Int)) : aSq (eCh e) 0 (eN e) o = if ePt e = -1 then aDg (dV (eDg e) 0 (eL e)) (eL e) o else aPt (dV (eDg e) 0 (eL e)) (ePt e).toNat (eL e - (ePt e).toNat) o := by
  obtain ⟨h1, h2, h3, _⟩ := h
  have h9 : ∀ f n, f + n ≤ eL e → ∀ k, k < n → eDg e (f + k) ≤ 9 := fun f n hf k hk => h2 _ (by omega)
  by_cases g : ePt e = -1
  · rw [if_pos g, aDg_dV _ _ _ (h9 0 (eL e) (by omega))]
    have en : eN e = eL e := by unfold eN; rw [if_pos (by omega)]; rfl
    rw [en]
    refine aSq_congr (d := 0) _ _ _ _ (fun k hk => ?_)
    unfold eCh
    rw [if_pos (Or.inl (by omega))]; rfl
  · rw [if_neg g]
    obtain ⟨p, hp⟩ : ∃ p : Nat, ePt e = p := ⟨(ePt e).toNat, by omega⟩
    have hpL : p ≤ eL e := by omega
    have en : eN e = p + (1 + (eL e - p)) := by unfold eN; rw [if_neg (by omega)]; omega
    have etn : (ePt e).toNat = p := by omega
    rw [en, etn, aSq_add, aSq_add]
    unfold aPt
    have hspl : dV (eDg e) 0 (eL e) = dV (eDg e) 0 p * 10 ^ (eL e - p) + dV (eDg e) p (eL e - p) := by
      have := dV_add (eDg e) 0 p (eL e - p)
      rw [show p + (eL e - p) = eL e by omega, Nat.zero_add] at this
      exact this
    have hlt : dV (eDg e) p (eL e - p) < 10 ^ (eL e - p) := dV_lt (h9 p (eL e - p) (by omega))
    have hd : dV (eDg e) 0 (eL e) / 10 ^ (eL e - p) = dV (eDg e) 0 p := by
      rw [hspl, Nat.mul_comm, Nat.mul_add_div (tenP_pos _), Nat.div_eq_of_lt hlt, Nat.add_zero]
    have hm : dV (eDg e) 0 (eL e) % 10 ^ (eL e - p) = dV (eDg e) p (eL e - p) := by
      rw [hspl, Nat.mul_comm, Nat.mul_add_mod, Nat.mod_eq_of_lt hlt]
    rw [hd, hm, aDg_dV _ _ _ (h9 0 p (by omega)), aDg_dV _ _ _ (h9 p (eL e - p) (by omega))]
    have s1 : aSq (eCh e) 0 p o = aSq (fun k => ((48 + eDg e k : Nat) : Int)) 0 p o := by
      refine aSq_congr (d := 0) _ _ _ _ (fun k hk => ?_)
      unfold eCh
      rw [if_pos (Or.inr (by omega))]; rfl
    rw [s1]
    have s2 : ∀ q, aSq (eCh e) (0 + p) 1 q = pu q 46 := by
      intro q
      show pu q (eCh e (0 + p)) = _
      unfold eCh
      rw [if_neg (by omega), if_pos (by omega)]
    rw [s2]
    refine aSq_congr (d := 0) _ _ _ _ (fun k hk => ?_)
    unfold eCh
    rw [if_neg (by omega), if_neg (by omega), show 0 + p + 1 + k - 1 = p + k by omega]; rfl
/-! the class -/
def Pln (b j : Nat) : Prop := (b = 223 ∧ j = 3) ∨ b = 224
theorem cwrite {s : xS} {o : Nat × (Nat → Int)} {c : Int} (ho : o.1 < 20) (h : txt s 223 224 3 o) : li_write_ok s (i3 c) ∧ fr Pln s (li_write s (i3 c)) ∧ txt (li_write s (i3 c)) 223 224 3 (pu o c) := by
  rw [li_write_eq]
  unfold li_write_ok li_write_d
  have c1 : ¬ (20 : Int32) ≤ gI s 223 3 := by rw [h.1, i3_lit, i3_le (by omega)]; omega
  have e2 : gI s 223 3 + 1 = i3 (o.1 + 1 : Nat) := by rw [h.1, i3_lit, i3_add]; rfl
  have e3 : (gI s 223 3).toNatClampNeg = o.1 := by rw [h.1, i3_natN (by omega)]
  rw [if_neg c1, e2, e3]
  exact ⟨fun _ => by rw [h.1, i3_inN (by omega)]; omega, fr_sI (fr_sI (fr_refl ..) (Or.inr rfl)) (Or.inl ⟨rfl, rfl⟩), txt_push (by omega) h⟩
theorem dig_j6 {W c : Nat} (hW : W < 9223372036854775808) (hc : c ≤ 18) : j6 W / iten (i3 c) - j6 W / iten (i3 c) / 10 * 10 = j6 (W / 10 ^ c % 10 : Nat) := by
  have hp : 10 ^ c ≤ 10 ^ 18 := tenP hc
  have hp0 := tenP_pos c
  rw [iten_i3 hc, j6_quo (by omega), j6_lit, j6_quo (by
    have : 0 ≤ (W : Int) / ((10 ^ c : Nat) : Int) := Int.ediv_nonneg (by omega) (by omega)
    have h2 : (W : Int) / ((10 ^ c : Nat) : Int) ≤ W := Int.ediv_le_self _ (by omega)
    omega), j6_mul, j6_sub]
  refine congrArg j6 ?_
  have : (W : Int) / ((10 ^ c : Nat) : Int) = ((W / 10 ^ c : Nat) : Int) := by rw [Int.natCast_ediv]
  rw [this]
  omega
theorem cdig_5 {W : Nat} (hW : W < 9223372036854775808) : ∀ (n c : Nat) (s : xS) (o : Nat × (Nat → Int)), c ≤ 19 → c + 1 ≤ n → o.1 + c ≤ 20 → txt s 223 224 3 o → li_writeDigits_5_ok n s (j6 W) (i3 ((c : Int) - 1)) ∧ fr Pln s (li_writeDigits_5 n s (j6 W) (i3 ((c : Int) - 1))) ∧ txt (li_writeDigits_5 n s (j6 W) (i3 ((c : Int) - 1))) 223 224 3 (aDg W c o) := by
  intro n
  induction n with
  | zero => intro c s o k1 k2; omega
  | succ n ih =>
    intro c s o k1 k2 k3 h
    unfold li_writeDigits_5 li_writeDigits_5_ok
    have c1 : (i3 ((c : Int) - 1) < 0) = (c = 0) := by rw [i3_lit, i3_lt (by omega)]; apply propext; omega
    simp only [c1]
    cases c with
    | zero => rw [if_pos rfl]; exact ⟨fun q => absurd rfl q, fr_refl .., h⟩
    | succ j =>
      rw [if_neg (Nat.succ_ne_zero j)]
      have ej : ((j + 1 : Nat) : Int) - 1 = (j : Int) := by omega
      rw [ej]
      have e2 : i3 (j : Int) + -1 = i3 ((j : Int) - 1) := by rw [i3_lit, i3_neg, i3_add]; exact congrArg i3 (by omega)
      have e3 : ((48 : Int64) + (j6 W / iten (i3 j) - j6 W / iten (i3 j) / 10 * 10)).toInt32 = i3 ((48 + W / 10 ^ j % 10 : Nat) : Int) := by
        rw [dig_j6 hW (by omega), j6_lit, j6_add, j6_int]; exact congrArg i3 (by omega)
      rw [e2, e3]
      obtain ⟨y1, y2, y3⟩ := cwrite (c := ((48 + W / 10 ^ j % 10 : Nat) : Int)) (by omega) h
      obtain ⟨p1, p2, p3⟩ := ih j _ _ (by omega) (by omega) (by show o.1 + 1 + j ≤ 20; omega) y3
      have hp0 := tenP_pos j
      have hp : 10 ^ j ≤ 10 ^ 18 := tenP (by omega)
      have nz : ¬ iten (i3 j) = 0 := by rw [iten_i3 (by omega), j6_lit, j6_eq (by omega)]; omega
      exact ⟨fun _ => ⟨by rw [i3_inN (by omega)]; omega, nz, y1, p1⟩, fr_trans y2 p2, p3⟩
theorem cdig {s : xS} {o : Nat × (Nat → Int)} {W c : Nat} (hW : W < 9223372036854775808) (hc : o.1 + c ≤ 20) (hc2 : c ≤ 19) (h : txt s 223 224 3 o) : li_writeDigits_ok s (j6 W) (i3 c) ∧ fr Pln s (li_writeDigits s (j6 W) (i3 c)) ∧ txt (li_writeDigits s (j6 W) (i3 c)) 223 224 3 (aDg W c o) := by
  rw [li_writeDigits_eq]
  unfold li_writeDigits_ok li_writeDigits_d
  have e : i3 c - 1 = i3 ((c : Int) - 1) := by rw [i3_lit, i3_sub]
  rw [e]
  exact cdig_5 hW xfu c s o hc2 (by rw [xfu_eq]; omega) hc h
theorem cpoint {s : xS} {o : Nat × (Nat → Int)} {W f e : Nat} (hW : W < 9223372036854775808) (hl : o.1 + f + 1 + e ≤ 20) (he : e ≤ 18) (h : txt s 223 224 3 o) : li_writeWithPoint_ok s (j6 W) (i3 f) (i3 e) ∧ fr Pln s (li_writeWithPoint s (j6 W) (i3 f) (i3 e)) ∧ txt (li_writeWithPoint s (j6 W) (i3 f) (i3 e)) 223 224 3 (aPt W f e o) := by
  rw [li_writeWithPoint_eq]
  unfold li_writeWithPoint_ok li_writeWithPoint_d
  have hp0 := tenP_pos e
  have hp : 10 ^ e ≤ 10 ^ 18 := tenP he
  have e1 : j6 W / iten (i3 e) = j6 (W / 10 ^ e : Nat) := by rw [iten_i3 he, j6_quo (by omega)]; exact congrArg j6 (Int.natCast_ediv ..).symm
  have e2 : j6 W - j6 W / iten (i3 e) * iten (i3 e) = j6 (W % 10 ^ e : Nat) := by
    rw [e1, iten_i3 he, j6_mul, j6_sub]
    refine congrArg j6 ?_
    have := Nat.div_add_mod W (10 ^ e)
    have h2 : ((W / 10 ^ e : Nat) : Int) * ((10 ^ e : Nat) : Int) = ((10 ^ e * (W / 10 ^ e) : Nat) : Int) := by rw [Int.mul_comm, Int.natCast_mul]
    rw [h2]
    omega
  rw [e2, e1]
  have hq : W / 10 ^ e ≤ W := Nat.div_le_self ..
  have hm : W % 10 ^ e ≤ W := Nat.mod_le ..
  have nz : ¬ iten (i3 e) = 0 := by rw [iten_i3 he, j6_lit, j6_eq (by omega)]; omega
  have hin : vp_in (i3 (e : Int)) 19 := by rw [i3_inN (by omega)]; omega
  obtain ⟨a1, a2, a3⟩ := cdig (W := W / 10 ^ e) (c := f) (by omega) (by omega) (by omega) h
  have n1 := aDg_n (W / 10 ^ e) f o
  obtain ⟨b1, b2, b3⟩ := cwrite (c := 46) (by omega) a3
  have b1' : li_write_ok (li_writeDigits s (j6 (W / 10 ^ e : Nat)) (i3 f)) 46 := b1
  obtain ⟨c1, c2, c3⟩ := cdig (W := W % 10 ^ e) (c := e) (by omega) (by show (aDg (W / 10 ^ e) f o).1 + 1 + e ≤ 20; omega) (by omega) b3
  exact ⟨⟨hin, nz, a1, b1', hin, nz, c1⟩, fr_trans a2 (fr_trans b2 c2), c3⟩
