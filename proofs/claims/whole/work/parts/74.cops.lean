/-! THE CLASS'S OPERATIONS -/
/-- what may have changed lies within P -/
def fr (P : Nat → Nat → Prop) (s s' : xS) : Prop := (∀ b j, ¬ P b j → gI s' b j = gI s b j ∧ gJ s' b j = gJ s b j) ∧ s'.2.2 = s.2.2
theorem fr_refl (P : Nat → Nat → Prop) (s : xS) : fr P s s := ⟨fun _ _ _ => ⟨rfl, rfl⟩, rfl⟩
theorem fr_trans {P : Nat → Nat → Prop} {s t u : xS} (h : fr P s t) (h' : fr P t u) : fr P s u :=
  ⟨fun b j hb => ⟨((h'.1 b j hb).1).trans (h.1 b j hb).1, ((h'.1 b j hb).2).trans (h.1 b j hb).2⟩, h'.2.trans h.2⟩
theorem fr_mono {P Q : Nat → Nat → Prop} {s t : xS} (h : fr P s t) (hpq : ∀ b j, P b j → Q b j) : fr Q s t :=
  ⟨fun b j hb => h.1 b j (fun q => hb (hpq b j q)), h.2⟩
theorem fr_sI {P : Nat → Nat → Prop} {s t : xS} {a k : Nat} {v : Int32} (h : fr P s t) (hp : P a k) : fr P s (sI t a k v) := by
  refine fr_trans h ⟨fun b j hb => ⟨?_, gJ_sI ..⟩, rfl⟩
  rw [gI_sI, if_neg]
  rintro ⟨rfl, rfl⟩
  exact hb hp
theorem fr_sJ {P : Nat → Nat → Prop} {s t : xS} {a k : Nat} {v : Int64} (h : fr P s t) (hp : P a k) : fr P s (sJ t a k v) := by
  refine fr_trans h ⟨fun b j hb => ⟨gI_sJ .., ?_⟩, rfl⟩
  rw [gJ_sJ, if_neg]
  rintro ⟨rfl, rfl⟩
  exact hb hp
def P31 (b _ : Nat) : Prop := b = 31
/-- a number of the class -/
def cN (s : xS) (a : Nat) (n : Int × Int) : Prop := gJ s a 0 = j6 n.1 ∧ gI s a 1 = i3 n.2
/-- what the arithmetic has before it rounds -/
def cA (s : xS) (W : Nat) (m : Bool) (u : Int) (mi : Bool) : Prop := gJ s 31 1 = j6 W ∧ gI s 31 2 = zb m ∧ gI s 31 3 = i3 u ∧ gI s 31 0 = zb mi
theorem zb_inj {a b : Bool} : (zb a = zb b) = (a = b) := by cases a <;> cases b <;> simp [zb]
theorem cadd_194 (s : xS) {lead other part el : Int} {mo : Bool} (hm : gI s 31 2 = zb mo) (ho : -1000000000000 ≤ other ∧ other ≤ 1000000000000) (hs : -9000000000000000000 ≤ lead * 1000000 + part ∧ lead * 1000000 + part ≤ 9000000000000000000) (h0 : mo = true → lead * 1000000 + part ≠ 0) : fr P31 s (ar_add_194 s (j6 lead) (i3 el) (j6 other) (j6 part)) ∧ cA (ar_add_194 s (j6 lead) (i3 el) (j6 other) (j6 part)) ((lead * 1000000 + part).natAbs - (if mo = true ∧ ¬ (other < 0 ↔ lead * 1000000 + part < 0) then 1 else 0)) mo (el - 17) (decide (lead * 1000000 + part < 0)) := by
  rw [ar_add_194_eq]
  unfold ar_add_194_d
  have e1 : j6 lead * 1000000 + j6 part = j6 (lead * 1000000 + part) := by rw [j6_lit, j6_mul, j6_add]
  rw [e1]
  generalize lead * 1000000 + part = S at *
  have c1 : (!decide ((0 : Int64) ≤ j6 S)) = decide (S < 0) := nle0_j6 (by omega)
  have c2 : (!decide ((0 : Int64) ≤ j6 other)) = decide (other < 0) := nle0_j6 (by omega)
  rw [c1, c2, labs_j6 (by omega), hm]
  have e2 : i3 el - 17 = i3 (el - 17) := by rw [i3_lit, i3_sub]
  have e3 : j6 (S.natAbs : Int) - 1 = j6 ((S.natAbs : Int) - 1) := by rw [j6_lit, j6_sub]
  rw [e2, e3]
  cases mo
  · rw [if_pos (show zb false = 0 from rfl)]
    refine ⟨fr_sI (fr_sJ (fr_sI (fr_refl ..) rfl) rfl) rfl, ?_⟩
    rw [if_neg (by rintro ⟨q, _⟩; cases q)]
    exact ⟨rfl, hm, rfl, rfl⟩
  · rw [if_neg (by rw [show (0 : Int32) = zb false from rfl, zb_inj]; intro q; cases q)]
    simp only [zb_inj]
    by_cases g : decide (other < 0) = decide (S < 0)
    · rw [if_pos g]
      refine ⟨fr_sI (fr_sJ (fr_sI (fr_refl ..) rfl) rfl) rfl, ?_⟩
      rw [if_neg (by rintro ⟨_, q⟩; exact q (decide_eq_decide.mp g))]
      exact ⟨rfl, hm, rfl, rfl⟩
    · rw [if_neg g]
      refine ⟨fr_sI (fr_sJ (fr_sJ (fr_sI (fr_refl ..) rfl) rfl) rfl) rfl, ?_⟩
      rw [if_pos ⟨by trivial, fun q => g (decide_eq_decide.mpr q)⟩]
      refine ⟨?_, hm, rfl, rfl⟩
      have := h0 rfl
      show j6 ((S.natAbs : Int) - 1) = _
      congr 1
      omega
/-- a number's place: all exponents above 0 -/
def tE (e : Int) : Nat := (120 + e).toNat
theorem cut_plus {A q o : Nat} (hq : 0 < q) : (A * q + o) / q = A + o / q ∧ (A * q + o) % q = o % q := by
  rw [Nat.mul_comm, Nat.mul_add_div hq, Nat.mul_add_mod]; exact ⟨rfl, rfl⟩
theorem cut_minus {A q o : Nat} (hq : 0 < q) (h : o ≤ A * q) : (A * q - o) / q = A - o / q - (if o % q = 0 then 0 else 1) ∧ ((A * q - o) % q = 0 ↔ o % q = 0) := by
  have hd := Nat.div_add_mod o q
  have hr := Nat.mod_lt o hq
  have hA : o / q ≤ A := Nat.div_le_of_le_mul (by rw [Nat.mul_comm]; exact h)
  generalize o / q = v at *
  generalize o % q = r at *
  obtain ⟨B, rfl⟩ : ∃ B, A = B + v := ⟨A - v, by omega⟩
  have e1 : (B + v) * q = B * q + q * v := by rw [Nat.add_mul, Nat.mul_comm v]
  by_cases g : r = 0
  · subst g
    have : (B + v) * q - o = q * B := by rw [e1, Nat.mul_comm B]; omega
    rw [this, Nat.mul_div_cancel_left _ hq, Nat.mul_mod_right]
    simp
  · have hB : 1 ≤ B := by
      by_cases q0 : B = 0
      · rw [q0, Nat.zero_mul] at e1; rw [q0] at h; omega
      · omega
    obtain ⟨C, rfl⟩ : ∃ C, B = C + 1 := ⟨B - 1, by omega⟩
    have e2 : (C + 1) * q = q * C + q := by rw [Nat.add_mul, Nat.mul_comm C]; omega
    have : (C + 1 + v) * q - o = q * C + (q - r) := by rw [e1, e2]; omega
    rw [this, Nat.mul_add_div hq, Nat.mul_add_mod, Nat.div_eq_of_lt (by omega), Nat.mod_eq_of_lt (by omega), if_neg g]
    omega
/-- the sum that is cut, of numbers far apart -/
theorem cut_sum {L O : Int} {q : Nat} (hq : 10 ≤ q) (hL : 100000000000 ≤ L.natAbs ∧ L.natAbs < 1000000000000) (hO : O.natAbs < 1000000000000) : (L * 1000000 + O.tdiv q ≠ 0) ∧ -9000000000000000000 ≤ L * 1000000 + O.tdiv q ∧ L * 1000000 + O.tdiv q ≤ 9000000000000000000 ∧ (L * 1000000 + O.tdiv q < 0 ↔ L * 1000000 * q + O < 0) ∧ (L * 1000000 + O.tdiv q).natAbs - (if O.tmod q ≠ 0 ∧ ¬ (O < 0 ↔ L * 1000000 + O.tdiv q < 0) then 1 else 0) = (L * 1000000 * q + O).natAbs / q ∧ ((L * 1000000 * q + O).natAbs % q ≠ 0 ↔ O.tmod q ≠ 0) ∧ 10 ^ 12 ≤ (L * 1000000 * q + O).natAbs / q := by
  obtain ⟨o, ho⟩ : ∃ o, o = O.natAbs := ⟨_, rfl⟩
  obtain ⟨A, hA⟩ : ∃ A, A = L.natAbs * 1000000 := ⟨_, rfl⟩
  have hov : o / q ≤ o / 1 := Nat.div_le_div_left (by omega) (by omega)
  rw [Nat.div_one] at hov
  have hoA : A * 10 ≤ A * q := Nat.mul_le_mul_left _ hq
  obtain ⟨p1, p2⟩ := cut_plus (A := A) (o := o) (show 0 < q by omega)
  obtain ⟨m1, m2⟩ := cut_minus (A := A) (o := o) (show 0 < q by omega) (by omega)
  have td : O.tdiv q = if O < 0 then -((o / q : Nat) : Int) else ((o / q : Nat) : Int) := by
    split
    · rw [show O = -(o : Int) by omega, Int.neg_tdiv, Int.tdiv_eq_ediv_of_nonneg (by omega)]; rfl
    · rw [show O = (o : Int) by omega, Int.tdiv_eq_ediv_of_nonneg (by omega)]; rfl
  have tm : (O.tmod q ≠ 0) = (o % q ≠ 0) := by
    by_cases g : O < 0
    · rw [show O = -(o : Int) by omega, Int.neg_tmod, Int.tmod_eq_emod_of_nonneg (by omega)]
      apply propext; omega
    · rw [show O = (o : Int) by omega, Int.tmod_eq_emod_of_nonneg (by omega)]
      apply propext; omega
  simp only [tm]
  have e1 : L * 1000000 = if L < 0 then -(A : Int) else A := by split <;> omega
  have hX : L * 1000000 * q + O = (if L < 0 then -((A * q : Nat) : Int) else ((A * q : Nat) : Int)) + (if O < 0 then -(o : Int) else (o : Int)) := by
    rw [e1]
    split <;> split <;> simp only [Int.natCast_mul, Int.neg_mul] <;> omega
  generalize hv : o / q = v at *
  generalize hw : o % q = r at *
  generalize A * q = B at *
  by_cases g1 : L < 0 <;> by_cases g2 : O < 0
  · rw [if_pos g1, if_pos g2] at hX
    rw [if_pos g2] at td
    rw [if_pos g1] at e1
    rw [hX, td, e1]
    have a1 : (-(B : Int) + -(o : Int)).natAbs = B + o := by omega
    rw [a1, p1, p2]
    refine ⟨by omega, by omega, by omega, by omega, ?_, Iff.rfl, by omega⟩
    rw [if_neg (by omega)]; omega
  · rw [if_pos g1, if_neg g2] at hX
    rw [if_neg g2] at td
    rw [if_pos g1] at e1
    rw [hX, td, e1]
    have a1 : (-(B : Int) + (o : Int)).natAbs = B - o := by omega
    rw [a1, m1]
    refine ⟨by omega, by omega, by omega, by omega, ?_, by omega, ?_⟩
    · by_cases g : r = 0
      · rw [if_neg (by omega), if_pos g]; omega
      · rw [if_pos (by omega), if_neg g]; omega
    · split <;> omega
  · rw [if_neg g1, if_pos g2] at hX
    rw [if_pos g2] at td
    rw [if_neg g1] at e1
    rw [hX, td, e1]
    have a1 : ((B : Int) + -(o : Int)).natAbs = B - o := by omega
    rw [a1, m1]
    refine ⟨by omega, by omega, by omega, by omega, ?_, by omega, ?_⟩
    · by_cases g : r = 0
      · rw [if_neg (by omega), if_pos g]; omega
      · rw [if_pos (by omega), if_neg g]; omega
    · split <;> omega
  · rw [if_neg g1, if_neg g2] at hX
    rw [if_neg g2] at td
    rw [if_neg g1] at e1
    rw [hX, td, e1]
    have a1 : ((B : Int) + (o : Int)).natAbs = B + o := by omega
    rw [a1, p1, p2]
    refine ⟨by omega, by omega, by omega, by omega, ?_, Iff.rfl, by omega⟩
    rw [if_neg (by omega)]; omega
