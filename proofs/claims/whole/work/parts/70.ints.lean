/-! WORDS AS WHOLE NUMBERS: i3 and j6 -/
def i3 (n : Int) : Int32 := Int32.ofInt n
def j6 (n : Int) : Int64 := Int64.ofInt n
theorem i3_add (a b : Int) : i3 a + i3 b = i3 (a + b) := (Int32.ofInt_add a b).symm
theorem i3_sub (a b : Int) : i3 a - i3 b = i3 (a - b) := (Int32.ofInt_sub a b).symm
theorem i3_mul (a b : Int) : i3 a * i3 b = i3 (a * b) := (Int32.ofInt_mul a b).symm
theorem i3_neg (a : Int) : - i3 a = i3 (-a) := (Int32.ofInt_neg a).symm
theorem j6_add (a b : Int) : j6 a + j6 b = j6 (a + b) := (Int64.ofInt_add a b).symm
theorem j6_sub (a b : Int) : j6 a - j6 b = j6 (a - b) := (Int64.ofInt_sub a b).symm
theorem j6_mul (a b : Int) : j6 a * j6 b = j6 (a * b) := (Int64.ofInt_mul a b).symm
theorem j6_neg (a : Int) : - j6 a = j6 (-a) := (Int64.ofInt_neg a).symm
theorem i3_toInt {a : Int} (h : -2147483648 ≤ a) (h' : a < 2147483648) : (i3 a).toInt = a := Int32.toInt_ofInt_of_le (by omega) (by omega)
theorem j6_toInt {a : Int} (h : -9223372036854775808 ≤ a) (h' : a < 9223372036854775808) : (j6 a).toInt = a := Int64.toInt_ofInt_of_le (by omega) (by omega)
theorem i3_of (x : Int32) : i3 x.toInt = x := Int32.ofInt_toInt x
theorem j6_of (x : Int64) : j6 x.toInt = x := Int64.ofInt_toInt x
theorem i3_ex (x : Int32) : ∃ n : Int, x = i3 n ∧ -2147483648 ≤ n ∧ n < 2147483648 := ⟨x.toInt, (i3_of x).symm, by have := Int32.le_toInt x; omega, by have := Int32.toInt_lt x; omega⟩
theorem j6_ex (x : Int64) : ∃ n : Int, x = j6 n ∧ -9223372036854775808 ≤ n ∧ n < 9223372036854775808 := ⟨x.toInt, (j6_of x).symm, by have := Int64.le_toInt x; omega, by have := Int64.toInt_lt x; omega⟩
theorem i3_le {a b : Int} (h : -2147483648 ≤ a ∧ a < 2147483648 ∧ -2147483648 ≤ b ∧ b < 2147483648) : i3 a ≤ i3 b ↔ a ≤ b := by
  rw [Int32.le_iff_toInt_le, i3_toInt h.1 h.2.1, i3_toInt h.2.2.1 h.2.2.2]
theorem i3_lt {a b : Int} (h : -2147483648 ≤ a ∧ a < 2147483648 ∧ -2147483648 ≤ b ∧ b < 2147483648) : i3 a < i3 b ↔ a < b := by
  rw [Int32.lt_iff_toInt_lt, i3_toInt h.1 h.2.1, i3_toInt h.2.2.1 h.2.2.2]
theorem i3_eq {a b : Int} (h : -2147483648 ≤ a ∧ a < 2147483648 ∧ -2147483648 ≤ b ∧ b < 2147483648) : i3 a = i3 b ↔ a = b := by
  rw [← Int32.toInt_inj, i3_toInt h.1 h.2.1, i3_toInt h.2.2.1 h.2.2.2]
theorem j6_le {a b : Int} (h : -9223372036854775808 ≤ a ∧ a < 9223372036854775808 ∧ -9223372036854775808 ≤ b ∧ b < 9223372036854775808) : j6 a ≤ j6 b ↔ a ≤ b := by
  rw [Int64.le_iff_toInt_le, j6_toInt h.1 h.2.1, j6_toInt h.2.2.1 h.2.2.2]
theorem j6_lt {a b : Int} (h : -9223372036854775808 ≤ a ∧ a < 9223372036854775808 ∧ -9223372036854775808 ≤ b ∧ b < 9223372036854775808) : j6 a < j6 b ↔ a < b := by
  rw [Int64.lt_iff_toInt_lt, j6_toInt h.1 h.2.1, j6_toInt h.2.2.1 h.2.2.2]
theorem j6_eq {a b : Int} (h : -9223372036854775808 ≤ a ∧ a < 9223372036854775808 ∧ -9223372036854775808 ≤ b ∧ b < 9223372036854775808) : j6 a = j6 b ↔ a = b := by
  rw [← Int64.toInt_inj, j6_toInt h.1 h.2.1, j6_toInt h.2.2.1 h.2.2.2]
theorem i3_div {a b : Int} (h : -2147483648 ≤ a ∧ a < 2147483648 ∧ -2147483648 ≤ b ∧ b < 2147483648) : i3 a / i3 b = i3 (a.tdiv b) := by
  refine (Int32.ofInt_tdiv ?_ ?_ ?_ ?_).symm
  · show -2147483648 ≤ a; omega
  · show a ≤ 2147483647; omega
  · show -2147483648 ≤ b; omega
  · show b ≤ 2147483647; omega
theorem j6_div {a b : Int} (h : -9223372036854775808 ≤ a ∧ a < 9223372036854775808 ∧ -9223372036854775808 ≤ b ∧ b < 9223372036854775808) : j6 a / j6 b = j6 (a.tdiv b) := by
  refine (Int64.ofInt_tdiv ?_ ?_ ?_ ?_).symm
  · show -9223372036854775808 ≤ a; omega
  · show a ≤ 9223372036854775807; omega
  · show -9223372036854775808 ≤ b; omega
  · show b ≤ 9223372036854775807; omega
/-- of numbers not below 0 the quotient is the usual one -/
theorem i3_quo {a b : Int} (h : 0 ≤ a ∧ a < 2147483648 ∧ -2147483648 ≤ b ∧ b < 2147483648) : i3 a / i3 b = i3 (a / b) := by
  rw [i3_div (by omega), Int.tdiv_eq_ediv_of_nonneg h.1]
theorem j6_quo {a b : Int} (h : 0 ≤ a ∧ a < 9223372036854775808 ∧ -9223372036854775808 ≤ b ∧ b < 9223372036854775808) : j6 a / j6 b = j6 (a / b) := by
  rw [j6_div (by omega), Int.tdiv_eq_ediv_of_nonneg h.1]
theorem i3_nat {a : Int} (h : -2147483648 ≤ a ∧ a < 2147483648) : (i3 a).toNatClampNeg = a.toNat := by
  show (i3 a).toInt.toNat = _
  rw [i3_toInt h.1 h.2]
theorem i3_long {a : Int} (h : -2147483648 ≤ a ∧ a < 2147483648) : (i3 a).toInt64 = j6 a := Int32.toInt64_ofInt (by show -2147483648 ≤ a; omega) (by show a ≤ 2147483647; omega)
theorem j6_int (a : Int) : (j6 a).toInt32 = i3 a := Int64.toInt32_ofInt
theorem i3_in {a : Int} {n : Nat} (h : -2147483648 ≤ a ∧ a < 2147483648) : vp_in (i3 a) n ↔ 0 ≤ a ∧ a < n := by
  unfold vp_in
  rw [i3_nat h, show (0 : Int32) = i3 0 from rfl, i3_lt (by omega)]
  omega
theorem i3_lit (n : Nat) : (OfNat.ofNat n : Int32) = i3 (OfNat.ofNat n : Int) := rfl
theorem j6_lit (n : Nat) : (OfNat.ofNat n : Int64) = j6 (OfNat.ofNat n : Int) := rfl
theorem zb_tt : zb true = i3 1 := rfl
theorem zb_ff : zb false = i3 0 := rfl
theorem zb_dec (p : Prop) [Decidable p] : zb (decide p) = if p then i3 1 else i3 0 := by
  by_cases h : p <;> simp [h, zb_tt, zb_ff]
theorem labs_j6 {a : Int} (h : -9223372036854775807 ≤ a ∧ a < 9223372036854775808) : labs (j6 a) = j6 a.natAbs := by
  unfold labs
  simp only [j6_lit, j6_lt (show -9223372036854775808 ≤ (0:Int) ∧ (0:Int) < 9223372036854775808 ∧ -9223372036854775808 ≤ a ∧ a < 9223372036854775808 by omega), j6_neg]
  by_cases g : 0 < a
  · rw [if_pos g, show (a.natAbs : Int) = a by omega]
  · rw [if_neg g, show (a.natAbs : Int) = -a by omega]
theorem iabs_i3 {a : Int} (h : -2147483647 ≤ a ∧ a < 2147483648) : iabs (i3 a) = i3 a.natAbs := by
  unfold iabs
  simp only [i3_lit, i3_le (show -2147483648 ≤ (0:Int) ∧ (0:Int) < 2147483648 ∧ -2147483648 ≤ a ∧ a < 2147483648 by omega), i3_sub]
  by_cases g : 0 ≤ a
  · rw [if_pos g, show (a.natAbs : Int) = a by omega]
  · rw [if_neg g, show (a.natAbs : Int) = 0 - a by omega]
theorem iten_i3 {k : Nat} (h : k ≤ 18) : iten (i3 k) = j6 (10 ^ k : Nat) := by
  unfold iten
  rw [i3_nat (by omega)]
  have : k = 0 ∨ k = 1 ∨ k = 2 ∨ k = 3 ∨ k = 4 ∨ k = 5 ∨ k = 6 ∨ k = 7 ∨ k = 8 ∨ k = 9 ∨ k = 10 ∨ k = 11 ∨ k = 12 ∨ k = 13 ∨ k = 14 ∨ k = 15 ∨ k = 16 ∨ k = 17 ∨ k = 18 := by omega
  rcases this with h | h | h | h | h | h | h | h | h | h | h | h | h | h | h | h | h | h | h <;> subst h <;> rfl
theorem tenP {k n : Nat} (h : k ≤ n) : 10 ^ k ≤ 10 ^ n := Nat.pow_le_pow_right (by omega) h
theorem tenP_pos (k : Nat) : 0 < 10 ^ k := Nat.pow_pos (by omega)
theorem tenP_s (k : Nat) : 10 ^ (k + 1) = 10 * 10 ^ k := by rw [Nat.pow_succ, Nat.mul_comm]
theorem tenP_lt {k n : Nat} (h : 10 ^ k < 10 ^ n) : k < n := by
  by_cases g : k < n
  · exact g
  · have := tenP (k := n) (n := k) (by omega); omega
theorem j6_ltN {a b : Nat} (ha : a < 9223372036854775808) (hb : b < 9223372036854775808) : (j6 a < j6 b) = (a < b) := by rw [j6_lt (by omega)]; apply propext; omega
theorem j6_leN {a b : Nat} (ha : a < 9223372036854775808) (hb : b < 9223372036854775808) : (j6 a ≤ j6 b) = (a ≤ b) := by rw [j6_le (by omega)]; apply propext; omega
theorem j6_eqN {a b : Nat} (ha : a < 9223372036854775808) (hb : b < 9223372036854775808) : (j6 a = j6 b) = (a = b) := by rw [j6_eq (by omega)]; apply propext; omega
theorem i3_ltN {a b : Nat} (ha : a < 2147483648) (hb : b < 2147483648) : (i3 a < i3 b) = (a < b) := by rw [i3_lt (by omega)]; apply propext; omega
theorem i3_leN {a b : Nat} (ha : a < 2147483648) (hb : b < 2147483648) : (i3 a ≤ i3 b) = (a ≤ b) := by rw [i3_le (by omega)]; apply propext; omega
theorem i3_eqN {a b : Nat} (ha : a < 2147483648) (hb : b < 2147483648) : (i3 a = i3 b) = (a = b) := by rw [i3_eq (by omega)]; apply propext; omega
theorem i3_natN {a : Nat} (h : a < 2147483648) : (i3 a).toNatClampNeg = a := by rw [i3_nat (by omega), Int.toNat_natCast]
theorem i3_inN {a n : Nat} (h : a < 2147483648) : vp_in (i3 a) n ↔ a < n := by rw [i3_in (by omega)]; omega
theorem nle0_j6 {S : Int} (h : -9223372036854775808 ≤ S ∧ S < 9223372036854775808) : (!decide ((0 : Int64) ≤ j6 S)) = decide (S < 0) := by
  have : ((0 : Int64) ≤ j6 S) = (0 ≤ S) := by rw [j6_lit, j6_le (by omega)]
  by_cases g : 0 ≤ S
  · rw [decide_eq_true (show (0 : Int64) ≤ j6 S by rw [this]; exact g), decide_eq_false (by omega)]; rfl
  · rw [decide_eq_false (show ¬ (0 : Int64) ≤ j6 S by rw [this]; exact g), decide_eq_true (by omega)]; rfl
theorem ne0_j6 {T : Int} (h : -9223372036854775808 ≤ T ∧ T < 9223372036854775808) : (!decide (j6 T = 0)) = decide (T ≠ 0) := by
  have : (j6 T = 0) = (T = 0) := by rw [j6_lit, j6_eq (by omega)]
  by_cases g : T = 0
  · rw [decide_eq_true (show j6 T = 0 by rw [this]; exact g), decide_eq_false (fun q => q g)]; rfl
  · rw [decide_eq_false (show ¬ j6 T = 0 by rw [this]; exact g), decide_eq_true g]; rfl
