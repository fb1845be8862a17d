/-! THE CLASS'S PRODUCT, QUOTIENT AND ROOT -/
theorem mul_split (A B : Nat) : A * B / 1000000 = (A / 1000000) * (B / 1000000) * 1000000 + ((A / 1000000) * (B % 1000000) + (A % 1000000) * (B / 1000000)) + (A % 1000000) * (B % 1000000) / 1000000 ∧ A * B % 1000000 = (A % 1000000) * (B % 1000000) % 1000000 := by
  have hA := Nat.div_add_mod A 1000000
  have hB := Nat.div_add_mod B 1000000
  generalize A / 1000000 = a at *
  generalize A % 1000000 = c at *
  generalize B / 1000000 = b at *
  generalize B % 1000000 = d at *
  have e : A * B = 1000000 * (a * b * 1000000 + (a * d + c * b)) + c * d := by
    rw [← hA, ← hB]
    simp only [Nat.add_mul, Nat.mul_add]
    have h1 : 1000000 * a * (1000000 * b) = 1000000 * (a * b * 1000000) := by
      rw [Nat.mul_assoc, Nat.mul_left_comm a, Nat.mul_comm 1000000 (a * b)]
    have h2 : 1000000 * a * d = 1000000 * (a * d) := Nat.mul_assoc ..
    have h3 : c * (1000000 * b) = 1000000 * (c * b) := Nat.mul_left_comm ..
    omega
  rw [e, Nat.mul_add_div (by omega), Nat.mul_add_mod]
  exact ⟨rfl, rfl⟩
theorem below (s : xS) {a : Nat} {n : Int × Int} (h : cN s a n) (v : vN n) : de_isBelowZero s a = decide (n.1 < 0) := by
  unfold de_isBelowZero
  have := vN_b v
  rw [h.1, nle0_j6 (by omega)]
theorem natAbs_lt {z : Int} {k : Nat} (h : z.natAbs < k) : (z.natAbs : Int) < k := by omega
theorem le_mul_bd {a b c d : Nat} (h : a ≤ c) (h' : b ≤ d) : a * b ≤ c * d := Nat.mul_le_mul h h'
theorem cmul (s : xS) (l r : Nat) {n m : Int × Int} (hl : l ≠ 31) (hr : r ≠ 31) (hn : cN s l n) (hm : cN s r m) (vn : vN n) (vm : vN m) : fr P31 s (ar_multiply s l r) ∧ ∃ W mo u mi, cA (ar_multiply s l r) W mo u mi ∧ W < 9223372036854775808 ∧ -1000 ≤ u ∧ u ≤ 1000 ∧ ∀ q, FIN W mo u mi q → FIN (n.1.natAbs * m.1.natAbs) false (n.2 + m.2 - 22) (!decide (decide (n.1 < 0) = decide (m.1 < 0))) q := by
  rw [ar_multiply_eq]
  unfold ar_multiply_d
  have b1 := vN_b vn
  have b2 := vN_b vm
  refine ⟨fr_sI (fr_sI (fr_sJ (fr_sI (fr_refl ..) rfl) rfl) rfl) rfl, ?_⟩
  rw [below s hn vn, below s hm vm, hn.1, hm.1, labs_j6 (by omega), labs_j6 (by omega)]
  obtain ⟨ms1, ms2⟩ := mul_split n.1.natAbs m.1.natAbs
  have ha : n.1.natAbs / 1000000 < 1000000 := by omega
  have hb : m.1.natAbs / 1000000 < 1000000 := by omega
  have hc := Nat.mod_lt n.1.natAbs (show 0 < 1000000 by omega)
  have hd := Nat.mod_lt m.1.natAbs (show 0 < 1000000 by omega)
  have q1 : ∀ x : Nat, x < 9223372036854775808 → j6 (x : Int) / 1000000 = j6 ((x / 1000000 : Nat) : Int) := by
    intro x hx
    rw [j6_lit, j6_quo (by omega), Int.natCast_ediv]; rfl
  have q2 : ∀ x : Nat, x < 9223372036854775808 → j6 (x : Int) - j6 (x : Int) / 1000000 * 1000000 = j6 ((x % 1000000 : Nat) : Int) := by
    intro x hx
    rw [j6_lit, j6_quo (by omega), j6_mul, j6_sub]
    congr 1
    exact mod_sub x 1000000
  rw [q2 n.1.natAbs (by omega), q2 m.1.natAbs (by omega), q1 n.1.natAbs (by omega), q1 m.1.natAbs (by omega)]
  have hlow := le_mul_bd (show n.1.natAbs % 1000000 ≤ 1000000 by omega) (show m.1.natAbs % 1000000 ≤ 1000000 by omega)
  have hi := le_mul_bd (show n.1.natAbs / 1000000 ≤ 1000000 by omega) (show m.1.natAbs / 1000000 ≤ 1000000 by omega)
  have hx1 := le_mul_bd (show n.1.natAbs / 1000000 ≤ 1000000 by omega) (show m.1.natAbs % 1000000 ≤ 1000000 by omega)
  have hx2 := le_mul_bd (show n.1.natAbs % 1000000 ≤ 1000000 by omega) (show m.1.natAbs / 1000000 ≤ 1000000 by omega)
  have hbig := le_mul_bd (show n.1.natAbs ≤ 1000000000000 by omega) (show m.1.natAbs ≤ 1000000000000 by omega)
  have pc : ∀ x y : Nat, j6 (x : Int) * j6 (y : Int) = j6 ((x * y : Nat) : Int) := by intro x y; rw [j6_mul, Int.natCast_mul]
  have ac : ∀ x y : Nat, j6 (x : Int) + j6 (y : Int) = j6 ((x + y : Nat) : Int) := by intro x y; rw [j6_add, Int.natCast_add]
  have lc : (1000000 : Int64) = j6 ((1000000 : Nat) : Int) := rfl
  rw [pc (n.1.natAbs % 1000000) (m.1.natAbs % 1000000), q2 (n.1.natAbs % 1000000 * (m.1.natAbs % 1000000)) (by omega), q1 (n.1.natAbs % 1000000 * (m.1.natAbs % 1000000)) (by omega), pc, pc, pc, lc, pc, ac, ac, ac]
  rw [← ms1, ← ms2]
  have e1 : i3 n.2 + i3 m.2 - 16 = i3 (n.2 + m.2 - 16) := by rw [i3_lit, i3_add, i3_sub]
  have r1 : ∀ v w x y, gI (sI (sJ (sI s 31 0 v) 31 1 w) 31 2 x) l y = gI s l y := by
    intro v w x y
    rw [gI_sI, if_neg (by omega), gI_sJ, gI_sI, if_neg (by omega)]
  have r2 : ∀ v w x y, gI (sI (sJ (sI s 31 0 v) 31 1 w) 31 2 x) r y = gI s r y := by
    intro v w x y
    rw [gI_sI, if_neg (by omega), gI_sJ, gI_sI, if_neg (by omega)]
  rw [r1, r2, hn.2, hm.2, e1]
  have hle : n.1.natAbs * m.1.natAbs / 1000000 ≤ n.1.natAbs * m.1.natAbs := Nat.div_le_self ..
  refine ⟨n.1.natAbs * m.1.natAbs / 1000000, !decide (n.1.natAbs * m.1.natAbs % 1000000 = 0), n.2 + m.2 - 16, !decide (decide (n.1 < 0) = decide (m.1 < 0)), ⟨rfl, ?_, rfl, ?_⟩, by omega, by omega, by omega, ?_⟩
  · show zb (!decide (j6 _ = 0)) = _
    rw [ne0_j6 (by omega)]
    by_cases g : n.1.natAbs * m.1.natAbs % 1000000 = 0
    · rw [g]; rfl
    · rw [decide_eq_true (by omega), decide_eq_false g]; rfl
  · show zb (!decide (zb _ = zb _)) = _
    simp only [zb_inj]
  · intro q hq
    by_cases z : n.1.natAbs * m.1.natAbs = 0
    · rw [z] at hq ⊢
      rcases hq with ⟨_, h⟩ | ⟨h, _⟩
      · exact Or.inl ⟨rfl, h⟩
      · omega
    · have z1 : n.1.natAbs ≠ 0 := fun q => z (by rw [q, Nat.zero_mul])
      have z2 : m.1.natAbs ≠ 0 := fun q => z (by rw [q, Nat.mul_zero])
      have g1 : 100000000000 ≤ n.1.natAbs := by rcases vn with h | h <;> omega
      have g2 : 100000000000 ≤ m.1.natAbs := by rcases vm with h | h <;> omega
      have g3 := Nat.mul_le_mul g1 g2
      have := FIN_cut (W' := n.1.natAbs * m.1.natAbs) (j := 6) hq (by
        show _ ↔ n.1.natAbs * m.1.natAbs % 1000000 ≠ 0
        by_cases g : n.1.natAbs * m.1.natAbs % 1000000 = 0
        · simp [g]
        · simp [g]) (by show 10 ^ 12 ≤ n.1.natAbs * m.1.natAbs / 1000000; omega)
      rw [show n.2 + m.2 - 22 = n.2 + m.2 - 16 - (6 : Nat) by omega]
      exact this
theorem div_step {A B P : Nat} (hB : 0 < B) : A * (P * 100000) / B = A * P / B * 100000 + A * P % B * 100000 / B ∧ A * (P * 100000) % B = A * P % B * 100000 % B := by
  have h := Nat.div_add_mod (A * P) B
  have e : A * (P * 100000) = B * (A * P / B * 100000) + A * P % B * 100000 := by
    rw [← Nat.mul_assoc A P]
    generalize A * P / B = v at *
    generalize A * P % B = w at *
    rw [← h, Nat.add_mul, Nat.mul_assoc]
  constructor
  · rw [e, Nat.mul_add_div hB]
  · rw [e, Nat.mul_add_mod]
theorem cdiv_41 (l r : Nat) {n m : Int × Int} (hl : l ≠ 31) (hr : r ≠ 31) (vn : vN n) (vm : vN m) (hz : m.1 ≠ 0) : ∀ (k i : Nat) (s : xS), i ≤ 3 → 4 ≤ k + i → cN s l n → cN s r m → gJ s 31 1 = j6 (n.1.natAbs * 10 ^ (5 * i) / m.1.natAbs : Nat) → ar_divide_41_ok k s l r (j6 m.1.natAbs) (j6 (n.1.natAbs * 10 ^ (5 * i) % m.1.natAbs : Nat)) (i3 i) ∧ fr P31 s (ar_divide_41 k s l r (j6 m.1.natAbs) (j6 (n.1.natAbs * 10 ^ (5 * i) % m.1.natAbs : Nat)) (i3 i)) ∧ cA (ar_divide_41 k s l r (j6 m.1.natAbs) (j6 (n.1.natAbs * 10 ^ (5 * i) % m.1.natAbs : Nat)) (i3 i)) (n.1.natAbs * 10 ^ 15 / m.1.natAbs) (!decide (n.1.natAbs * 10 ^ 15 % m.1.natAbs = 0)) (n.2 - m.2 - 15) (!decide (decide (n.1 < 0) = decide (m.1 < 0))) := by
  have b1 := vN_b vn
  have b2 := vN_b vm
  have hB : 100000000000 ≤ m.1.natAbs := by rcases vm with h | h <;> omega
  intro k
  induction k with
  | zero => intro i s h1 h2; omega
  | succ k ih =>
    intro i s h1 h2 hn hm hw
    unfold ar_divide_41 ar_divide_41_ok
    have c1 : ((3 : Int32) ≤ i3 i) = (3 ≤ i) := by rw [i3_lit, i3_le (by omega)]; apply propext; omega
    simp only [c1]
    have hrl := Nat.mod_lt (n.1.natAbs * 10 ^ (5 * i)) (show 0 < m.1.natAbs by omega)
    by_cases g : 3 ≤ i
    · have : i = 3 := by omega
      subst this
      rw [show 5 * 3 = 15 from rfl] at hw hrl ⊢
      rw [if_pos g, below s hn vn, below s hm vm]
      refine ⟨fun q => absurd g q, fr_sI (fr_sI (fr_sI (fr_refl ..) rfl) rfl) rfl, ?_, ?_, ?_, ?_⟩
      · rw [gJ_sI, gJ_sI, gJ_sI]; exact hw
      · rw [gI_sI, if_neg (by omega), gI_sI, if_pos ⟨rfl, rfl⟩, ne0_j6 (by omega)]
        by_cases g : n.1.natAbs * 10 ^ 15 % m.1.natAbs = 0
        · rw [g]; rfl
        · rw [decide_eq_true (by omega), decide_eq_false g]; rfl
      · show gI (sI (sI s 31 0 _) 31 2 _) l 1 - gI (sI (sI s 31 0 _) 31 2 _) r 1 - 15 = _
        rw [gI_sI, if_neg (by omega), gI_sI, if_neg (by omega), gI_sI, if_neg (by omega), gI_sI, if_neg (by omega), hn.2, hm.2, i3_lit, i3_sub, i3_sub]
      · show zb (!decide (zb _ = zb _)) = _
        simp only [zb_inj]
    · rw [if_neg g]
      obtain ⟨d1, d2⟩ := div_step (A := n.1.natAbs) (B := m.1.natAbs) (P := 10 ^ (5 * i)) (by omega)
      have e0 : 10 ^ (5 * i) * 100000 = 10 ^ (5 * (i + 1)) := by
        rw [show (100000 : Nat) = 10 ^ 5 from rfl, ← Nat.pow_add, show 5 * (i + 1) = 5 * i + 5 by omega]
      rw [e0] at d1 d2
      have e1 : j6 (n.1.natAbs * 10 ^ (5 * i) % m.1.natAbs : Nat) * 100000 = j6 (n.1.natAbs * 10 ^ (5 * i) % m.1.natAbs * 100000 : Nat) := by
        rw [j6_lit, j6_mul, Int.natCast_mul]; rfl
      have e2 : j6 (n.1.natAbs * 10 ^ (5 * i) % m.1.natAbs * 100000 : Nat) / j6 m.1.natAbs = j6 (n.1.natAbs * 10 ^ (5 * i) % m.1.natAbs * 100000 / m.1.natAbs : Nat) := by
        rw [j6_quo (by omega), Int.natCast_ediv]
      have e3 : j6 (n.1.natAbs * 10 ^ (5 * i) % m.1.natAbs * 100000 : Nat) - j6 (n.1.natAbs * 10 ^ (5 * i) % m.1.natAbs * 100000 : Nat) / j6 m.1.natAbs * j6 m.1.natAbs = j6 (n.1.natAbs * 10 ^ (5 * (i + 1)) % m.1.natAbs : Nat) := by
        rw [j6_quo (by omega), j6_mul, j6_sub, mod_sub, d2]
      have e4 : j6 (n.1.natAbs * 10 ^ (5 * i) / m.1.natAbs : Nat) * 100000 + j6 (n.1.natAbs * 10 ^ (5 * i) % m.1.natAbs * 100000 / m.1.natAbs : Nat) = j6 (n.1.natAbs * 10 ^ (5 * (i + 1)) / m.1.natAbs : Nat) := by
        rw [d1, j6_lit, j6_mul, j6_add, Int.natCast_add, Int.natCast_mul]; rfl
      have e5 : i3 i + 1 = i3 (i + 1 : Nat) := by rw [i3_lit, i3_add]; rfl
      rw [e1, e3, e2, hw, e4, e5]
      obtain ⟨p1, p2, p3⟩ := ih (i + 1) (sJ s 31 1 (j6 (n.1.natAbs * 10 ^ (5 * (i + 1)) / m.1.natAbs : Nat))) (by omega) (by omega) ⟨by rw [gJ_sJ, if_neg (by omega)]; exact hn.1, hn.2⟩ ⟨by rw [gJ_sJ, if_neg (by omega)]; exact hm.1, hm.2⟩ rfl
      have nz : ¬ j6 (m.1.natAbs : Int) = 0 := by rw [j6_lit, j6_eq (by omega)]; omega
      exact ⟨fun _ => ⟨nz, nz, p1⟩, fr_trans (fr_sJ (fr_refl ..) rfl) p2, p3⟩
theorem cdiv (s : xS) (l r : Nat) {n m : Int × Int} (hl : l ≠ 31) (hr : r ≠ 31) (hn : cN s l n) (hm : cN s r m) (vn : vN n) (vm : vN m) (hz : m.1 ≠ 0) : ar_divide_ok s l r ∧ fr P31 s (ar_divide s l r) ∧ cA (ar_divide s l r) (n.1.natAbs * 10 ^ 15 / m.1.natAbs) (!decide (n.1.natAbs * 10 ^ 15 % m.1.natAbs = 0)) (n.2 - m.2 - 15) (!decide (decide (n.1 < 0) = decide (m.1 < 0))) := by
  rw [ar_divide_eq]
  unfold ar_divide_ok ar_divide_d
  have b1 := vN_b vn
  have b2 := vN_b vm
  rw [hn.1, hm.1, labs_j6 (by omega), labs_j6 (by omega)]
  have nz : ¬ j6 (m.1.natAbs : Int) = 0 := by rw [j6_lit, j6_eq (by omega)]; omega
  rw [if_pos nz]
  have e1 : j6 (n.1.natAbs : Int) / j6 (m.1.natAbs : Int) = j6 (n.1.natAbs * 10 ^ (5 * 0) / m.1.natAbs : Nat) := by
    rw [j6_quo (by omega)]; simp
  have e2 : j6 (n.1.natAbs : Int) - j6 (n.1.natAbs : Int) / j6 (m.1.natAbs : Int) * j6 (m.1.natAbs : Int) = j6 (n.1.natAbs * 10 ^ (5 * 0) % m.1.natAbs : Nat) := by
    rw [j6_quo (by omega), j6_mul, j6_sub, mod_sub]; simp
  rw [e2, e1]
  obtain ⟨p1, p2, p3⟩ := cdiv_41 l r hl hr vn vm hz xfu 0 (sJ s 31 1 (j6 (n.1.natAbs * 10 ^ (5 * 0) / m.1.natAbs : Nat))) (by omega) (by rw [xfu_eq]; omega) ⟨by rw [gJ_sJ, if_neg (by omega)]; exact hn.1, hn.2⟩ ⟨by rw [gJ_sJ, if_neg (by omega)]; exact hm.1, hm.2⟩ rfl
  exact ⟨fun _ => ⟨nz, nz, p1⟩, fr_trans (fr_sJ (fr_refl ..) rfl) p2, p3⟩
