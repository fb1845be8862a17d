/-! THE REFERENCE'S SUM, whole -/
/-- a number as the reference's sign, digits and exponent -/
def rA (z : Int32) (d : Int64) (e : Int32) (n : Int × Int) : Prop := z = i3 n.1.sign ∧ (n.1 ≠ 0 → d = j6 n.1.natAbs ∧ e = i3 n.2)
theorem radd_end (s : xS) {ρ : Nat → Int} {z : Int} {X : Nat} (h : rowZ s ρ) (hb : ∀ j, j < 212 → -9 ≤ ρ j ∧ ρ j ≤ 18) (hv : zV ρ 0 212 = X) (hX : X < 10 ^ 212) (hz : X ≠ 0 → z = 1 ∨ z = -1) : tm_add_98_ok xfu s (i3 z) 211 ∧ ∃ q, FIN X false (-111) (decide (z < 0)) q ∧ rRes s (tm_add_98 xfu s (i3 z) 211) (rs q) :=
  rsum_98 hz hX xfu 211 s ρ (by omega) (by rw [xfu_eq]; omega) h hv (fun j h1 h2 => by omega) (by have := hb 211 (by omega); omega) (fun j hj => hb j (by omega))
theorem radd_fin {n m : Int × Int} {z : Int} {X : Nat} {q : Option (Int × Int)} (hz : X ≠ 0 → z = 1 ∨ z = -1) (hs : sumX n m = z * ((X * 10 ^ 20 : Nat) : Int)) (hq : FIN X false (-111) (decide (z < 0)) q) : rs q = aSum n m := by
  unfold aSum
  congr 1
  apply aFin_eq
  have h1 := FIN_zeros 20 hq
  rw [show (-111 : Int) - ((20 : Nat) : Int) = -131 from rfl] at h1
  have hp := tenP_pos 20
  by_cases g : X = 0
  · subst g
    rw [Nat.zero_mul] at hs h1
    rw [hs, Int.natCast_zero, Int.mul_zero]
    rcases h1 with ⟨_, h1⟩ | ⟨h1, _⟩
    · exact Or.inl ⟨rfl, h1⟩
    · omega
  · have hpos : 0 < X * 10 ^ 20 := Nat.mul_pos (by omega) hp
    generalize X * 10 ^ 20 = Y at *
    rcases hz g with rfl | rfl
    · rw [hs, show (1 : Int) * (Y : Int) = Y by omega, decide_eq_false (show ¬ (Y : Int) < 0 by omega)]
      exact h1
    · rw [hs, show (-1 : Int) * (Y : Int) = -Y by omega, decide_eq_true (show (-(Y : Int)) < 0 by omega), Int.natAbs_neg]
      exact h1
theorem win_rng (a d k : Nat) : 0 ≤ win a d k ∧ win a d k ≤ 9 := by
  unfold win
  split <;> omega
theorem tR_eq {e : Int} (he : -99 ≤ e ∧ e ≤ 99) : 212 = (100 - e).toNat + 12 + (100 + e).toNat := by omega
theorem win_val {e : Int} {d : Nat} (he : -99 ≤ e ∧ e ≤ 99) (hd : d < 10 ^ 12) : zV (win (100 - e).toNat d) 0 212 = d * 10 ^ (100 + e).toNat := by
  rw [tR_eq he]; exact win_zV _ hd
theorem lay_bd {e : Int} {d : Nat} (he : -99 ≤ e ∧ e ≤ 99) (hd : d < 10 ^ 12) : d * 10 ^ (100 + e).toNat < 10 ^ 211 := by
  have h1 : d * 10 ^ (100 + e).toNat < 10 ^ 12 * 10 ^ (100 + e).toNat := Nat.mul_lt_mul_of_pos_right hd (tenP_pos _)
  rw [← Nat.pow_add] at h1
  exact Nat.lt_of_lt_of_le h1 (tenP (by omega))
theorem tE_eq {e : Int} (he : -99 ≤ e ∧ e ≤ 99) : tE e = (100 + e).toNat + 20 := by unfold tE; omega
theorem sumX_eq {n m : Int × Int} (hn : -99 ≤ n.2 ∧ n.2 ≤ 99) (hm : -99 ≤ m.2 ∧ m.2 ≤ 99) : sumX n m = (n.1 * 10 ^ (100 + n.2).toNat + m.1 * 10 ^ (100 + m.2).toNat) * 10 ^ 20 := by
  unfold sumX
  rw [tE_eq hn, tE_eq hm, Int.pow_add, Int.pow_add, Int.add_mul, Int.mul_assoc, Int.mul_assoc]
theorem lay_cmp {d1 d2 : Nat} {e1 e2 : Int} (h1 : -99 ≤ e1 ∧ e1 ≤ 99) (h2 : -99 ≤ e2 ∧ e2 ≤ 99) (a1 : 10 ^ 11 ≤ d1) (a2 : d2 < 10 ^ 12) (h : e2 < e1 ∨ (e1 = e2 ∧ d2 ≤ d1)) : d2 * 10 ^ (100 + e2).toNat ≤ d1 * 10 ^ (100 + e1).toNat := by
  rcases h with h | ⟨rfl, h⟩
  · have e : (100 + e1).toNat = (e1 - e2 - 1).toNat + 1 + (100 + e2).toNat := by omega
    rw [e, Nat.pow_add, ← Nat.mul_assoc]
    apply Nat.mul_le_mul_right
    rw [tenP_s]
    have := tenP_pos (e1 - e2 - 1).toNat
    generalize 10 ^ (e1 - e2 - 1).toNat = P at *
    have h3 : 10 ^ 11 * 1 ≤ d1 * P := Nat.mul_le_mul a1 this
    have h4 : d1 * (10 * P) = 10 * (d1 * P) := Nat.mul_left_comm ..
    omega
  · exact Nat.mul_le_mul_right _ h
theorem sgn_abs (z : Int) : z = z.sign * (z.natAbs : Int) := (Int.sign_mul_natAbs z).symm
theorem sgn_pm {z : Int} (h : z ≠ 0) : z.sign = 1 ∨ z.sign = -1 := by
  rcases Int.lt_trichotomy z 0 with g | g | g
  · exact Or.inr (Int.sign_eq_neg_one_of_neg g)
  · exact absurd g h
  · exact Or.inl (Int.sign_eq_one_of_pos g)
theorem sgn_rng (z : Int) : -1 ≤ z.sign ∧ z.sign ≤ 1 := by
  by_cases h : z = 0
  · subst h; exact ⟨by decide, by decide⟩
  · rcases sgn_pm h with h | h <;> omega
theorem sgn_zero {z : Int} : z.sign = 0 ↔ z = 0 := Int.sign_eq_zero_iff_zero
theorem compare_lt {d1 d2 : Nat} {e1 e2 : Int} (h1 : -99 ≤ e1 ∧ e1 ≤ 99) (h2 : -99 ≤ e2 ∧ e2 ≤ 99) (a1 : d1 < 10 ^ 12) (a2 : d2 < 10 ^ 12) : (tm_compare (j6 d1) (i3 e1) (j6 d2) (i3 e2) < 0) = (e1 < e2 ∨ (e1 = e2 ∧ d1 < d2)) := by
  unfold tm_compare
  have c1 : (i3 e1 = i3 e2) = (e1 = e2) := by rw [i3_eq (by omega)]
  have c2 : (j6 d2 ≤ j6 d1) = (d2 ≤ d1) := j6_leN (by omega) (by omega)
  have c3 : (i3 e2 ≤ i3 e1) = (e2 ≤ e1) := by rw [i3_le (by omega)]
  simp only [c1, c2, c3]
  apply propext
  by_cases g1 : e1 = e2
  · rw [if_pos g1]
    by_cases g2 : d2 ≤ d1
    · rw [if_pos g2]
      constructor
      · intro q
        generalize (!decide (j6 (d1 : Int) ≤ j6 (d2 : Int))) = b at q
        cases b
        · exact absurd q (by decide)
        · exact absurd q (by decide)
      · intro q; omega
    · rw [if_neg g2]
      exact ⟨fun _ => by omega, fun _ => by decide⟩
  · rw [if_neg g1]
    by_cases g2 : e2 ≤ e1
    · rw [if_pos g2]
      exact ⟨fun q => absurd q (by decide), fun q => by omega⟩
    · rw [if_neg g2]
      exact ⟨fun _ => by omega, fun _ => by decide⟩
theorem i3_sg {a b : Int} : (i3 a.sign = i3 b.sign) = (a.sign = b.sign) := by
  have := sgn_rng a
  have := sgn_rng b
  rw [i3_eq (by omega)]
theorem i3_sg0 {a : Int} : (i3 a.sign = 0) = (a = 0) := by
  have := sgn_rng a
  rw [i3_lit, i3_eq (by omega)]
  exact propext sgn_zero
theorem rsum (s : xS) {z z2 e e2 : Int32} {d d2 : Int64} {n m : Int × Int} (hn : rA z d e n) (hm : rA z2 d2 e2 m) (vn : vN n) (vm : vN m) : tm_add_ok s z d e z2 d2 e2 ∧ rRes s (tm_add s z d e z2 d2 e2) (aSum n m) := by
  rw [tm_add_eq]
  unfold tm_add_ok tm_add_d
  rw [tm_add_31_eq]
  unfold tm_add_31_ok tm_add_31_d
  rw [tm_add_44_eq]
  unfold tm_add_44_ok tm_add_44_d
  rw [tm_add_68_eq]
  unfold tm_add_68_ok tm_add_68_d
  obtain ⟨k1, k2, k3⟩ := rclear s
  have fr1 := P242_row k2
  have b1 := vN_b vn
  have b2 := vN_b vm
  obtain ⟨rfl, hn2⟩ := hn
  obtain ⟨rfl, hm2⟩ := hm
  simp only [i3_sg0]
  have hs := sumX_eq b1.2 b2.2
  have z211 : i3 (0 : Int).sign = 0 := rfl
  have res : ∀ {t : xS} {q : Int32 × xS} {c : Int × (Int × Int)}, fr Prow s t → rRes t q c → rRes s q c := fun h h' => ⟨fr_trans h h'.1, h'.2⟩
  have vs : ∀ (b : Int) (e : Int) (d : Nat), (-99 ≤ e ∧ e ≤ 99) → d < 10 ^ 12 → zV (fun i => (fun _ => (0 : Int)) i + b * win (100 - e).toNat d i) 0 212 = b * (d * 10 ^ (100 + e).toNat : Nat) := by
    intro b e d he hd
    rw [zV_lin (fun _ => 0) (win (100 - e).toNat d) b 0 212, win_val he hd, zV_zero (fun _ _ => rfl), Int.zero_add, Int.natCast_mul, pI]
  by_cases g1 : n.1 = 0
  · have h0 : (!decide (n.1 = 0) && (decide (m.1 = 0) || !decide (tm_compare d e d2 e2 < 0))) = false := by rw [decide_eq_true g1]; rfl
    rw [h0]
    simp only [zb_ff, show (i3 0 = (0 : Int32)) = True from eq_true rfl, if_true, if_pos g1]
    by_cases g2 : m.1 = 0
    · rw [if_pos g2, g2, z211]
      obtain ⟨p1, q, p2, p3⟩ := radd_end (tm_clearRow s) (z := 0) (X := 0) k3 (fun j _ => by omega) (zV_zero (fun _ _ => rfl)) (tenP_pos _) (fun q => absurd rfl q)
      refine ⟨⟨k1, fun _ => ⟨fun _ => p1, fun q => absurd rfl q⟩, fun q => absurd g1 q⟩, ?_⟩
      rw [← radd_fin (n := n) (m := m) (z := 0) (X := 0) (fun q => absurd rfl q) (by rw [hs, g1, g2]; simp) p2]
      exact res fr1 p3
    · obtain ⟨rfl, rfl⟩ := hm2 g2
      rw [if_neg g2]
      obtain ⟨l1, l2, l3⟩ := rlay (tm_clearRow s) (b := 1) b2.2 b2.1 k3
      have hv := vs 1 m.2 m.1.natAbs b2.2 b2.1
      rw [Int.one_mul] at hv
      obtain ⟨p1, q, p2, p3⟩ := radd_end (tm_lay (tm_clearRow s) (j6 m.1.natAbs) (i3 m.2) (i3 1)) (z := m.1.sign) l3 (fun j _ => by have := win_rng (100 - m.2).toNat m.1.natAbs j; (try dsimp only); omega) hv (Nat.lt_of_lt_of_le (lay_bd b2.2 b2.1) (tenP (by omega))) (fun _ => sgn_pm g2)
      refine ⟨⟨k1, fun _ => ⟨fun q => absurd q g2, fun _ => ⟨l1, p1⟩⟩, fun q => absurd g1 q⟩, ?_⟩
      rw [← radd_fin (n := n) (m := m) (z := m.1.sign) (fun _ => sgn_pm g2) (by
        rw [hs, g1, Int.zero_mul, Int.zero_add, Int.natCast_mul, Int.natCast_mul, pI, pI, ← Int.mul_assoc, ← Int.mul_assoc, ← sgn_abs]) p2]
      exact res (fr_trans fr1 (P242_row l2)) p3
  · obtain ⟨rfl, rfl⟩ := hn2 g1
    by_cases g2 : m.1 = 0
    · have h0 : (!decide (n.1 = 0) && (decide (m.1 = 0) || !decide (tm_compare (j6 n.1.natAbs) (i3 n.2) d2 e2 < 0))) = true := by rw [decide_eq_true g2, decide_eq_false g1]; rfl
      rw [h0]
      simp only [zb_tt, show (i3 1 = (0 : Int32)) = False from eq_false (by decide), if_false, if_neg g1, if_pos g2, if_true]
      obtain ⟨l1, l2, l3⟩ := rlay (tm_clearRow s) (b := 1) b1.2 b1.1 k3
      have hv := vs 1 n.2 n.1.natAbs b1.2 b1.1
      rw [Int.one_mul] at hv
      obtain ⟨p1, q, p2, p3⟩ := radd_end (tm_lay (tm_clearRow s) (j6 n.1.natAbs) (i3 n.2) (i3 1)) (z := n.1.sign) l3 (fun j _ => by have := win_rng (100 - n.2).toNat n.1.natAbs j; (try dsimp only); omega) hv (Nat.lt_of_lt_of_le (lay_bd b1.2 b1.1) (tenP (by omega))) (fun _ => sgn_pm g1)
      refine ⟨⟨k1, fun q => absurd q g1, fun _ => ⟨l1, fun _ => p1, fun q => absurd g2 q⟩⟩, ?_⟩
      rw [← radd_fin (n := n) (m := m) (z := n.1.sign) (fun _ => sgn_pm g1) (by
        rw [hs, g2, Int.zero_mul, Int.add_zero, Int.natCast_mul, Int.natCast_mul, pI, pI, ← Int.mul_assoc, ← Int.mul_assoc, ← sgn_abs]) p2]
      exact res (fr_trans fr1 (P242_row l2)) p3
    · obtain ⟨rfl, rfl⟩ := hm2 g2
      have a1 : 10 ^ 11 ≤ n.1.natAbs := by rcases vn with h | h <;> omega
      have a2 : 10 ^ 11 ≤ m.1.natAbs := by rcases vm with h | h <;> omega
      have cl := compare_lt (d1 := n.1.natAbs) (d2 := m.1.natAbs) b1.2 b2.2 b1.1 b2.1
      -- the sign s that is taken, and what is laid
      have core : ∀ σ : Int, (σ = 1 ∨ σ = -1) → ∀ X : Nat, (n.1.sign * σ) * (n.1.natAbs * 10 ^ (100 + n.2).toNat : Nat) + (m.1.sign * σ) * (m.1.natAbs * 10 ^ (100 + m.2).toNat : Nat) = X → (n.1.sign = σ ∨ m.1.sign = σ) → (tm_lay_ok (tm_clearRow s) (j6 n.1.natAbs) (i3 n.2) (if i3 n.1.sign = i3 σ then (1 : Int32) else (-1)) ∧ tm_lay_ok (tm_lay (tm_clearRow s) (j6 n.1.natAbs) (i3 n.2) (if i3 n.1.sign = i3 σ then (1 : Int32) else (-1))) (j6 m.1.natAbs) (i3 m.2) (if i3 m.1.sign = i3 σ then (1 : Int32) else (-1)) ∧ tm_add_98_ok xfu (tm_lay (tm_lay (tm_clearRow s) (j6 n.1.natAbs) (i3 n.2) (if i3 n.1.sign = i3 σ then (1 : Int32) else (-1))) (j6 m.1.natAbs) (i3 m.2) (if i3 m.1.sign = i3 σ then (1 : Int32) else (-1))) (i3 σ) 211) ∧ rRes s (tm_add_98 xfu (tm_lay (tm_lay (tm_clearRow s) (j6 n.1.natAbs) (i3 n.2) (if i3 n.1.sign = i3 σ then (1 : Int32) else (-1))) (j6 m.1.natAbs) (i3 m.2) (if i3 m.1.sign = i3 σ then (1 : Int32) else (-1))) (i3 σ) 211) (aSum n m) := by
        intro σ hσ X hX hor
        have w : ∀ {y : Int}, y ≠ 0 → (if i3 y.sign = i3 σ then (1 : Int32) else (-1)) = i3 (y.sign * σ) := by
          intro y hy
          have c : (i3 y.sign = i3 σ) = (y.sign = σ) := by
            have := sgn_rng y
            rw [i3_eq (by omega)]
          simp only [c]
          rcases sgn_pm hy with h | h <;> rcases hσ with h' | h' <;> rw [h, h'] <;> rfl
        rw [w g1, w g2]
        obtain ⟨l1, l2, l3⟩ := rlay (tm_clearRow s) (b := n.1.sign * σ) b1.2 b1.1 k3
        obtain ⟨o1, o2, o3⟩ := rlay (tm_lay (tm_clearRow s) (j6 n.1.natAbs) (i3 n.2) (i3 (n.1.sign * σ))) (b := m.1.sign * σ) b2.2 b2.1 l3
        have hv := zV_lin (fun i => (fun _ => (0 : Int)) i + (n.1.sign * σ) * win (100 - n.2).toNat n.1.natAbs i) (win (100 - m.2).toNat m.1.natAbs) (m.1.sign * σ) 0 212
        rw [vs _ n.2 n.1.natAbs b1.2 b1.1, win_val b2.2 b2.1, ← pI, ← Int.natCast_mul, hX] at hv
        have hXb : X < 10 ^ 212 := by
          have x1 := lay_bd b1.2 b1.1
          have x2 := lay_bd b2.2 b2.1
          rw [tenP_s 211]
          generalize n.1.natAbs * 10 ^ (100 + n.2).toNat = A at *
          generalize m.1.natAbs * 10 ^ (100 + m.2).toNat = B at *
          generalize 10 ^ 211 = P at *
          rcases sgn_pm g1 with h | h <;> rcases sgn_pm g2 with h2 | h2 <;> rcases hσ with h3 | h3 <;> rw [h, h2, h3] at hX <;> omega
        obtain ⟨p1, q, p2, p3⟩ := radd_end (tm_lay (tm_lay (tm_clearRow s) (j6 n.1.natAbs) (i3 n.2) (i3 (n.1.sign * σ))) (j6 m.1.natAbs) (i3 m.2) (i3 (m.1.sign * σ))) (z := σ) (X := X) o3 (fun j _ => by
          have r1 := win_rng (100 - n.2).toNat n.1.natAbs j
          have r2 := win_rng (100 - m.2).toNat m.1.natAbs j
          try dsimp only
          rcases sgn_pm g1 with h | h <;> rcases sgn_pm g2 with h2 | h2 <;> rcases hσ with h3 | h3 <;> rw [h, h2, h3] <;> rw [h, h2, h3] at hor <;> omega) hv hXb (fun _ => hσ)
        refine ⟨⟨l1, o1, p1⟩, ?_⟩
        rw [← radd_fin (n := n) (m := m) (z := σ) (fun _ => hσ) (by
          rw [hs, Int.natCast_mul, ← hX, pI, ← Int.mul_assoc]
          refine congrArg (· * (10 : Int) ^ 20) ?_
          rw [Int.natCast_mul, Int.natCast_mul, pI, pI, Int.mul_add]
          have s2 : σ * σ = 1 := by rcases hσ with h | h <;> rw [h] <;> rfl
          have t : ∀ (y : Int) (P : Int), σ * (y.sign * σ * ((y.natAbs : Int) * P)) = y * P := by
            intro y P
            rw [Int.mul_comm y.sign σ, Int.mul_assoc σ, ← Int.mul_assoc σ σ, s2, Int.one_mul, ← Int.mul_assoc, ← sgn_abs]
          rw [t, t]) p2]
        exact res (fr_trans (fr_trans fr1 (P242_row l2)) (P242_row o2)) p3
      have hle := @lay_cmp n.1.natAbs m.1.natAbs n.2 m.2 b1.2 b2.2 a1 b2.1
      have hle' := @lay_cmp m.1.natAbs n.1.natAbs m.2 n.2 b2.2 b1.2 a2 b1.1
      have ss : ∀ {y : Int}, y ≠ 0 → y.sign * y.sign = 1 := by
        intro y hy; rcases sgn_pm hy with h | h <;> rw [h] <;> rfl
      by_cases g3 : n.2 < m.2 ∨ (n.2 = m.2 ∧ n.1.natAbs < m.1.natAbs)
      · have h0 : (!decide (n.1 = 0) && (decide (m.1 = 0) || !decide (tm_compare (j6 n.1.natAbs) (i3 n.2) (j6 m.1.natAbs) (i3 m.2) < 0))) = false := by
          rw [decide_eq_false g1, decide_eq_false g2, decide_eq_true (by rw [cl]; exact g3)]; rfl
        rw [h0]
        simp only [zb_ff, show (i3 0 = (0 : Int32)) = True from eq_true rfl, if_true, if_neg g1, if_neg g2]
        have hle2 := hle' (by omega)
        obtain ⟨X, hX⟩ : ∃ X : Nat, (n.1.sign * m.1.sign) * (n.1.natAbs * 10 ^ (100 + n.2).toNat : Nat) + (m.1.sign * m.1.sign) * (m.1.natAbs * 10 ^ (100 + m.2).toNat : Nat) = X := by
          rw [ss g2]
          generalize n.1.natAbs * 10 ^ (100 + n.2).toNat = A at *
          generalize m.1.natAbs * 10 ^ (100 + m.2).toNat = B at *
          rcases sgn_pm g1 with h | h <;> rcases sgn_pm g2 with h2 | h2 <;> rw [h, h2]
          · exact ⟨A + B, by omega⟩
          · exact ⟨B - A, by omega⟩
          · exact ⟨B - A, by omega⟩
          · exact ⟨A + B, by omega⟩
        obtain ⟨⟨p1, p2, p3⟩, p4⟩ := core m.1.sign (sgn_pm g2) X hX (Or.inr rfl)
        simp only [if_true] at p2 p3 p4
        exact ⟨⟨k1, fun q => absurd q g1, fun _ => ⟨p1, fun q => absurd q g2, fun _ => ⟨p2, p3⟩⟩⟩, p4⟩
      · have h0 : (!decide (n.1 = 0) && (decide (m.1 = 0) || !decide (tm_compare (j6 n.1.natAbs) (i3 n.2) (j6 m.1.natAbs) (i3 m.2) < 0))) = true := by
          rw [decide_eq_false g1, decide_eq_false g2, decide_eq_false (by rw [cl]; exact g3)]; rfl
        rw [h0]
        simp only [zb_tt, show (i3 1 = (0 : Int32)) = False from eq_false (by decide), if_false, if_neg g1, if_neg g2, if_true]
        have hle2 := hle (by omega)
        obtain ⟨X, hX⟩ : ∃ X : Nat, (n.1.sign * n.1.sign) * (n.1.natAbs * 10 ^ (100 + n.2).toNat : Nat) + (m.1.sign * n.1.sign) * (m.1.natAbs * 10 ^ (100 + m.2).toNat : Nat) = X := by
          rw [ss g1]
          generalize n.1.natAbs * 10 ^ (100 + n.2).toNat = A at *
          generalize m.1.natAbs * 10 ^ (100 + m.2).toNat = B at *
          rcases sgn_pm g1 with h | h <;> rcases sgn_pm g2 with h2 | h2 <;> rw [h, h2]
          · exact ⟨A + B, by omega⟩
          · exact ⟨A - B, by omega⟩
          · exact ⟨A - B, by omega⟩
          · exact ⟨A + B, by omega⟩
        obtain ⟨⟨p1, p2, p3⟩, p4⟩ := core n.1.sign (sgn_pm g1) X hX (Or.inl rfl)
        simp only [if_true] at p1 p2 p3 p4
        exact ⟨⟨k1, fun q => absurd q g1, fun _ => ⟨p1, fun q => absurd q g2, fun _ => ⟨p2, p3⟩⟩⟩, p4⟩
