/-! THE REFERENCE'S PRODUCT -/
def rB (z : Int32) (d : Int64) (e : Int32) (n : Int × Int) : Prop := z = i3 n.1.sign ∧ d = j6 n.1.natAbs ∧ e = i3 n.2
theorem rmul_24 (x1 x4 x5 x8 : Int32) (x6 : Int64) {i a L : Nat} {d : Nat} (hi : i ≤ 11) (hL : L < 10 ^ 12) (ha : a = L % 10) (hd : d < 10 ^ 12) : ∀ (n k : Nat) (s : xS) (ρ : Nat → Int), k ≤ 12 → 13 ≤ n + (12 - k) → rowZ s (fun p => ρ p + a * (if k ≤ p - (i + 1) ∧ i + 1 ≤ p then win (i + 1) d p else 0)) → tm_multiply_24_ok n s x1 x4 x5 x6 x8 (j6 L) (i3 i) (j6 (d / 10 ^ (12 - k) : Nat)) (i3 ((k : Int) - 1)) ∧ ∃ t, fr P242 s t ∧ tm_multiply_24 n s x1 x4 x5 x6 x8 (j6 L) (i3 i) (j6 (d / 10 ^ (12 - k) : Nat)) (i3 ((k : Int) - 1)) = (x1, x4, x5, x6, x8, j6 L, i3 i, t) ∧ rowZ t (fun p => ρ p + a * win (i + 1) d p) := by
  intro n
  induction n with
  | zero => intro k s ρ h1 h2; omega
  | succ n ih =>
    intro k s ρ h1 h2 h3
    unfold tm_multiply_24 tm_multiply_24_ok
    have c1 : (i3 ((k : Int) - 1) < 0) = (k = 0) := by rw [i3_lit, i3_lt (by omega)]; apply propext; omega
    simp only [c1]
    by_cases g : k = 0
    · subst g
      rw [if_pos rfl]
      refine ⟨⟨fun _ => trivial, fun q => absurd rfl q⟩, s, fr_refl .., rfl, fun p hp => ?_⟩
      rw [h3 p hp]
      dsimp only
      by_cases q : i + 1 ≤ p
      · rw [if_pos ⟨by omega, q⟩]
      · rw [if_neg (fun w => q w.2)]; unfold win; rw [if_neg (by omega)]
    · rw [if_neg g]
      obtain ⟨j, rfl⟩ : ∃ j, k = j + 1 := ⟨k - 1, by omega⟩
      have e1 : i3 i + i3 (((j + 1 : Nat) : Int) - 1) + 1 = i3 (i + 1 + j : Nat) := by rw [i3_lit, i3_add, i3_add]; exact congrArg i3 (by omega)
      have hq : d / 10 ^ (12 - (j + 1)) ≤ d := Nat.div_le_self ..
      have e2 : (j6 (d / 10 ^ (12 - (j + 1)) : Nat) - j6 (d / 10 ^ (12 - (j + 1)) : Nat) / 10 * 10).toInt32 = i3 (d / 10 ^ (12 - (j + 1)) % 10 : Nat) := by
        generalize d / 10 ^ (12 - (j + 1)) = v at *
        rw [j6_lit, j6_quo (by omega), j6_mul, j6_sub, j6_int]
        exact congrArg i3 (mod_sub v 10)
      have e2' : (j6 (L : Int) - j6 (L : Int) / 10 * 10).toInt32 = i3 a := by
        rw [j6_lit, j6_quo (by omega), j6_mul, j6_sub, j6_int, ha]
        exact congrArg i3 (mod_sub L 10)
      have e3 : j6 (d / 10 ^ (12 - (j + 1)) : Nat) / 10 = j6 (d / 10 ^ (12 - j) : Nat) := by
        have : d / 10 ^ (12 - j) = d / 10 ^ (12 - (j + 1)) / 10 := by
          rw [Nat.div_div_eq_div_mul, ← Nat.pow_succ]; congr 2; omega
        rw [this]
        generalize d / 10 ^ (12 - (j + 1)) = v at *
        rw [j6_lit, j6_quo (by omega), Int.natCast_ediv]; rfl
      have e4 : i3 (((j + 1 : Nat) : Int) - 1) + -1 = i3 ((j : Int) - 1) := by rw [i3_lit, i3_neg, i3_add]; exact congrArg i3 (by omega)
      have hlt : i + 1 + j < 256 := by omega
      rw [e2, e2', e3, e4, e1, i3_natN (by omega), h3 _ hlt, i3_mul, i3_add]
      obtain ⟨p1, t, p2, p3, p4⟩ := ih j (sI s 242 (i + 1 + j) (i3 (ρ (i + 1 + j) + a * (if j + 1 ≤ i + 1 + j - (i + 1) ∧ i + 1 ≤ i + 1 + j then win (i + 1) d (i + 1 + j) else 0) + a * ((d / 10 ^ (12 - (j + 1)) % 10 : Nat) : Int)))) ρ (by omega) (by omega) (by
        intro p hp
        have := rowZ_sI h3 (i + 1 + j) (ρ (i + 1 + j) + a * (if j + 1 ≤ i + 1 + j - (i + 1) ∧ i + 1 ≤ i + 1 + j then win (i + 1) d (i + 1 + j) else 0) + a * ((d / 10 ^ (12 - (j + 1)) % 10 : Nat) : Int)) p hp
        rw [this]
        unfold updZ
        dsimp only
        by_cases q : p = i + 1 + j
        · subst q
          rw [if_pos rfl, if_neg (by omega), if_pos (by omega), Int.mul_zero, Int.add_zero]
          unfold win
          rw [if_pos (by omega), show i + 1 + j - (i + 1) = j by omega, show 12 - (j + 1) = 11 - j by omega]
        · rw [if_neg q]
          by_cases q2 : j ≤ p - (i + 1) ∧ i + 1 ≤ p
          · rw [if_pos q2, if_pos (by omega)]
          · rw [if_neg q2, if_neg (by omega)])
      have hin : vp_in (i3 (i + 1 + j : Nat)) 256 := by rw [i3_inN (by omega)]; omega
      exact ⟨⟨fun q => absurd q (by omega), fun _ => ⟨hin, hin, p1⟩⟩, t, fr_trans (fr_sI (fr_refl ..) rfl) p2, p3, p4⟩
theorem rmul_101 {z1 z2 e1 e2 : Int} (h1 : -1 ≤ z1 ∧ z1 ≤ 1) (h2 : -1 ≤ z2 ∧ z2 ≤ 1) (he1 : -99 ≤ e1 ∧ e1 ≤ 99) (he2 : -99 ≤ e2 ∧ e2 ≤ 99) {X : Nat} (hX : X < 10 ^ 24) : ∀ (n k : Nat) (s : xS) (ρ : Nat → Int), k ≤ 23 → 24 ≤ n + (23 - k) → rowZ s ρ → zV ρ 0 24 = X → (∀ j, k < j → j < 24 → 0 ≤ ρ j ∧ ρ j ≤ 9) → (0 ≤ ρ k ∧ ρ k ≤ 2000) → (∀ j, j < k → 0 ≤ ρ j ∧ ρ j ≤ 1000) → tm_multiply_101_ok n s (i3 z1) (i3 e1) (i3 z2) (i3 e2) (i3 k) ∧ ((z1 * z2 = 0 ∧ rRes s (tm_multiply_101 n s (i3 z1) (i3 e1) (i3 z2) (i3 e2) (i3 k)) (0, (0, 0))) ∨ (z1 * z2 ≠ 0 ∧ ∃ q, FIN X false (e1 + e2 - 22) (decide (z1 * z2 < 0)) q ∧ rRes s (tm_multiply_101 n s (i3 z1) (i3 e1) (i3 z2) (i3 e2) (i3 k)) (rs q))) := by
  have hzz : z1 * z2 = 0 ∨ z1 * z2 = 1 ∨ z1 * z2 = -1 := by
    have a : z1 = -1 ∨ z1 = 0 ∨ z1 = 1 := by omega
    have b : z2 = -1 ∨ z2 = 0 ∨ z2 = 1 := by omega
    rcases a with h | h | h <;> rcases b with h' | h' | h' <;> rw [h, h'] <;> decide
  intro n
  induction n with
  | zero => intro k s ρ h1 h2; omega
  | succ n ih =>
    intro k s ρ h1 h2 h3 h4 h5 h6 h7
    unfold tm_multiply_101 tm_multiply_101_ok
    have c1 : (i3 k ≤ 0) = (k = 0) := by rw [i3_lit, i3_le (by omega)]; apply propext; omega
    have c2 : (i3 z1 * i3 z2 = 0) = (z1 * z2 = 0) := by rw [i3_mul, i3_lit, i3_eq (by omega)]
    simp only [c1]
    by_cases g : k = 0
    · subst g
      rw [if_pos rfl]
      simp only [c2]
      by_cases gz : z1 * z2 = 0
      · rw [if_pos gz]
        obtain ⟨p1, p2⟩ := rround0 s (i3 z1 * i3 z2) (i3 e1 + i3 e2 + 1) 0
        exact ⟨⟨fun _ => p1, fun q => by simp at q⟩, Or.inl ⟨gz, p2⟩⟩
      · rw [if_neg gz]
        have hpos : ∀ j, j < 24 → 0 ≤ ρ j ∧ ρ j ≤ 9 := by
          intro j hj
          by_cases q : j = 0
          · subst q
            have hs := zV_add ρ 0 1 23
            rw [show 1 + 23 = 24 from rfl, h4] at hs
            have h1 : zV ρ 0 1 = ρ 0 := by show 10 * 0 + ρ (0 + 0) = _; simp
            rw [h1] at hs
            have ht : zV ρ (0 + 1) 23 = (dV (fun k => (ρ k).toNat) (0 + 1) 23 : Nat) := zV_nat (fun k hk => (h5 _ (by omega) (by omega)).1)
            rw [ht, show (10 : Int) ^ 23 = ((10 ^ 23 : Nat) : Int) from (pI 23).symm] at hs
            have hX' : X < 10 * 10 ^ 23 := by rw [← tenP_s]; exact hX
            have hp := tenP_pos 23
            generalize 10 ^ 23 = P at *
            generalize dV (fun k => (ρ k).toNat) (0 + 1) 23 = t at *
            generalize ρ 0 = y at *
            refine ⟨by omega, ?_⟩
            by_cases q : y ≤ 9
            · exact q
            · have : 10 * P ≤ y * P := Int.mul_le_mul_of_nonneg_right (by omega) (by omega)
              omega
          · exact h5 j (by omega) hj
        have hrow : rowIs s (fun k => (ρ k).toNat) 24 := by
          intro k hk
          have := hpos k hk
          refine ⟨?_, by show (ρ k).toNat ≤ 9; omega⟩
          rw [h3 k (by omega)]
          exact congrArg i3 (show ρ k = ((ρ k).toNat : Int) by omega)
        have hv : dV (fun k => (ρ k).toNat) 0 24 = X := by
          have := zV_nat (ρ := ρ) (f := 0) (n := 24) (fun k hk => by rw [Nat.zero_add]; exact (hpos k hk).1)
          rw [h4] at this
          omega
        obtain ⟨p1, q, p2, p3⟩ := rround' s (z := z1 * z2) (f := e1 + e2 + 1) (c := 24) (m := false) hrow (by omega) (by omega) (fun _ => by omega)
        rw [hv, show e1 + e2 + 1 - ((24 : Nat) : Int) + 1 = e1 + e2 - 22 by omega] at p2
        have e3 : i3 e1 + i3 e2 + 1 = i3 (e1 + e2 + 1) := by rw [i3_lit, i3_add, i3_add]
        rw [i3_mul, e3]
        exact ⟨⟨fun _ => p1, fun q => by simp at q⟩, Or.inr ⟨gz, q, p2, p3⟩⟩
    · rw [if_neg g]
      have e1' : i3 k - 1 = i3 (k - 1 : Nat) := by rw [i3_lit, i3_sub]; exact congrArg i3 (by omega)
      have e2' : i3 k + -1 = i3 (k - 1 : Nat) := by rw [i3_lit, i3_neg, i3_add]; exact congrArg i3 (by omega)
      have hin : vp_in (i3 k) 256 := by rw [i3_inN (by omega)]; omega
      have hin' : vp_in (i3 (k - 1 : Nat)) 256 := by rw [i3_inN (by omega)]; omega
      have b7 := h7 (k - 1) (by omega)
      have e5 : i3 (ρ k) / 10 = i3 (ρ k / 10) := by rw [i3_lit, i3_quo (by omega)]
      have rd : ∀ v, gI (sI s 242 (k - 1) v) 242 k = i3 (ρ k) := by
        intro v; rw [gI_sI, if_neg (by omega), h3 k (by omega)]
      simp only [e1', e2', i3_natN (show k < 2147483648 by omega), i3_natN (show k - 1 < 2147483648 by omega), h3 (k - 1) (by omega), rd, h3 k (by omega), e5]
      have e6 : i3 (ρ k) - i3 (ρ k / 10) * 10 = i3 (ρ k - 10 * (ρ k / 10)) := by rw [i3_lit, i3_mul, i3_sub]; exact congrArg i3 (by omega)
      rw [e6, i3_add (ρ (k - 1)) (ρ k / 10)]
      obtain ⟨p1, p2⟩ := ih (k - 1) (sI (sI s 242 (k - 1) (i3 (ρ (k - 1) + ρ k / 10))) 242 k (i3 (ρ k - 10 * (ρ k / 10)))) (updZ (updZ ρ (k - 1) (ρ (k - 1) + ρ k / 10)) k (ρ k - 10 * (ρ k / 10))) (by omega) (by omega) (rowZ_sI (rowZ_sI h3 _ _) _ _) (by rw [zV_carry (ρ k / 10) (by omega) (by omega)]; exact h4) (by
            intro j j1 j2
            unfold updZ
            by_cases w : j = k
            · rw [if_pos w]; omega
            · rw [if_neg w, if_neg (by omega)]; exact h5 j (by omega) j2) (by
            unfold updZ
            rw [if_neg (by omega), if_pos rfl]; omega) (by
            intro j j1
            unfold updZ
            rw [if_neg (by omega), if_neg (by omega)]; exact h7 j (by omega))
      have ff : fr Prow s (sI (sI s 242 (k - 1) (i3 (ρ (k - 1) + ρ k / 10))) 242 k (i3 (ρ k - 10 * (ρ k / 10)))) := fr_sI (fr_sI (fr_refl ..) (Or.inl rfl)) (Or.inl rfl)
      refine ⟨⟨fun q => absurd q g, fun _ => ⟨hin', hin, hin', hin, hin, p1⟩⟩, ?_⟩
      rcases p2 with ⟨w, p3⟩ | ⟨w, q, p3, p4⟩
      · exact Or.inl ⟨w, fr_trans ff p3.1, p3.2⟩
      · exact Or.inr ⟨w, q, p3, fr_trans ff p4.1, p4.2⟩
theorem win24 {i d : Nat} (hi : i ≤ 11) (hd : d < 10 ^ 12) : zV (win (i + 1) d) 0 24 = d * 10 ^ (11 - i) := by
  have := win_zV (a := i + 1) (d := d) (11 - i) hd
  rwa [show i + 1 + 12 + (11 - i) = 24 by omega] at this
theorem rmul_11 {z1 z2 e1 e2 : Int} {d1 d2 : Nat} (h1 : -1 ≤ z1 ∧ z1 ≤ 1) (h2 : -1 ≤ z2 ∧ z2 ≤ 1) (he1 : -99 ≤ e1 ∧ e1 ≤ 99) (he2 : -99 ≤ e2 ∧ e2 ≤ 99) (hd1 : d1 < 10 ^ 12) (hd2 : d2 < 10 ^ 12) : ∀ (n k : Nat) (s : xS) (ρ : Nat → Int), k ≤ 12 → 13 ≤ n + (12 - k) → rowZ s ρ → zV ρ 0 24 = ((d1 % 10 ^ (12 - k) * d2 : Nat) : Int) → (∀ j, 0 ≤ ρ j ∧ ρ j ≤ 81 * (12 - k)) → tm_multiply_11_ok n s (i3 z1) (i3 e1) (i3 z2) (j6 d2) (i3 e2) (j6 (d1 / 10 ^ (12 - k) : Nat)) (i3 ((k : Int) - 1)) ∧ ((z1 * z2 = 0 ∧ rRes s (tm_multiply_11 n s (i3 z1) (i3 e1) (i3 z2) (j6 d2) (i3 e2) (j6 (d1 / 10 ^ (12 - k) : Nat)) (i3 ((k : Int) - 1))) (0, (0, 0))) ∨ (z1 * z2 ≠ 0 ∧ ∃ q, FIN (d1 * d2) false (e1 + e2 - 22) (decide (z1 * z2 < 0)) q ∧ rRes s (tm_multiply_11 n s (i3 z1) (i3 e1) (i3 z2) (j6 d2) (i3 e2) (j6 (d1 / 10 ^ (12 - k) : Nat)) (i3 ((k : Int) - 1))) (rs q))) := by
  intro n
  induction n with
  | zero => intro k s ρ h1 h2; omega
  | succ n ih =>
    intro k s ρ k1 k2 k3 k4 k5
    unfold tm_multiply_11 tm_multiply_11_ok
    have c1 : (i3 ((k : Int) - 1) < 0) = (k = 0) := by rw [i3_lit, i3_lt (by omega)]; apply propext; omega
    simp only [c1]
    by_cases g : k = 0
    · subst g
      rw [if_pos rfl]
      rw [show 12 - 0 = 12 from rfl, Nat.mod_eq_of_lt hd1] at k4
      have hX : d1 * d2 < 10 ^ 24 := by
        have := Nat.mul_lt_mul'' hd1 hd2
        rw [← Nat.pow_add] at this
        exact this
      obtain ⟨p1, p2⟩ := rmul_101 h1 h2 he1 he2 hX xfu 23 s ρ (by omega) (by rw [xfu_eq]; omega) k3 k4 (fun j j1 j2 => by omega) (by have := k5 23; omega) (fun j _ => by have := k5 j; omega)
      exact ⟨⟨fun _ => p1, fun q => absurd rfl q⟩, p2⟩
    · rw [if_neg g]
      obtain ⟨j, rfl⟩ : ∃ j, k = j + 1 := ⟨k - 1, by omega⟩
      have hq : d1 / 10 ^ (12 - (j + 1)) ≤ d1 := Nat.div_le_self ..
      have ei : i3 (((j + 1 : Nat) : Int) - 1) = i3 j := congrArg i3 (by omega)
      obtain ⟨m1, t, m2, m3, m4⟩ := rmul_24 (i3 z1) (i3 e1) (i3 z2) (i3 e2) (j6 d2) (i := j) (a := d1 / 10 ^ (12 - (j + 1)) % 10) (L := d1 / 10 ^ (12 - (j + 1))) (d := d2) (by omega) (by omega) rfl hd2 xfu 12 s ρ (by omega) (by rw [xfu_eq]; omega) (by
        intro p hp
        rw [k3 p hp]
        refine congrArg i3 ?_
        dsimp only
        by_cases q : 12 ≤ p - (j + 1) ∧ j + 1 ≤ p
        · rw [if_pos q]; unfold win; rw [if_neg (by omega), Int.mul_zero, Int.add_zero]
        · rw [if_neg q, Int.mul_zero, Int.add_zero])
      rw [show 12 - 12 = 0 from rfl, Nat.pow_zero, Nat.div_one, show i3 (((12 : Nat) : Int) - 1) = 11 from rfl] at m1 m3
      have e3 : j6 (d1 / 10 ^ (12 - (j + 1)) : Nat) / 10 = j6 (d1 / 10 ^ (12 - j) : Nat) := by
        have : d1 / 10 ^ (12 - j) = d1 / 10 ^ (12 - (j + 1)) / 10 := by
          rw [Nat.div_div_eq_div_mul, ← Nat.pow_succ]; congr 2; omega
        rw [this]
        generalize d1 / 10 ^ (12 - (j + 1)) = v at *
        rw [j6_lit, j6_quo (by omega), Int.natCast_ediv]; rfl
      have e4 : i3 j + -1 = i3 ((j : Int) - 1) := by rw [i3_lit, i3_neg, i3_add]; exact congrArg i3 (by omega)
      rw [ei, m3]
      dsimp only
      rw [e3, e4]
      obtain ⟨p1, p2⟩ := ih j t (fun p => ρ p + ((d1 / 10 ^ (12 - (j + 1)) % 10 : Nat) : Int) * win (j + 1) d2 p) (by omega) (by omega) m4 (by
        rw [zV_lin ρ (win (j + 1) d2) _ 0 24, k4, win24 (by omega) hd2]
        have hs : d1 % 10 ^ (12 - j) = d1 % 10 ^ (12 - (j + 1)) + 10 ^ (12 - (j + 1)) * (d1 / 10 ^ (12 - (j + 1)) % 10) := by
          rw [show 12 - j = 12 - (j + 1) + 1 by omega, Nat.pow_succ, Nat.mod_mul]
        rw [hs, show 11 - j = 12 - (j + 1) by omega, Nat.add_mul]
        simp only [Int.natCast_add, Int.natCast_mul, pI]
        congr 1
        simp only [Int.mul_comm, Int.mul_left_comm, Int.mul_assoc]) (by
        intro p
        have r1 := win_rng (j + 1) d2 p
        have r2 := k5 p
        have r3 : d1 / 10 ^ (12 - (j + 1)) % 10 ≤ 9 := by omega
        have r4 : ((d1 / 10 ^ (12 - (j + 1)) % 10 : Nat) : Int) * win (j + 1) d2 p ≤ 9 * 9 := Int.mul_le_mul (by omega) r1.2 r1.1 (by omega)
        have r5 : 0 ≤ ((d1 / 10 ^ (12 - (j + 1)) % 10 : Nat) : Int) * win (j + 1) d2 p := Int.mul_nonneg (by omega) r1.1
        try dsimp only
        omega)
      have ff := P242_row m2
      refine ⟨⟨fun q => absurd q (by omega), fun _ => ⟨m1, p1⟩⟩, ?_⟩
      rcases p2 with ⟨w, p3⟩ | ⟨w, q, p3, p4⟩
      · exact Or.inl ⟨w, fr_trans ff p3.1, p3.2⟩
      · exact Or.inr ⟨w, q, p3, fr_trans ff p4.1, p4.2⟩
theorem sgn_lt {y : Int} : (y.sign < 0) = (y < 0) := propext ⟨fun h => by
    rcases Int.lt_trichotomy y 0 with g | g | g
    · exact g
    · subst g; exact absurd h (by decide)
    · rw [Int.sign_eq_one_of_pos g] at h; omega, fun h => by rw [Int.sign_eq_neg_one_of_neg h]; decide⟩
theorem sgn_mul_lt {a b : Int} (ha : a ≠ 0) (hb : b ≠ 0) : decide (a.sign * b.sign < 0) = !decide (decide (a < 0) = decide (b < 0)) := by
  have h1 : decide (a < 0) = decide (a.sign < 0) := by simp only [sgn_lt]
  have h2 : decide (b < 0) = decide (b.sign < 0) := by simp only [sgn_lt]
  rw [h1, h2]
  rcases sgn_pm ha with h | h <;> rcases sgn_pm hb with h' | h' <;> rw [h, h'] <;> decide
theorem rmul (s : xS) {z z2 e e2 : Int32} {d d2 : Int64} {n m : Int × Int} (hn : rB z d e n) (hm : rB z2 d2 e2 m) (vn : vN n) (vm : vN m) : tm_multiply_ok s z d e z2 d2 e2 ∧ rRes s (tm_multiply s z d e z2 d2 e2) (aMul n m) := by
  rw [tm_multiply_eq]
  unfold tm_multiply_ok tm_multiply_d
  obtain ⟨rfl, rfl, rfl⟩ := hn
  obtain ⟨rfl, rfl, rfl⟩ := hm
  obtain ⟨k1, k2, k3⟩ := rclear s
  have b1 := vN_b vn
  have b2 := vN_b vm
  obtain ⟨p1, p2⟩ := rmul_11 (sgn_rng n.1) (sgn_rng m.1) b1.2 b2.2 b1.1 b2.1 xfu 12 (tm_clearRow s) (fun _ => 0) (by omega) (by rw [xfu_eq]; omega) k3 (by rw [zV_zero (fun _ _ => rfl), show 12 - 12 = 0 from rfl, Nat.pow_zero, Nat.mod_one, Nat.zero_mul]; rfl) (fun _ => by omega)
  rw [show 12 - 12 = 0 from rfl, Nat.pow_zero, Nat.div_one, show i3 (((12 : Nat) : Int) - 1) = 11 from rfl] at p1 p2
  refine ⟨⟨k1, p1⟩, ?_⟩
  rcases p2 with ⟨w, p3⟩ | ⟨w, q, p3, p4⟩
  · have hz : n.1.natAbs * m.1.natAbs = 0 := by
      rcases Int.mul_eq_zero.mp w with h | h
      · rw [sgn_zero.mp h]; simp
      · rw [sgn_zero.mp h]; simp
    have : aMul n m = (0, (0, 0)) := by
      unfold aMul
      rw [hz, ← aFin_eq (r := some (0, 0)) (Or.inl ⟨rfl, rfl⟩)]; rfl
    rw [this]
    exact ⟨fr_trans (P242_row k2) p3.1, p3.2⟩
  · have h1 : n.1 ≠ 0 := fun h => w (by rw [h]; simp)
    have h2 : m.1 ≠ 0 := fun h => w (by rw [h]; simp)
    rw [sgn_mul_lt h1 h2] at p3
    have : aMul n m = rs q := by unfold aMul; rw [← aFin_eq p3]
    rw [this]
    exact ⟨fr_trans (P242_row k2) p4.1, p4.2⟩
