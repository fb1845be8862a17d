/-! WHAT THE OPERATIONS COME TO -/
theorem RND_ex {W : Nat} (m : Bool) (u : Int) (h : 0 < W) : ∃ d e, RND W m u d e := by
  have key : ∀ n W, 0 < W → W < 10 ^ n → ∃ L, 10 ^ L ≤ W ∧ W < 10 ^ (L + 1) := by
    intro n
    induction n with
    | zero => intro W h1 h2; rw [Nat.pow_zero] at h2; omega
    | succ n ih =>
      intro W h1 h2
      by_cases g : W < 10 ^ n
      · exact ih W h1 g
      · exact ⟨n, by omega, h2⟩
  obtain ⟨L, h1, h2⟩ := key W W h (Nat.lt_pow_self (by omega))
  by_cases g : 11 ≤ L
  · obtain ⟨k, rfl⟩ : ∃ k, L = 11 + k := ⟨L - 11, by omega⟩
    exact ⟨_, _, Or.inl ⟨k, h1, by rw [show 12 + k = 11 + k + 1 by omega]; exact h2, rfl, rfl⟩⟩
  · refine ⟨_, _, Or.inr ⟨11 - L, by omega, ?_, ?_, rfl, rfl⟩⟩
    · have := Nat.mul_le_mul_right (10 ^ (11 - L)) h1
      rw [← Nat.pow_add, show L + (11 - L) = 11 by omega] at this
      exact this
    · have := Nat.mul_lt_mul_of_pos_right h2 (tenP_pos (11 - L))
      rw [← Nat.pow_add, show L + 1 + (11 - L) = 12 by omega] at this
      exact this
theorem FIN_ex (W : Nat) (m : Bool) (u : Int) (mi : Bool) : ∃ r, FIN W m u mi r := by
  by_cases h : W = 0
  · exact ⟨_, Or.inl ⟨h, rfl⟩⟩
  · obtain ⟨d, e, hr⟩ := RND_ex m u (show 0 < W by omega)
    exact ⟨_, Or.inr ⟨by omega, d, e, hr, rfl⟩⟩
noncomputable def aFin (W : Nat) (m : Bool) (u : Int) (mi : Bool) : Option (Int × Int) := Classical.choose (FIN_ex W m u mi)
theorem aFin_spec (W : Nat) (m : Bool) (u : Int) (mi : Bool) : FIN W m u mi (aFin W m u mi) := Classical.choose_spec (FIN_ex W m u mi)
theorem aFin_eq {W : Nat} {m : Bool} {u : Int} {mi : Bool} {r : Option (Int × Int)} (h : FIN W m u mi r) : r = aFin W m u mi := FIN_fun h (aFin_spec ..)
/-- an answer: its code, and the number if the code is 0 -/
def rs (r : Option (Int × Int)) : Int × (Int × Int) := match r with
  | none => (2, (0, 0))
  | some p => (0, p)
def neg2 (m : Int × Int) : Int × Int := (-m.1, m.2)
noncomputable def aSum (n m : Int × Int) : Int × (Int × Int) := rs (aFin (sumX n m).natAbs false (-131) (decide (sumX n m < 0)))
noncomputable def aMul (n m : Int × Int) : Int × (Int × Int) := rs (aFin (n.1.natAbs * m.1.natAbs) false (n.2 + m.2 - 22) (!decide (decide (n.1 < 0) = decide (m.1 < 0))))
noncomputable def aDiv (n m : Int × Int) : Int × (Int × Int) := if m.1 = 0 then (3, (0, 0)) else rs (aFin (n.1.natAbs * 10 ^ 15 / m.1.natAbs) (!decide (n.1.natAbs * 10 ^ 15 % m.1.natAbs = 0)) (n.2 - m.2 - 15) (!decide (decide (n.1 < 0) = decide (m.1 < 0))))
noncomputable def aRoot (n : Int × Int) : Int × (Int × Int) := if n.1 < 0 then (4, (0, 0)) else rs (aFin (rt (prs (rtN n)) 15).1 (!decide ((rt (prs (rtN n)) 15).2 = 0)) (rtU n) false)
noncomputable def aOp (k : Int) (n m : Int × Int) : Int × (Int × Int) := if k = 43 then aSum n m else if k = 45 then aSum n (neg2 m) else if k = 42 then aMul n m else aDiv n m
theorem rs_v {W : Nat} {m : Bool} {u : Int} {mi : Bool} : vN (rs (aFin W m u mi)).2 := by
  have h := aFin_spec W m u mi
  generalize aFin W m u mi = r at *
  cases r with
  | none => exact Or.inl ⟨rfl, rfl⟩
  | some p => exact FIN_vN h
theorem rs_c (r : Option (Int × Int)) : (rs r).1 = 0 ∨ (rs r).1 = 2 := by cases r; exact Or.inr rfl; exact Or.inl rfl
theorem aSum_v (n m : Int × Int) : vN (aSum n m).2 ∧ ((aSum n m).1 = 0 ∨ (aSum n m).1 = 2) := ⟨rs_v, rs_c _⟩
theorem aMul_v (n m : Int × Int) : vN (aMul n m).2 ∧ ((aMul n m).1 = 0 ∨ (aMul n m).1 = 2) := ⟨rs_v, rs_c _⟩
theorem aDiv_v (n m : Int × Int) : vN (aDiv n m).2 ∧ ((aDiv n m).1 = 0 ∨ (aDiv n m).1 = 2 ∨ (aDiv n m).1 = 3) := by
  unfold aDiv
  split
  · exact ⟨Or.inl ⟨rfl, rfl⟩, Or.inr (Or.inr rfl)⟩
  · refine ⟨rs_v, ?_⟩
    rcases rs_c (aFin (n.1.natAbs * 10 ^ 15 / m.1.natAbs) (!decide (n.1.natAbs * 10 ^ 15 % m.1.natAbs = 0)) (n.2 - m.2 - 15) (!decide (decide (n.1 < 0) = decide (m.1 < 0)))) with h | h
    · exact Or.inl h
    · exact Or.inr (Or.inl h)
theorem aRoot_v (n : Int × Int) : vN (aRoot n).2 ∧ ((aRoot n).1 = 0 ∨ (aRoot n).1 = 2 ∨ (aRoot n).1 = 4) := by
  unfold aRoot
  split
  · exact ⟨Or.inl ⟨rfl, rfl⟩, Or.inr (Or.inr rfl)⟩
  · refine ⟨rs_v, ?_⟩
    rcases rs_c (aFin (rt (prs (rtN n)) 15).1 (!decide ((rt (prs (rtN n)) 15).2 = 0)) (rtU n) false) with h | h
    · exact Or.inl h
    · exact Or.inr (Or.inl h)
theorem aOp_v (k : Int) (n m : Int × Int) : vN (aOp k n m).2 ∧ 0 ≤ (aOp k n m).1 ∧ (aOp k n m).1 ≤ 9 := by
  have h1 := aSum_v n m
  have h2 := aSum_v n (neg2 m)
  have h3 := aMul_v n m
  have h4 := aDiv_v n m
  unfold aOp
  split
  · exact ⟨h1.1, by omega⟩
  · split
    · exact ⟨h2.1, by omega⟩
    · split
      · exact ⟨h3.1, by omega⟩
      · exact ⟨h4.1, by omega⟩
theorem neg2_v {m : Int × Int} (h : vN m) : vN (neg2 m) := by
  unfold neg2 vN at *
  dsimp only
  omega
/-- a number put -/
def cput1 (s : xS) (a : Nat) (p : Int × Int) : xS := sI (sJ s a 0 (j6 p.1)) a 1 (i3 p.2)
def cres (s : xS) (a : Nat) (q : Int × (Int × Int)) : Int32 × xS := (i3 q.1, if q.1 = 0 then cput1 s a q.2 else s)
theorem cput_rs (s : xS) (a : Nat) (r : Option (Int × Int)) : cput s a r = cres s a (rs r) := by
  cases r <;> rfl
theorem ccombine (s : xS) {k : Int} (l r a : Nat) {n m : Int × Int} (hl : l ≠ 31) (hr : r ≠ 31) (hk : 0 ≤ k ∧ k ≤ 255) (hn : cN s l n) (hm : cN s r m) (vn : vN n) (vm : vN m) : ar_combine_ok s (i3 k) l r a ∧ ∃ s1, fr P31 s s1 ∧ ar_combine s (i3 k) l r a = cres s1 a (aOp k n m) := by
  rw [ar_combine_eq]
  unfold ar_combine_ok ar_combine_d
  rw [ar_combine_77_eq]
  unfold ar_combine_77_ok ar_combine_77_d aOp
  have b2 := vN_b vm
  have c1 : (i3 k = 43) = (k = 43) := by rw [i3_lit, i3_eq (by omega)]
  have c2 : (i3 k = 45) = (k = 45) := by rw [i3_lit, i3_eq (by omega)]
  have c3 : (i3 k = 42) = (k = 42) := by rw [i3_lit, i3_eq (by omega)]
  have c4 : (gJ s r 0 = 0) = (m.1 = 0) := by rw [hm.1, j6_lit, j6_eq (by omega)]
  simp only [c1, c2, c3, c4]
  by_cases g1 : k = 43
  · rw [if_neg (fun q => q g1), if_pos g1, hm.1, hm.2]
    obtain ⟨p1, p2, W, mo, u, mi, p3, p4, p5, p6, p7⟩ := cadd s l hn vn vm
    obtain ⟨q1, r, q2, q3⟩ := cround (ar_add s l (j6 m.1) (i3 m.2)) a p3.1 p4 p3.2.1 p3.2.2.1 ⟨p5, p6⟩ p3.2.2.2
    refine ⟨⟨fun q => absurd g1 q, fun _ => ⟨p1, q1⟩⟩, _, p2, ?_⟩
    rw [q3, cput_rs, aFin_eq (p7 r q2)]; rfl
  · rw [if_pos g1, if_neg g1]
    by_cases g2 : k = 45
    · rw [if_neg (fun q => q g2), if_pos g2, hm.1, hm.2, j6_neg]
      obtain ⟨p1, p2, W, mo, u, mi, p3, p4, p5, p6, p7⟩ := cadd s l hn vn (neg2_v vm)
      obtain ⟨q1, r, q2, q3⟩ := cround (ar_add s l (j6 (neg2 m).1) (i3 (neg2 m).2)) a p3.1 p4 p3.2.1 p3.2.2.1 ⟨p5, p6⟩ p3.2.2.2
      refine ⟨⟨fun _ => ⟨fun q => absurd g2 q, fun _ => ⟨p1, q1⟩⟩, fun q => absurd q g1⟩, _, p2, ?_⟩
      refine q3.trans ?_
      rw [cput_rs, aFin_eq (p7 r q2)]; rfl
    · rw [if_pos g2, if_neg g2]
      by_cases g3 : k = 42
      · rw [if_neg (fun q => q g3), if_pos g3]
        obtain ⟨p2, W, mo, u, mi, p3, p4, p5, p6, p7⟩ := cmul s l r hl hr hn hm vn vm
        obtain ⟨q1, r', q2, q3⟩ := cround (ar_multiply s l r) a p3.1 p4 p3.2.1 p3.2.2.1 ⟨p5, p6⟩ p3.2.2.2
        refine ⟨⟨fun _ => ⟨fun _ => ⟨fun q => absurd g3 q, fun _ => q1⟩, fun q => absurd q g2⟩, fun q => absurd q g1⟩, _, p2, ?_⟩
        rw [q3, cput_rs, aFin_eq (p7 r' q2)]; rfl
      · rw [if_pos g3, if_neg g3]
        unfold aDiv
        by_cases g4 : m.1 = 0
        · rw [if_neg (fun q => q g4), if_pos g4]
          exact ⟨⟨fun _ => ⟨fun _ => ⟨fun _ q => absurd g4 q, fun q => absurd q g3⟩, fun q => absurd q g2⟩, fun q => absurd q g1⟩, s, fr_refl .., rfl⟩
        · rw [if_pos g4, if_neg g4]
          obtain ⟨p1, p2, p3⟩ := cdiv s l r hl hr hn hm vn vm g4
          have b1 := vN_b vn
          have hW : n.1.natAbs * 10 ^ 15 / m.1.natAbs < 9223372036854775808 := by
            have g5 : 100000000000 ≤ m.1.natAbs := by rcases vm with h | h <;> omega
            have : n.1.natAbs * 10 ^ 15 / m.1.natAbs ≤ n.1.natAbs * 10 ^ 15 / 100000000000 := Nat.div_le_div_left g5 (by omega)
            omega
          obtain ⟨q1, r', q2, q3⟩ := cround (ar_divide s l r) a p3.1 hW p3.2.1 p3.2.2.1 (by omega) p3.2.2.2
          refine ⟨⟨fun _ => ⟨fun _ => ⟨fun _ _ => ⟨p1, q1⟩, fun q => absurd q g3⟩, fun q => absurd q g2⟩, fun q => absurd q g1⟩, _, p2, ?_⟩
          rw [q3, cput_rs, aFin_eq q2]
theorem croot' (s : xS) (l a : Nat) {n : Int × Int} (hl : l ≠ 31) (hn : cN s l n) (vn : vN n) : ar_root_ok s l a ∧ ∃ s1, fr P31 s s1 ∧ ar_root s l a = cres s1 a (aRoot n) := by
  unfold aRoot
  by_cases g : n.1 < 0
  · rw [ar_root_eq, if_pos g]
    unfold ar_root_ok ar_root_d
    rw [below s hn vn, decide_eq_true g]
    exact ⟨fun q => (by cases q), s, fr_refl .., rfl⟩
  · rw [if_neg g]
    obtain ⟨p1, s1, r, p2, p3, p4⟩ := croot s l a hl hn vn (by omega)
    exact ⟨p1, s1, p2, by rw [p4, cput_rs, aFin_eq p3]⟩
