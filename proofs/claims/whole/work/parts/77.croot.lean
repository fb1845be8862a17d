/-! THE CLASS'S ROOT -/
/-- the greatest digit, of those up to the given one, whose square's part fits -/
def dgt (m L : Nat) : Nat → Nat
  | 0 => 0
  | k + 1 => if (20 * m + (k + 1)) * (k + 1) ≤ L then k + 1 else dgt m L k
theorem dgt_le (m L k : Nat) : dgt m L k ≤ k := by
  induction k with
  | zero => exact Nat.le_refl 0
  | succ k ih => unfold dgt; split <;> omega
theorem dgt_fit (m L k : Nat) : (20 * m + dgt m L k) * dgt m L k ≤ L := by
  induction k with
  | zero => show (20 * m + 0) * 0 ≤ L; omega
  | succ k ih =>
    unfold dgt
    split
    · assumption
    · exact ih
theorem dgt_next (m L k : Nat) (h : dgt m L k < k) : L < (20 * m + (dgt m L k + 1)) * (dgt m L k + 1) := by
  induction k with
  | zero => omega
  | succ k ih =>
    unfold dgt at h ⊢
    split
    · rename_i g; rw [if_pos g] at h; omega
    · rename_i g
      rw [if_neg g] at h
      by_cases q : dgt m L k < k
      · exact ih q
      · have : dgt m L k = k := by have := dgt_le m L k; omega
        rw [this]; omega
theorem sq_mono {m a b : Nat} (h : a ≤ b) : (20 * m + a) * a ≤ (20 * m + b) * b := Nat.mul_le_mul (by omega) h
theorem dgt_uniq {m L d : Nat} (h9 : d ≤ 9) (h1 : (20 * m + d) * d ≤ L) (h2 : d = 9 ∨ L < (20 * m + (d + 1)) * (d + 1)) : dgt m L 9 = d := by
  have a1 := dgt_le m L 9
  have a2 := dgt_fit m L 9
  have a3 := dgt_next m L 9
  rcases Nat.lt_trichotomy (dgt m L 9) d with g | g | g
  · have := a3 (by omega)
    have := sq_mono (m := m) (show dgt m L 9 + 1 ≤ d by omega)
    omega
  · exact g
  · rcases h2 with h2 | h2
    · omega
    · have := sq_mono (m := m) (show d + 1 ≤ dgt m L 9 by omega)
      omega
/-- the root's digits so far, and what is left -/
def rt (pr : Nat → Nat) : Nat → Nat × Nat
  | 0 => (0, 0)
  | i + 1 => (10 * (rt pr i).1 + dgt (rt pr i).1 (100 * (rt pr i).2 + pr i) 9, 100 * (rt pr i).2 + pr i - (20 * (rt pr i).1 + dgt (rt pr i).1 (100 * (rt pr i).2 + pr i) 9) * dgt (rt pr i).1 (100 * (rt pr i).2 + pr i) 9)
theorem rt_bd {pr : Nat → Nat} (hp : ∀ i, pr i ≤ 99) (i : Nat) : (rt pr i).2 ≤ 2 * (rt pr i).1 ∧ (rt pr i).1 < 10 ^ i := by
  induction i with
  | zero => exact ⟨Nat.le_refl 0, by show 0 < 10 ^ 0; omega⟩
  | succ i ih =>
    have h := hp i
    unfold rt
    generalize (rt pr i).1 = m at *
    generalize hL : 100 * (rt pr i).2 + pr i = L at *
    have a1 := dgt_le m L 9
    have a2 := dgt_fit m L 9
    have a3 := dgt_next m L 9
    generalize dgt m L 9 = d at *
    dsimp only
    refine ⟨?_, by rw [tenP_s]; omega⟩
    have e : (20 * m + (d + 1)) * (d + 1) = (20 * m + d) * d + (20 * m + 2 * d + 1) := by
      rw [Nat.mul_add, Nat.mul_one, show 20 * m + (d + 1) = (20 * m + d) + 1 by omega, Nat.add_mul, Nat.one_mul]; omega
    rw [e] at a3
    by_cases g : d < 9
    · have := a3 g; omega
    · have hd : d = 9 := by omega
      subst hd
      omega
theorem croot_61 (s : xS) (x1 : Int64) (x7 : Int32) {m L : Nat} (hm : m < 1000000000000000) (hL : L < 1000000000000000000) : ∀ (n d : Nat), d ≤ 9 → 11 ≤ n + d + 1 → (20 * m + d) * d ≤ L → ar_takeRoot_61_ok n s x1 (j6 m) (j6 L) x7 (j6 d) (j6 (d + 1 : Nat)) ∧ ar_takeRoot_61 n s x1 (j6 m) (j6 L) x7 (j6 d) (j6 (d + 1 : Nat)) = (x1, j6 m, j6 L, x7, j6 (dgt m L 9), s) := by
  intro n
  induction n with
  | zero => intro d h1 h2; omega
  | succ n ih =>
    intro d h1 h2 h3
    unfold ar_takeRoot_61 ar_takeRoot_61_ok
    have c1 : ((9 : Int64) < j6 (d + 1 : Nat)) = (9 < d + 1) := by rw [j6_lit, j6_lt (by omega)]; apply propext; omega
    have hb : (20 * m + (d + 1)) * (d + 1) ≤ (20 * m + 10) * 10 := Nat.mul_le_mul (by omega) (by omega)
    have e1 : (20 * j6 m + j6 (d + 1 : Nat)) * j6 (d + 1 : Nat) = j6 ((20 * m + (d + 1)) * (d + 1) : Nat) := by
      rw [j6_lit, j6_mul, j6_add, j6_mul]; congr 1
    have c2 : (j6 L < j6 ((20 * m + (d + 1)) * (d + 1) : Nat)) = (L < (20 * m + (d + 1)) * (d + 1)) := j6_ltN (by omega) (by omega)
    have e2 : j6 (d + 1 : Nat) + 1 = j6 (d + 1 + 1 : Nat) := by rw [j6_lit, j6_add]; rfl
    simp only [c1, e1, c2, e2]
    by_cases g : 9 < d + 1
    · rw [if_pos g]
      exact ⟨⟨fun _ => trivial, fun q => absurd g q⟩, by rw [dgt_uniq h1 h3 (Or.inl (by omega))]⟩
    · rw [if_neg g]
      by_cases g2 : L < (20 * m + (d + 1)) * (d + 1)
      · rw [if_pos g2]
        exact ⟨⟨fun _ => trivial, fun _ => ⟨fun _ => trivial, fun q => absurd g2 q⟩⟩, by rw [dgt_uniq h1 h3 (Or.inr g2)]⟩
      · rw [if_neg g2]
        obtain ⟨p1, p2⟩ := ih (d + 1) (by omega) (by omega) (by omega)
        exact ⟨⟨fun _ => trivial, fun _ => ⟨fun _ => trivial, fun _ => p1⟩⟩, p2⟩
/-- the pairs of digits of a number below 10^14, from the first on -/
def prs (N i : Nat) : Nat := if i < 7 then N / 10 ^ (12 - 2 * i) % 100 else 0
theorem prs_le (N i : Nat) : prs N i ≤ 99 := by unfold prs; split <;> omega
theorem croot_9 {N : Nat} (hN : N < 100000000000000) : ∀ (n i : Nat) (s : xS), i ≤ 15 → 16 ≤ n + i → ar_takeRoot_9_ok n s (j6 N) (j6 (rt (prs N) i).1) (j6 (rt (prs N) i).2) (i3 (14 - i)) ∧ fr P31 s (ar_takeRoot_9 n s (j6 N) (j6 (rt (prs N) i).1) (j6 (rt (prs N) i).2) (i3 (14 - i))) ∧ gJ (ar_takeRoot_9 n s (j6 N) (j6 (rt (prs N) i).1) (j6 (rt (prs N) i).2) (i3 (14 - i))) 31 1 = j6 (rt (prs N) 15).1 ∧ gI (ar_takeRoot_9 n s (j6 N) (j6 (rt (prs N) i).1) (j6 (rt (prs N) i).2) (i3 (14 - i))) 31 2 = zb (!decide ((rt (prs N) 15).2 = 0)) := by
  intro n
  induction n with
  | zero => intro i s h1 h2; omega
  | succ n ih =>
    intro i s h1 h2
    have bd := rt_bd (prs_le N) i
    have pb := tenP h1
    unfold ar_takeRoot_9 ar_takeRoot_9_ok
    have c1 : (i3 (14 - i) < 0) = (14 < i) := by rw [i3_lit, i3_lt (by omega)]; apply propext; omega
    have c2 : (i3 (14 - i) < 8) = (6 < i) := by rw [i3_lit, i3_lt (by omega)]; apply propext; omega
    simp only [c1, c2]
    by_cases g : 14 < i
    · have : i = 15 := by omega
      subst this
      rw [if_pos g]
      refine ⟨fun q => absurd g q, fr_sI (fr_sJ (fr_refl ..) rfl) rfl, ?_, ?_⟩
      · rw [gJ_sI, gJ_sJ, if_pos ⟨rfl, rfl⟩]
      · rw [gI_sI, if_pos ⟨rfl, rfl⟩, ne0_j6 (by omega)]
        by_cases g : (rt (prs N) 15).2 = 0
        · rw [g]; rfl
        · rw [decide_eq_true (by omega), decide_eq_false g]; rfl
    · rw [if_neg g]
      have pb' : 10 ^ i ≤ 10 ^ 14 := tenP (by omega)
      have bp := prs_le N i
      have key : ∀ x5 : Int64, x5 = j6 (100 * (rt (prs N) i).2 + prs N i : Nat) → ar_takeRoot_61_ok xfu s (j6 N) (j6 (rt (prs N) i).1) x5 (i3 (14 - i)) 0 1 ∧ ar_takeRoot_61 xfu s (j6 N) (j6 (rt (prs N) i).1) x5 (i3 (14 - i)) 0 1 = (j6 N, j6 (rt (prs N) i).1, j6 (100 * (rt (prs N) i).2 + prs N i : Nat), i3 (14 - i), j6 (dgt (rt (prs N) i).1 (100 * (rt (prs N) i).2 + prs N i) 9), s) := by
        intro x5 hx
        subst hx
        exact croot_61 s (j6 N) (i3 (14 - i)) (m := (rt (prs N) i).1) (L := 100 * (rt (prs N) i).2 + prs N i) (by omega) (by omega) xfu 0 (by omega) (by rw [xfu_eq]; omega) (by omega)
      obtain ⟨p1, p2, p3, p4⟩ := ih (i + 1) s (by omega) (by omega)
      have hs1 : (rt (prs N) (i + 1)).1 = 10 * (rt (prs N) i).1 + dgt (rt (prs N) i).1 (100 * (rt (prs N) i).2 + prs N i) 9 := rfl
      have hs2 : (rt (prs N) (i + 1)).2 = 100 * (rt (prs N) i).2 + prs N i - (20 * (rt (prs N) i).1 + dgt (rt (prs N) i).1 (100 * (rt (prs N) i).2 + prs N i) 9) * dgt (rt (prs N) i).1 (100 * (rt (prs N) i).2 + prs N i) 9 := rfl
      have hf := dgt_fit (rt (prs N) i).1 (100 * (rt (prs N) i).2 + prs N i) 9
      have f1 : j6 (rt (prs N) i).1 * 10 + j6 (dgt (rt (prs N) i).1 (100 * (rt (prs N) i).2 + prs N i) 9) = j6 (rt (prs N) (i + 1)).1 := by
        rw [hs1, j6_lit, j6_mul, j6_add]; congr 1; omega
      have f2 : j6 (100 * (rt (prs N) i).2 + prs N i : Nat) - (20 * j6 (rt (prs N) i).1 + j6 (dgt (rt (prs N) i).1 (100 * (rt (prs N) i).2 + prs N i) 9)) * j6 (dgt (rt (prs N) i).1 (100 * (rt (prs N) i).2 + prs N i) 9) = j6 (rt (prs N) (i + 1)).2 := by
        rw [hs2, j6_lit, j6_mul, j6_add, j6_mul, j6_sub]; congr 1
        rw [Int.natCast_sub hf]
        simp only [Int.natCast_mul, Int.natCast_add]; rfl
      have f3 : i3 (14 - i) + -1 = i3 (14 - (i + 1 : Nat)) := by rw [i3_lit, i3_neg, i3_add]; congr 1; omega
      by_cases g2 : 6 < i
      · rw [if_pos g2]
        obtain ⟨k1, k2⟩ := key (j6 (rt (prs N) i).2 * 100 + 0) (by
          rw [j6_lit, j6_mul, show (0 : Int64) = j6 0 from rfl, j6_add]; congr 1
          have : prs N i = 0 := by unfold prs; rw [if_neg (by omega)]
          rw [this]; omega)
        simp only [k2, f1, f2, f3]
        exact ⟨fun _ => ⟨fun _ => ⟨k1, p1⟩, fun q => absurd g2 q⟩, p2, p3, p4⟩
      · rw [if_neg g2]
        have e1 : (2 : Int32) * (i3 (14 - i) - 8) = i3 (12 - 2 * i : Nat) := by rw [i3_lit, i3_lit, i3_sub, i3_mul]; congr 1; omega
        have hpw : 10 ^ (12 - 2 * i) ≤ 10 ^ 12 := tenP (by omega)
        have hpp := tenP_pos (12 - 2 * i)
        rw [e1, iten_i3 (k := 12 - 2 * i) (by omega)]
        have e2 : j6 N / j6 (10 ^ (12 - 2 * i) : Nat) = j6 (N / 10 ^ (12 - 2 * i) : Nat) := by
          generalize 10 ^ (12 - 2 * i) = Q at *
          rw [j6_quo (by omega), Int.natCast_ediv]
        have hdl : N / 10 ^ (12 - 2 * i) ≤ N := Nat.div_le_self ..
        have e3 : j6 (N / 10 ^ (12 - 2 * i) : Nat) - j6 (N / 10 ^ (12 - 2 * i) : Nat) / 100 * 100 = j6 (prs N i) := by
          unfold prs
          rw [if_pos (by omega)]
          generalize N / 10 ^ (12 - 2 * i) = v at *
          rw [j6_lit, j6_quo (by omega), j6_mul, j6_sub]
          congr 1
          exact mod_sub v 100
        rw [e2, e3]
        obtain ⟨k1, k2⟩ := key (j6 (rt (prs N) i).2 * 100 + j6 (prs N i)) (by
          rw [j6_lit, j6_mul, j6_add]; congr 1; omega)
        simp only [k2, f1, f2, f3]
        have nz : ¬ j6 (10 ^ (12 - 2 * i) : Nat) = 0 := by
          rw [show (0 : Int64) = j6 (0 : Nat) from rfl, j6_eqN (by omega) (by omega)]; omega
        exact ⟨fun _ => ⟨fun q => absurd q g2, fun _ => ⟨by rw [i3_inN (by omega)]; omega, nz, k1, p1⟩⟩, p2, p3, p4⟩
/-- the number whose root is taken, and the unit -/
def rtN (n : Int × Int) : Nat := if n.2 % 2 = 1 then n.1.natAbs else 10 * n.1.natAbs
def rtU (n : Int × Int) : Int := (if n.2 % 2 = 1 then n.2 - 11 else n.2 - 12) / 2 - 8
theorem croot (s : xS) (l a : Nat) {n : Int × Int} (hl : l ≠ 31) (hn : cN s l n) (vn : vN n) (h0 : 0 ≤ n.1) : ar_root_ok s l a ∧ ∃ s1 r, fr P31 s s1 ∧ FIN (rt (prs (rtN n)) 15).1 (!decide ((rt (prs (rtN n)) 15).2 = 0)) (rtU n) false r ∧ ar_root s l a = cput s1 a r := by
  rw [ar_root_eq]
  unfold ar_root_ok ar_root_d
  have b := vN_b vn
  rw [below s hn vn, decide_eq_false (by omega), if_pos rfl, ar_root_24_eq]
  unfold ar_root_24_ok ar_root_24_d
  rw [ar_root_44_eq]
  unfold ar_root_44_ok ar_root_44_d
  rw [hn.1, hn.2]
  have c1 : (i3 n.2 &&& 1 = 1) = (n.2 % 2 = 1) := by rw [i3_lit, and1_32, i3_eq (by omega)]
  simp only [c1]
  have e1 : (if zb (decide (n.2 % 2 = 1)) = 0 then 10 * j6 n.1 else j6 n.1) = j6 (rtN n) := by
    unfold rtN
    by_cases g : n.2 % 2 = 1
    · rw [decide_eq_true g, if_neg (by decide), if_pos g]; congr 1; omega
    · rw [decide_eq_false g, if_pos (by rfl), if_neg g, j6_lit, j6_mul]; congr 1; omega
  have hN : rtN n < 100000000000000 := by unfold rtN; split <;> omega
  rw [e1]
  obtain ⟨p1, p2, p3, p4⟩ := croot_9 hN xfu 0 s (by omega) (by rw [xfu_eq]; omega)
  have e2 : ar_takeRoot_9 xfu s (j6 (rtN n)) (j6 (rt (prs (rtN n)) 0).1) (j6 (rt (prs (rtN n)) 0).2) (i3 (14 - (0 : Nat))) = ar_takeRoot s (j6 (rtN n)) := by
    rw [ar_takeRoot_eq]; rfl
  rw [e2] at p2 p3 p4
  have q1 : gI (sI (ar_takeRoot s (j6 (rtN n))) 31 0 0) l 1 = i3 n.2 := by
    rw [gI_sI, if_neg (by omega), (p2.1 l 1 (by unfold P31; omega)).1, hn.2]
  rw [q1]
  have e3 : (if zb (decide (n.2 % 2 = 1)) = 0 then i3 n.2 - 12 else i3 n.2 - 11) / 2 - 8 = i3 (rtU n) := by
    unfold rtU
    by_cases g : n.2 % 2 = 1
    · rw [decide_eq_true g, if_neg (by decide), if_pos g, i3_lit, i3_sub, i3_lit, i3_div (by omega), i3_lit, i3_sub, Int.tdiv_eq_ediv_of_dvd (Int.dvd_of_emod_eq_zero (by omega))]
    · rw [decide_eq_false g, if_pos (by rfl), if_neg g, i3_lit, i3_sub, i3_lit, i3_div (by omega), i3_lit, i3_sub, Int.tdiv_eq_ediv_of_dvd (Int.dvd_of_emod_eq_zero (by omega))]
  rw [e3]
  have hu : -1000 ≤ rtU n ∧ rtU n ≤ 1000 := by unfold rtU; split <;> omega
  have bd := rt_bd (prs_le (rtN n)) 15
  obtain ⟨c1, r, c2, c3⟩ := cround (sI (sI (ar_takeRoot s (j6 (rtN n))) 31 0 0) 31 3 (i3 (rtU n))) a (W := (rt (prs (rtN n)) 15).1) (m := !decide ((rt (prs (rtN n)) 15).2 = 0)) (mi := false) (u := rtU n) (by rw [gJ_sI, gJ_sI]; exact p3) (by omega) (by rw [gI_sI, if_neg (by omega), gI_sI, if_neg (by omega)]; exact p4) (by rw [gI_sI, if_pos ⟨rfl, rfl⟩]) hu (by rw [gI_sI, if_neg (by omega), gI_sI, if_pos ⟨rfl, rfl⟩]; rfl)
  refine ⟨fun _ => ⟨?_, c1⟩, _, r, fr_sI (fr_sI p2 rfl) rfl, c2, c3⟩
  unfold ar_takeRoot_ok
  exact p1
