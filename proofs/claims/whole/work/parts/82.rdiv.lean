/-! THE REFERENCE'S QUOTIENT AND ROOT -/
def updN (r : Nat → Nat) (i v : Nat) : Nat → Nat := fun k => if k = i then v else r k
theorem rowIs_sI {s : xS} {r : Nat → Nat} {k v : Nat} (h : rowIs s r k) (hv : v ≤ 9) : rowIs (sI s 242 k (i3 v)) (updN r k v) (k + 1) := by
  intro j hj
  rw [gI_sI]
  unfold updN
  by_cases g : j = k
  · rw [if_pos ⟨rfl, g⟩, if_pos g]; exact ⟨rfl, hv⟩
  · rw [if_neg (fun q => g q.2), if_neg g]; exact h j (by omega)
theorem dV_updN {r : Nat → Nat} {k v : Nat} : dV (updN r k v) 0 (k + 1) = 10 * dV r 0 k + v := by
  show 10 * dV (updN r k v) 0 k + updN r k v (0 + k) = _
  rw [dV_congr (q := r) (fun j hj => by unfold updN; rw [if_neg (by omega)])]
  unfold updN
  rw [if_pos (by omega)]
theorem rdiv_0 {x5 x8 x4 : Int32} {x6 : Int64} (h6 : ¬ x6 = 0) : ∀ (n k : Nat) (s : xS) (x9 : Int64), k ≤ 16 → 17 ≤ n + k → tm_divide_17_ok n s 0 x4 x5 x6 x8 x9 (i3 k) ∧ rRes s (tm_divide_17 n s 0 x4 x5 x6 x8 x9 (i3 k)) (0, (0, 0)) := by
  intro n
  induction n with
  | zero => intro k s x9 h1 h2; omega
  | succ n ih =>
    intro k s x9 h1 h2
    unfold tm_divide_17 tm_divide_17_ok
    have c1 : ((16 : Int32) ≤ i3 k) = (16 ≤ k) := by rw [i3_lit, i3_le (by omega)]; apply propext; omega
    have e1 : i3 k + 1 = i3 (k + 1 : Nat) := by rw [i3_lit, i3_add]; rfl
    simp only [c1, e1, if_true]
    by_cases g : 16 ≤ k
    · rw [if_pos g]
      obtain ⟨p1, p2⟩ := rround0 s (0 * x5) (x4 - x8) (zb (!decide (x9 ≤ 0)))
      exact ⟨⟨fun _ => p1, fun q => absurd g q⟩, p2⟩
    · rw [if_neg g, i3_natN (by omega)]
      obtain ⟨p1, p2⟩ := ih (k + 1) (sI s 242 k (x9 / x6).toInt32) ((x9 - x9 / x6 * x6) * 10) (by omega) (by omega)
      exact ⟨⟨fun q => absurd q g, fun _ => ⟨h6, by rw [i3_inN (by omega)]; omega, h6, p1⟩⟩, fr_trans (fr_sI (fr_refl ..) (Or.inl rfl)) p2.1, p2.2⟩
theorem rdiv_17 {z1 z2 e1 e2 : Int} {d1 d2 : Nat} (h1 : z1 = 1 ∨ z1 = -1) (h2 : z2 = 1 ∨ z2 = -1) (he1 : -99 ≤ e1 ∧ e1 ≤ 99) (he2 : -99 ≤ e2 ∧ e2 ≤ 99) (hd1 : d1 < 10 ^ 12) (hd2 : 10 ^ 11 ≤ d2 ∧ d2 < 10 ^ 12) : ∀ (n k : Nat) (s : xS) (r : Nat → Nat) (L : Nat), k ≤ 16 → 17 ≤ n + k → rowIs s r k → d1 * 10 ^ k = 10 * (dV r 0 k * d2) + L → L < 10 * d2 → (k = 16 → L % 10 = 0) → tm_divide_17_ok n s (i3 z1) (i3 e1) (i3 z2) (j6 d2) (i3 e2) (j6 L) (i3 k) ∧ ∃ q, FIN (d1 * 10 ^ 15 / d2) (!decide (d1 * 10 ^ 15 % d2 = 0)) (e1 - e2 - 15) (decide (z1 * z2 < 0)) q ∧ rRes s (tm_divide_17 n s (i3 z1) (i3 e1) (i3 z2) (j6 d2) (i3 e2) (j6 L) (i3 k)) (rs q) := by
  intro n
  induction n with
  | zero => intro k s r L h1 h2; omega
  | succ n ih =>
    intro k s r L k1 k2 k3 k4 k5 k6
    unfold tm_divide_17 tm_divide_17_ok
    have c1 : ((16 : Int32) ≤ i3 k) = (16 ≤ k) := by rw [i3_lit, i3_le (by omega)]; apply propext; omega
    have c2 : (i3 z1 = 0) = False := by rw [i3_lit, i3_eq (by omega)]; exact propext ⟨fun q => by omega, fun q => q.elim⟩
    have e1' : i3 k + 1 = i3 (k + 1 : Nat) := by rw [i3_lit, i3_add]; rfl
    simp only [c1, e1', c2, if_false]
    by_cases g : 16 ≤ k
    · have : k = 16 := by omega
      subst this
      rw [if_pos g]
      have hL := k6 rfl
      have hb : dV r 0 16 < 10 ^ 16 := dV_lt (fun j hj => by rw [Nat.zero_add]; exact (k3 j hj).2)
      obtain ⟨R, rfl⟩ : ∃ R, L = 10 * R := ⟨L / 10, by omega⟩
      have ek : d1 * 10 ^ 15 = d2 * dV r 0 16 + R := by
        rw [tenP_s 15, Nat.mul_left_comm d1, Nat.mul_comm (dV r 0 16)] at k4
        generalize d1 * 10 ^ 15 = A at *
        generalize d2 * dV r 0 16 = B at *
        omega
      have eq1 : d1 * 10 ^ 15 / d2 = dV r 0 16 := by
        rw [ek, Nat.mul_add_div (by omega), Nat.div_eq_of_lt (by omega), Nat.add_zero]
      have eq2 : d1 * 10 ^ 15 % d2 = R := by
        rw [ek, Nat.mul_add_mod, Nat.mod_eq_of_lt (by omega)]
      rw [eq1, eq2]
      have e3 : (!decide (j6 (10 * R : Nat) ≤ 0)) = !decide (R = 0) := by
        have : (j6 (10 * R : Nat) ≤ 0) = (R = 0) := by rw [j6_lit, j6_le (by omega)]; apply propext; omega
        simp only [this]
      have hzz : z1 * z2 = 1 ∨ z1 * z2 = -1 := by rcases h1 with h | h <;> rcases h2 with h' | h' <;> rw [h, h'] <;> decide
      rw [e3, i3_mul, i3_sub]
      obtain ⟨p1, q, p2, p3⟩ := rround' s (z := z1 * z2) (f := e1 - e2) (c := 16) (m := !decide (R = 0)) k3 (by omega) (by omega) (fun _ => hzz)
      rw [show e1 - e2 - ((16 : Nat) : Int) + 1 = e1 - e2 - 15 by omega] at p2
      exact ⟨⟨fun _ => p1, fun q => absurd g q⟩, q, p2, p3⟩
    · rw [if_neg g, i3_natN (by omega)]
      have hm := Nat.div_add_mod L d2
      have hml := Nat.mod_lt L (show 0 < d2 by omega)
      have hq9 : L / d2 ≤ 9 := by
        have : L / d2 < 10 := (Nat.div_lt_iff_lt_mul (by omega)).mpr k5
        omega
      have f1 : (j6 (L : Int) / j6 (d2 : Int)).toInt32 = i3 (L / d2 : Nat) := by
        rw [j6_quo (by omega), j6_int, Int.natCast_ediv]
      have f2 : (j6 (L : Int) - j6 (L : Int) / j6 (d2 : Int) * j6 (d2 : Int)) * 10 = j6 (10 * (L % d2) : Nat) := by
        rw [j6_quo (by omega), j6_mul, j6_sub, mod_sub, j6_lit, j6_mul]
        exact congrArg j6 (by omega)
      rw [f1, f2]
      obtain ⟨p1, q, p2, p3⟩ := ih (k + 1) (sI s 242 k (i3 (L / d2 : Nat))) (updN r k (L / d2)) (10 * (L % d2)) (by omega) (by omega) (rowIs_sI k3 hq9) (by
        rw [dV_updN, tenP_s, Nat.mul_left_comm, k4, Nat.add_mul]
        have a1 : 10 * dV r 0 k * d2 = 10 * (dV r 0 k * d2) := Nat.mul_assoc ..
        have a2 : L / d2 * d2 = d2 * (L / d2) := Nat.mul_comm ..
        rw [a1, a2]
        generalize dV r 0 k * d2 = B at *
        generalize d2 * (L / d2) = C at *
        omega) (by omega) (fun _ => by omega)
      have nz : ¬ j6 (d2 : Int) = 0 := by rw [j6_lit, j6_eq (by omega)]; omega
      exact ⟨⟨fun q => absurd q g, fun _ => ⟨nz, by rw [i3_inN (by omega)]; omega, nz, p1⟩⟩, q, p2, fr_trans (fr_sI (fr_refl ..) (Or.inl rfl)) p3.1, p3.2⟩
theorem rdiv (s : xS) {z z2 e e2 : Int32} {d d2 : Int64} {n m : Int × Int} (hn : rA z d e n) (hm : rA z2 d2 e2 m) (vn : vN n) (vm : vN m) : tm_divide_ok s z d e z2 d2 e2 ∧ rRes s (tm_divide s z d e z2 d2 e2) (aDiv n m) := by
  rw [tm_divide_eq]
  unfold tm_divide_ok tm_divide_d aDiv
  obtain ⟨rfl, hn2⟩ := hn
  obtain ⟨rfl, hm2⟩ := hm
  obtain ⟨k1, k2, k3⟩ := rclear s
  have b1 := vN_b vn
  have b2 := vN_b vm
  simp only [i3_sg0]
  by_cases g2 : m.1 = 0
  · rw [if_neg (fun q => q g2), if_pos g2]
    exact ⟨fun q => absurd g2 q, fr_refl .., rfl, fun q => absurd q (by decide)⟩
  · rw [if_pos g2, if_neg g2]
    obtain ⟨rfl, rfl⟩ := hm2 g2
    have a2 : 10 ^ 11 ≤ m.1.natAbs := by rcases vm with h | h <;> omega
    by_cases g1 : n.1 = 0
    · have nz : ¬ j6 (m.1.natAbs : Int) = 0 := by rw [j6_lit, j6_eq (by omega)]; omega
      rw [g1]
      obtain ⟨p1, p2⟩ := rdiv_0 (x5 := i3 m.1.sign) (x8 := i3 m.2) (x4 := e) nz xfu 0 (tm_clearRow s) d (by omega) (by rw [xfu_eq]; omega)
      refine ⟨fun _ => ⟨k1, p1⟩, ?_⟩
      rw [show Int.natAbs 0 * 10 ^ 15 = 0 from rfl, Nat.zero_div, ← aFin_eq (r := some (0, 0)) (Or.inl ⟨rfl, rfl⟩)]
      exact ⟨fr_trans (P242_row k2) p2.1, p2.2⟩
    · obtain ⟨rfl, rfl⟩ := hn2 g1
      obtain ⟨p1, q, p2, p3⟩ := rdiv_17 (sgn_pm g1) (sgn_pm g2) b1.2 b2.2 b1.1 ⟨a2, b2.1⟩ xfu 0 (tm_clearRow s) (fun _ => 0) n.1.natAbs (by omega) (by rw [xfu_eq]; omega) (fun j hj => by omega) (by show n.1.natAbs * 10 ^ 0 = 10 * (0 * _) + _; omega) (by omega) (fun q => by omega)
      refine ⟨fun _ => ⟨k1, p1⟩, ?_⟩
      rw [sgn_mul_lt g1 g2] at p2
      rw [← aFin_eq p2]
      exact ⟨fr_trans (P242_row k2) p3.1, p3.2⟩
theorem rroot_126 (s : xS) (x1 x8 x15 : Int32) (x6 x9 : Int64) {m L : Nat} (hm : m < 1000000000000000) (hL : L < 1000000000000000000) : ∀ (n c : Nat), c ≤ 9 → c + 1 ≤ n → tm_root_126_ok n s x1 x6 x8 x9 (j6 m) (j6 L) x15 (i3 c) ∧ tm_root_126 n s x1 x6 x8 x9 (j6 m) (j6 L) x15 (i3 c) = (x1, x6, x8, x9, j6 m, j6 L, x15, i3 (dgt m L c), s) := by
  intro n
  induction n with
  | zero => intro c h1 h2; omega
  | succ n ih =>
    intro c h1 h2
    unfold tm_root_126 tm_root_126_ok
    have hb : (20 * m + c) * c ≤ (20 * m + 9) * 9 := Nat.mul_le_mul (by omega) (by omega)
    have e1 : (20 * j6 m + (i3 c).toInt64) * (i3 c).toInt64 = j6 ((20 * m + c) * c : Nat) := by
      rw [i3_long (by omega), j6_lit, j6_mul, j6_add, j6_mul]; exact congrArg j6 (by simp only [Int.natCast_mul, Int.natCast_add]; rfl)
    have c2 : (j6 ((20 * m + c) * c : Nat) ≤ j6 L) = ((20 * m + c) * c ≤ L) := j6_leN (by omega) (by omega)
    simp only [e1, c2]
    by_cases g : (20 * m + c) * c ≤ L
    · rw [if_pos g]
      refine ⟨⟨fun _ => trivial, fun q => absurd g q⟩, ?_⟩
      have : dgt m L c = c := by
        cases c with
        | zero => rfl
        | succ c => unfold dgt; rw [if_pos g]
      rw [this]
    · rw [if_neg g]
      cases c with
      | zero => exact absurd (by omega) g
      | succ c =>
        have e2 : i3 ((c + 1 : Nat) : Int) + -1 = i3 c := by rw [i3_lit, i3_neg, i3_add]; exact congrArg i3 (by omega)
        rw [e2]
        obtain ⟨p1, p2⟩ := ih c (by omega) (by omega)
        refine ⟨⟨fun q => absurd q g, fun _ => p1⟩, ?_⟩
        rw [p2]
        have : dgt m L (c + 1) = dgt m L c := by show (if _ then _ else _) = _; rw [if_neg g]
        rw [this]
theorem rroot_78 {z : Int} {k : Int} {N : Nat} (hz : 0 ≤ z ∧ z ≤ 1) (hk : -200 ≤ k ∧ k ≤ 200) (hk2 : k % 2 = 0) (hN : N < 100000000000000) : ∀ (n i : Nat) (s : xS) (r : Nat → Nat) (pw : Nat), i ≤ 15 → 16 ≤ n + i → rowIs s r i → dV r 0 i = (rt (prs N) i).1 → pw = (if i < 7 then 10 ^ (12 - 2 * i) else 0) → tm_root_78_ok n s (i3 z) (j6 N) (i3 k) (j6 pw) (j6 (rt (prs N) i).1) (j6 (rt (prs N) i).2) (i3 i) ∧ ((z = 0 ∧ rRes s (tm_root_78 n s (i3 z) (j6 N) (i3 k) (j6 pw) (j6 (rt (prs N) i).1) (j6 (rt (prs N) i).2) (i3 i)) (0, (0, 0))) ∨ (z = 1 ∧ ∃ q, FIN (rt (prs N) 15).1 (!decide ((rt (prs N) 15).2 = 0)) (k / 2 - 8) false q ∧ rRes s (tm_root_78 n s (i3 z) (j6 N) (i3 k) (j6 pw) (j6 (rt (prs N) i).1) (j6 (rt (prs N) i).2) (i3 i)) (rs q))) := by
  intro n
  induction n with
  | zero => intro i s r pw h1 h2; omega
  | succ n ih =>
    intro i s r pw h1 h2 h3 h4 h5
    have bd := rt_bd (prs_le N) i
    have pb := tenP h1
    unfold tm_root_78 tm_root_78_ok
    have c1 : ((15 : Int32) ≤ i3 i) = (15 ≤ i) := by rw [i3_lit, i3_le (by omega)]; apply propext; omega
    have c2 : (i3 z = 0) = (z = 0) := by rw [i3_lit, i3_eq (by omega)]
    simp only [c1, c2]
    by_cases g : 15 ≤ i
    · have : i = 15 := by omega
      subst this
      rw [if_pos g]
      have e3 : (!decide (j6 (rt (prs N) 15).2 ≤ 0)) = !decide ((rt (prs N) 15).2 = 0) := by
        have : (j6 (rt (prs N) 15).2 ≤ 0) = ((rt (prs N) 15).2 = 0) := by rw [j6_lit, j6_le (by omega)]; apply propext; omega
        simp only [this]
      rw [e3]
      by_cases gz : z = 0
      · rw [if_pos gz]
        obtain ⟨p1, p2⟩ := rround0 s 1 (i3 k / 2 + 6) (zb (!decide ((rt (prs N) 15).2 = 0)))
        exact ⟨⟨fun _ => p1, fun q => absurd g q⟩, Or.inl ⟨gz, p2⟩⟩
      · rw [if_neg gz]
        have e4 : i3 k / 2 + 6 = i3 (k / 2 + 6) := by
          rw [i3_lit, i3_div (by omega), i3_lit, i3_add, Int.tdiv_eq_ediv_of_dvd (Int.dvd_of_emod_eq_zero hk2)]
        rw [e4]
        obtain ⟨p1, q, p2, p3⟩ := rround' s (z := 1) (f := k / 2 + 6) (c := 15) (m := !decide ((rt (prs N) 15).2 = 0)) h3 (by omega) (by omega) (fun _ => Or.inl rfl)
        rw [h4, show k / 2 + 6 - ((15 : Nat) : Int) + 1 = k / 2 - 8 by omega] at p2
        exact ⟨⟨fun _ => p1, fun q => absurd g q⟩, Or.inr ⟨by omega, q, p2, p3⟩⟩
    · rw [if_neg g]
      have pb' : 10 ^ i ≤ 10 ^ 14 := tenP (by omega)
      have bp := prs_le N i
      have key : ∀ x13 : Int64, x13 = j6 (100 * (rt (prs N) i).2 + prs N i : Nat) → ∀ x9 : Int64, tm_root_126_ok xfu s (i3 z) (j6 N) (i3 k) x9 (j6 (rt (prs N) i).1) x13 (i3 i) 9 ∧ tm_root_126 xfu s (i3 z) (j6 N) (i3 k) x9 (j6 (rt (prs N) i).1) x13 (i3 i) 9 = (i3 z, j6 N, i3 k, x9, j6 (rt (prs N) i).1, j6 (100 * (rt (prs N) i).2 + prs N i : Nat), i3 i, i3 (dgt (rt (prs N) i).1 (100 * (rt (prs N) i).2 + prs N i) 9), s) := by
        intro x5 hx x9
        subst hx
        exact rroot_126 s (i3 z) (i3 k) (i3 i) (j6 N) x9 (m := (rt (prs N) i).1) (L := 100 * (rt (prs N) i).2 + prs N i) (by omega) (by omega) xfu 9 (by omega) (by rw [xfu_eq]; omega)
      have hs1 : (rt (prs N) (i + 1)).1 = 10 * (rt (prs N) i).1 + dgt (rt (prs N) i).1 (100 * (rt (prs N) i).2 + prs N i) 9 := rfl
      have hs2 : (rt (prs N) (i + 1)).2 = 100 * (rt (prs N) i).2 + prs N i - (20 * (rt (prs N) i).1 + dgt (rt (prs N) i).1 (100 * (rt (prs N) i).2 + prs N i) 9) * dgt (rt (prs N) i).1 (100 * (rt (prs N) i).2 + prs N i) 9 := rfl
      have hf := dgt_fit (rt (prs N) i).1 (100 * (rt (prs N) i).2 + prs N i) 9
      have hd9 := dgt_le (rt (prs N) i).1 (100 * (rt (prs N) i).2 + prs N i) 9
      have f0 : (i3 (dgt (rt (prs N) i).1 (100 * (rt (prs N) i).2 + prs N i) 9 : Nat)).toInt64 = j6 (dgt (rt (prs N) i).1 (100 * (rt (prs N) i).2 + prs N i) 9 : Nat) := i3_long (by omega)
      have f1 : (10 : Int64) * j6 (rt (prs N) i).1 + j6 (dgt (rt (prs N) i).1 (100 * (rt (prs N) i).2 + prs N i) 9 : Nat) = j6 (rt (prs N) (i + 1)).1 := by
        rw [hs1, j6_lit, j6_mul, j6_add]; exact congrArg j6 (by omega)
      have f2 : j6 (100 * (rt (prs N) i).2 + prs N i : Nat) - (20 * j6 (rt (prs N) i).1 + j6 (dgt (rt (prs N) i).1 (100 * (rt (prs N) i).2 + prs N i) 9 : Nat)) * j6 (dgt (rt (prs N) i).1 (100 * (rt (prs N) i).2 + prs N i) 9 : Nat) = j6 (rt (prs N) (i + 1)).2 := by
        rw [hs2, j6_lit, j6_mul, j6_add, j6_mul, j6_sub]
        refine congrArg j6 ?_
        rw [Int.natCast_sub hf]
        simp only [Int.natCast_mul, Int.natCast_add]; rfl
      have f3 : i3 i + 1 = i3 (i + 1 : Nat) := by rw [i3_lit, i3_add]; rfl
      have hin : vp_in (i3 i) 256 := by rw [i3_inN (by omega)]; omega
      have fin : ∀ pw' : Nat, pw' = (if i + 1 < 7 then 10 ^ (12 - 2 * (i + 1)) else 0) → _ := fun pw' hp => ih (i + 1) (sI s 242 i (i3 (dgt (rt (prs N) i).1 (100 * (rt (prs N) i).2 + prs N i) 9 : Nat))) (updN r i (dgt (rt (prs N) i).1 (100 * (rt (prs N) i).2 + prs N i) 9)) pw' (by omega) (by omega) (rowIs_sI h3 hd9) (by rw [dV_updN, h4, hs1]) hp
      have ff : fr Prow s (sI s 242 i (i3 (dgt (rt (prs N) i).1 (100 * (rt (prs N) i).2 + prs N i) 9 : Nat))) := fr_sI (fr_refl ..) (Or.inl rfl)
      have wrap : ∀ {q : Int32 × xS} {c : Int × (Int × Int)}, rRes (sI s 242 i (i3 (dgt (rt (prs N) i).1 (100 * (rt (prs N) i).2 + prs N i) 9 : Nat))) q c → rRes s q c := fun h => ⟨fr_trans ff h.1, h.2⟩
      by_cases g2 : i < 7
      · rw [if_pos g2] at h5
        have hpw : 10 ^ (12 - 2 * i) ≤ 10 ^ 12 := tenP (by omega)
        have hpp := tenP_pos (12 - 2 * i)
        have c3 : (j6 pw ≤ 0) = False := by
          rw [show (0 : Int64) = j6 (0 : Nat) from rfl, j6_leN (by omega) (by omega)]
          exact propext ⟨fun q => by omega, fun q => q.elim⟩
        simp only [c3, if_false]
        have e2 : j6 N / j6 pw = j6 (N / 10 ^ (12 - 2 * i) : Nat) := by
          rw [h5]
          generalize 10 ^ (12 - 2 * i) = Q at *
          rw [j6_quo (by omega), Int.natCast_ediv]
        have hdl : N / 10 ^ (12 - 2 * i) ≤ N := Nat.div_le_self ..
        have e3 : j6 (N / 10 ^ (12 - 2 * i) : Nat) - j6 (N / 10 ^ (12 - 2 * i) : Nat) / 100 * 100 = j6 (prs N i) := by
          unfold prs
          rw [if_pos (by omega)]
          generalize N / 10 ^ (12 - 2 * i) = v at *
          rw [j6_lit, j6_quo (by omega), j6_mul, j6_sub]
          exact congrArg j6 (mod_sub v 100)
        obtain ⟨pw', hpw'⟩ : ∃ pw' : Nat, pw' = (if i + 1 < 7 then 10 ^ (12 - 2 * (i + 1)) else 0) := ⟨_, rfl⟩
        have e5 : j6 (pw : Int) / 100 = j6 pw' := by
          rw [j6_lit, j6_quo (by omega)]
          refine congrArg j6 ?_
          rw [h5, hpw']
          by_cases q : i + 1 < 7
          · rw [if_pos q, show 12 - 2 * i = 12 - 2 * (i + 1) + 1 + 1 by omega, tenP_s, tenP_s]
            have := tenP_pos (12 - 2 * (i + 1))
            omega
          · have : i = 6 := by omega
            subst this
            rw [if_neg q]; rfl
        rw [e2, e3]
        obtain ⟨k1, k2⟩ := key (100 * j6 (rt (prs N) i).2 + j6 (prs N i)) (by
          rw [j6_lit, j6_mul, j6_add]; exact congrArg j6 (by omega)) (j6 pw / 100)
        simp only [k2, f0, f1, f2, f3]
        rw [e5, i3_natN (by omega)]
        rw [e5] at k1
        obtain ⟨p1, p2⟩ := fin pw' hpw'
        have nz : ¬ j6 (pw : Int) = 0 := by
          rw [show (0 : Int64) = j6 (0 : Nat) from rfl, j6_eqN (by omega) (by omega)]; omega
        refine ⟨⟨fun q => absurd q g, fun _ => ⟨fun q => q.elim, fun _ => ⟨nz, k1, hin, p1⟩⟩⟩, ?_⟩
        rcases p2 with ⟨w, p2⟩ | ⟨w, q, p2, p3⟩
        · exact Or.inl ⟨w, wrap p2⟩
        · exact Or.inr ⟨w, q, p2, wrap p3⟩
      · rw [if_neg g2] at h5
        subst h5
        have c3 : (j6 ((0 : Nat) : Int) ≤ 0) = True := eq_true (by show j6 0 ≤ j6 0; exact Int64.le_refl _)
        simp only [c3, if_true]
        obtain ⟨k1, k2⟩ := key (100 * j6 (rt (prs N) i).2 + 0) (by
          rw [j6_lit, j6_mul, show (0 : Int64) = j6 0 from rfl, j6_add]
          have : prs N i = 0 := by unfold prs; rw [if_neg (by omega)]
          rw [this]; exact congrArg j6 (by omega)) (j6 ((0 : Nat) : Int) / 100)
        simp only [k2, f0, f1, f2, f3]
        have e5 : j6 ((0 : Nat) : Int) / 100 = j6 ((0 : Nat) : Int) := rfl
        rw [e5, i3_natN (by omega)]
        rw [e5] at k1
        obtain ⟨p1, p2⟩ := fin 0 (by rw [if_neg (by omega)])
        refine ⟨⟨fun q => absurd q g, fun _ => ⟨fun _ => ⟨k1, hin, p1⟩, fun q => absurd trivial q⟩⟩, ?_⟩
        rcases p2 with ⟨w, p2⟩ | ⟨w, q, p2, p3⟩
        · exact Or.inl ⟨w, wrap p2⟩
        · exact Or.inr ⟨w, q, p2, wrap p3⟩
