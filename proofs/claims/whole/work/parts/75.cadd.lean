/-! THE CLASS'S SUM -/
theorem pI (k : Nat) : ((10 ^ k : Nat) : Int) = (10 : Int) ^ k := by rw [Int.natCast_pow]; rfl
theorem sgn_mul {S X : Int} {P : Nat} (hP : 0 < P) (h : X = S * P) : X.natAbs = S.natAbs * P ∧ (X < 0 ↔ S < 0) ∧ (X = 0 ↔ S = 0) := by
  subst h
  refine ⟨by rw [Int.natAbs_mul]; rfl, ?_, ?_⟩
  · constructor
    · intro g
      by_cases c : S < 0
      · exact c
      · have := Int.mul_nonneg (show 0 ≤ S by omega) (show (0 : Int) ≤ (P : Int) by omega)
        omega
    · intro g
      exact Int.mul_neg_of_neg_of_pos g (by omega)
  · constructor
    · intro g
      rcases Int.mul_eq_zero.mp g with g | g
      · exact g
      · omega
    · intro g; rw [g, Int.zero_mul]
theorem FIN_zeros {W : Nat} {u : Int} {mi : Bool} {r : Option (Int × Int)} (j : Nat) (h : FIN W false u mi r) : FIN (W * 10 ^ j) false (u - j) mi r := by
  rcases h with ⟨h, h'⟩ | ⟨h, d, e, h1, h2⟩
  · exact Or.inl ⟨by rw [h, Nat.zero_mul], h'⟩
  · exact Or.inr ⟨Nat.mul_pos h (tenP_pos j), d, e, RND_zeros j h1, h2⟩
theorem FIN_cut {W' j : Nat} {m : Bool} {u : Int} {mi : Bool} {r : Option (Int × Int)} (h : FIN (W' / 10 ^ j) m u mi r) (hm : m = true ↔ W' % 10 ^ j ≠ 0) (hW : 10 ^ 12 ≤ W' / 10 ^ j) : FIN W' false (u - j) mi r := by
  rcases h with ⟨h, h'⟩ | ⟨h, d, e, h1, h2⟩
  · omega
  · refine Or.inr ⟨?_, d, e, RND_cut (m' := false) h1 (by rw [hm]; simp) hW (by omega), h2⟩
    have := Nat.div_le_self W' (10 ^ j)
    omega
theorem FIN_mi {W : Nat} {m : Bool} {u : Int} {mi mi' : Bool} {r : Option (Int × Int)} (h : FIN W m u mi r) (hmi : W ≠ 0 → mi = mi') : FIN W m u mi' r := by
  rcases h with ⟨h, h'⟩ | ⟨h, h'⟩
  · exact Or.inl ⟨h, h'⟩
  · rw [hmi (by omega)] at h'; exact Or.inr ⟨h, h'⟩
theorem cadd_105 (s : xS) {lead other el : Int} {D : Nat} (hl : (lead = 0 ∧ other = 0) ∨ (100000000000 ≤ lead.natAbs ∧ lead.natAbs < 1000000000000)) (ho : other.natAbs < 1000000000000) (hD : D ≤ 198) (hoD : other = 0 → D = 0) (hel : -99 ≤ el ∧ el ≤ 99) (hel' : -99 ≤ el - D) : ar_add_105_ok s (j6 lead) (i3 el) (j6 other) (i3 D) ∧ fr P31 s (ar_add_105 s (j6 lead) (i3 el) (j6 other) (i3 D)) ∧ ∃ W mo u mi, cA (ar_add_105 s (j6 lead) (i3 el) (j6 other) (i3 D)) W mo u mi ∧ W < 9223372036854775808 ∧ -1000 ≤ u ∧ u ≤ 1000 ∧ ∀ r, FIN W mo u mi r → FIN (lead * 10 ^ tE el + other * 10 ^ (tE el - D)).natAbs false (-131) (decide (lead * 10 ^ tE el + other * 10 ^ (tE el - D) < 0)) r := by
  rw [ar_add_105_eq]
  unfold ar_add_105_ok ar_add_105_d
  have c1 : ((6 : Int32) < i3 D) = (6 < D) := by rw [i3_lit, i3_lt (by omega)]; apply propext; omega
  have c2 : ((18 : Int32) < i3 D) = (18 < D) := by rw [i3_lit, i3_lt (by omega)]; apply propext; omega
  simp only [c1, c2]
  have ht : tE el = 120 + el := by unfold tE; omega
  have f1 : fr P31 s (sI s 31 2 0) := fr_sI (fr_refl ..) rfl
  by_cases g : 6 < D
  · have hlead : 100000000000 ≤ lead.natAbs ∧ lead.natAbs < 1000000000000 := by
      rcases hl with h | h
      · have := hoD h.2; omega
      · exact h
    have e1 : i3 D - 6 = i3 (D - 6 : Nat) := by rw [i3_lit, i3_sub]; congr 1; omega
    have hq : 10 ≤ 10 ^ (D - 6) := tenP (k := 1) (n := D - 6) (by omega)
    obtain ⟨s1, s2, s3, s4, s5, s6, s7⟩ := cut_sum hq hlead ho
    have hX : lead * 10 ^ tE el + other * 10 ^ (tE el - D) = (lead * 1000000 * ((10 ^ (D - 6) : Nat) : Int) + other) * ((10 ^ (tE el - D) : Nat) : Int) := by
      have e : (10 : Int) ^ tE el = 1000000 * 10 ^ (D - 6) * 10 ^ (tE el - D) := by
        rw [show (1000000 : Int) = 10 ^ 6 from rfl, ← Int.pow_add, ← Int.pow_add]; congr 1; omega
      rw [e, pI, pI, Int.add_mul]
      simp only [Int.mul_assoc]
    obtain ⟨x1, x2, x3⟩ := sgn_mul (tenP_pos _) hX
    have fin : ∀ {mo : Bool}, (mo = true ↔ other.tmod (10 ^ (D - 6) : Nat) ≠ 0) → ∀ r, FIN ((lead * 1000000 + other.tdiv (10 ^ (D - 6) : Nat)).natAbs - (if mo = true ∧ ¬ (other < 0 ↔ lead * 1000000 + other.tdiv (10 ^ (D - 6) : Nat) < 0) then 1 else 0)) mo (el - 17) (decide (lead * 1000000 + other.tdiv (10 ^ (D - 6) : Nat) < 0)) r → FIN (lead * 10 ^ tE el + other * 10 ^ (tE el - D)).natAbs false (-131) (decide (lead * 10 ^ tE el + other * 10 ^ (tE el - D) < 0)) r := by
      intro mo hmo r hr
      rw [x1, show (-131 : Int) = el - 17 - (D - 6 : Nat) - (tE el - D : Nat) by omega]
      simp only [hmo, s5] at hr
      rw [decide_eq_decide.mpr (x2.trans s4.symm)]
      exact FIN_zeros _ (FIN_cut hr (hmo.trans s6.symm) s7)
    have bnd : ∀ (c : Nat), (lead * 1000000 + other.tdiv (10 ^ (D - 6) : Nat)).natAbs - c < 9223372036854775808 := by intro c; omega
    rw [if_pos g]
    by_cases g2 : 18 < D
    · rw [if_pos g2]
      have hbig : (10 : Nat) ^ 13 ≤ 10 ^ (D - 6) := tenP (by omega)
      have t0 : other.tdiv (10 ^ (D - 6) : Nat) = 0 := by
        apply Int.natAbs_eq_zero.mp
        rw [Int.natAbs_tdiv]
        exact Nat.div_eq_of_lt (show other.natAbs < (10 ^ (D - 6) : Nat) by omega)
      have t1 : other.tmod (10 ^ (D - 6) : Nat) ≠ 0 := by
        have := Int.tmod_add_mul_tdiv other (10 ^ (D - 6) : Nat)
        rw [t0, Int.mul_zero, Int.add_zero] at this
        rw [this]
        intro q
        have := hoD q
        omega
      obtain ⟨a1, a2⟩ := cadd_194 (sI (sI s 31 2 0) 31 2 1) (lead := lead) (other := other) (part := 0) (el := el) (mo := true) rfl (by omega) (by rw [t0] at s2 s3; omega) (fun _ => by rw [t0] at s1; exact s1)
      refine ⟨⟨fun _ q => absurd g2 q, fun q => absurd g q⟩, fr_trans (fr_sI f1 rfl) a1, _, _, _, _, a2, ?_, by omega, by omega, ?_⟩
      · rw [← t0]; exact bnd _
      · have := fin (mo := true) ⟨fun _ => t1, fun _ => rfl⟩
        rw [t0] at this
        exact this
    · rw [if_neg g2, e1, iten_i3 (k := D - 6) (by omega)]
      have hqb : (10 : Nat) ^ (D - 6) ≤ 10 ^ 12 := tenP (by omega)
      have hqp := tenP_pos (D - 6)
      have e2 : j6 other / j6 (10 ^ (D - 6) : Nat) = j6 (other.tdiv (10 ^ (D - 6) : Nat)) := j6_div (by generalize 10 ^ (D - 6) = Q at *; omega)
      have e3 : j6 other - j6 other / j6 (10 ^ (D - 6) : Nat) * j6 (10 ^ (D - 6) : Nat) = j6 (other.tmod (10 ^ (D - 6) : Nat)) := by
        rw [e2, j6_mul, j6_sub]
        congr 1
        have := Int.tmod_add_mul_tdiv other (10 ^ (D - 6) : Nat)
        rw [Int.mul_comm] at this
        omega
      have hmb : (other.tmod (10 ^ (D - 6) : Nat)).natAbs ≤ other.natAbs := by
        rw [Int.natAbs_tmod]; exact Nat.mod_le _ _
      have e4 : (!decide (j6 (other.tmod (10 ^ (D - 6) : Nat)) = 0)) = decide (other.tmod (10 ^ (D - 6) : Nat) ≠ 0) := ne0_j6 (by omega)
      rw [e3, e2, e4]
      have hnz : ¬ j6 (10 ^ (D - 6) : Nat) = 0 := by
        rw [show (0 : Int64) = j6 (0 : Nat) from rfl, j6_eqN (by omega) (by omega)]; omega
      have hin : vp_in (i3 (D - 6 : Nat)) 19 := by rw [i3_inN (by omega)]; omega
      obtain ⟨a1, a2⟩ := cadd_194 (sI (sI s 31 2 0) 31 2 (zb (decide (other.tmod (10 ^ (D - 6) : Nat) ≠ 0)))) (lead := lead) (other := other) (part := other.tdiv (10 ^ (D - 6) : Nat)) (el := el) (mo := decide (other.tmod (10 ^ (D - 6) : Nat) ≠ 0)) rfl (by omega) ⟨s2, s3⟩ (fun _ => s1)
      exact ⟨⟨fun _ _ => ⟨hin, hnz, hin, hnz⟩, fun q => absurd g q⟩, fr_trans (fr_sI f1 rfl) a1, _, _, _, _, a2, bnd _, by omega, by omega, fin (by simp)⟩
  · rw [if_neg g]
    have e1 : (6 : Int32) - i3 D = i3 (6 - D : Nat) := by rw [i3_lit, i3_sub]; congr 1; omega
    rw [e1, iten_i3 (k := 6 - D) (by omega), j6_mul]
    have hq : (10 : Nat) ^ (6 - D) ≤ 10 ^ 6 := tenP (by omega)
    have hqp := tenP_pos (6 - D)
    have hpart : (other * ((10 ^ (6 - D) : Nat) : Int)).natAbs ≤ 1000000000000000000 := by
      rw [Int.natAbs_mul]
      show other.natAbs * 10 ^ (6 - D) ≤ _
      exact Nat.le_trans (Nat.mul_le_mul (show other.natAbs ≤ 1000000000000 by omega) hq) (by omega)
    obtain ⟨a1, a2⟩ := cadd_194 (sI s 31 2 0) (lead := lead) (other := other) (part := other * ((10 ^ (6 - D) : Nat) : Int)) (el := el) (mo := false) rfl (by omega) (by rcases hl with h | h <;> omega) (fun q => by cases q)
    refine ⟨⟨fun q => absurd q g, fun _ => by rw [i3_inN (by omega)]; omega⟩, fr_trans f1 a1, _, _, _, _, a2, ?_, by omega, by omega, ?_⟩
    · rw [if_neg (by rintro ⟨q, _⟩; cases q)]
      rcases hl with h | h <;> omega
    · intro r hr
      rw [if_neg (by rintro ⟨q, _⟩; cases q)] at hr
      have hX : lead * 10 ^ tE el + other * 10 ^ (tE el - D) = (lead * 1000000 + other * ((10 ^ (6 - D) : Nat) : Int)) * ((10 ^ (tE el - 6) : Nat) : Int) := by
        have e : (10 : Int) ^ tE el = 1000000 * 10 ^ (tE el - 6) := by
          rw [show (1000000 : Int) = 10 ^ 6 from rfl, ← Int.pow_add]; congr 1; omega
        have e' : (10 : Int) ^ (tE el - D) = 10 ^ (6 - D) * 10 ^ (tE el - 6) := by
          rw [← Int.pow_add]; congr 1; omega
        rw [e, e', pI, pI, Int.add_mul]
        simp only [Int.mul_assoc]
      obtain ⟨x1, x2, x3⟩ := sgn_mul (tenP_pos _) hX
      rw [x1, decide_eq_decide.mpr x2, show (-131 : Int) = el - 17 - (tE el - 6 : Nat) by omega]
      exact FIN_zeros _ hr
/-- the exact sum, over 10^131 -/
def sumX (n m : Int × Int) : Int := n.1 * 10 ^ tE n.2 + m.1 * 10 ^ tE m.2
theorem vN_z {n : Int × Int} (h : vN n) : n.1 = 0 → n.2 = 0 := by rcases h with h | h <;> omega
theorem vN_b {n : Int × Int} (h : vN n) : n.1.natAbs < 1000000000000 ∧ -99 ≤ n.2 ∧ n.2 ≤ 99 := by rcases h with h | h <;> omega
theorem cadd (s : xS) (l : Nat) {n m : Int × Int} (hn : cN s l n) (vn : vN n) (vm : vN m) : ar_add_ok s l (j6 m.1) (i3 m.2) ∧ fr P31 s (ar_add s l (j6 m.1) (i3 m.2)) ∧ ∃ W mo u mi, cA (ar_add s l (j6 m.1) (i3 m.2)) W mo u mi ∧ W < 9223372036854775808 ∧ -1000 ≤ u ∧ u ≤ 1000 ∧ ∀ r, FIN W mo u mi r → FIN (sumX n m).natAbs false (-131) (decide (sumX n m < 0)) r := by
  rw [ar_add_eq]
  unfold ar_add_ok ar_add_d
  rw [ar_add_29_eq]
  unfold ar_add_29_ok ar_add_29_d
  rw [ar_add_44_eq]
  unfold ar_add_44_ok ar_add_44_d
  rw [ar_add_60_eq]
  unfold ar_add_60_ok ar_add_60_d
  rw [ar_add_75_eq]
  unfold ar_add_75_ok ar_add_75_d
  rw [hn.1, hn.2]
  obtain ⟨z1, e1⟩ := n
  obtain ⟨z2, e2⟩ := m
  have b1 := vN_b vn
  have b2 := vN_b vm
  have zz1 := vN_z vn
  have zz2 := vN_z vm
  dsimp only at *
  have c1 : (j6 z2 = 0) = (z2 = 0) := by rw [j6_lit, j6_eq (by omega)]
  have c2 : (j6 z1 = 0) = (z1 = 0) := by rw [j6_lit, j6_eq (by omega)]
  have c3 : (i3 e1 < i3 e2) = (e1 < e2) := by rw [i3_lt (by omega)]
  simp only [c1, c2, c3, i3_sub]
  by_cases g : z2 = 0 ∨ (z1 ≠ 0 ∧ ¬ e1 < e2)
  · have hb : (decide (z2 = 0) || (!decide (z1 = 0) && !decide (e1 < e2))) = true := by
      simp only [Bool.or_eq_true, Bool.and_eq_true, decide_eq_true_eq, Bool.not_eq_true', decide_eq_false_iff_not]; exact g
    rw [hb]
    have ne : ¬ zb true = 0 := by decide
    simp only [ne, if_false, c1]
    by_cases g2 : z2 = 0
    · rw [if_pos g2]
      have := zz2 g2
      subst g2 this
      have key := cadd_105 s (lead := z1) (other := 0) (el := e1) (D := 0) (by rcases vn with h | h <;> omega) (by omega) (by omega) (fun _ => rfl) (by omega) (by omega)
      have hx : sumX (z1, e1) (0, 0) = z1 * 10 ^ tE e1 + 0 * 10 ^ (tE e1 - 0) := by unfold sumX; rw [Int.zero_mul, Int.zero_mul]
      rw [hx]
      exact key
    · rw [if_neg g2]
      have g3 : z1 ≠ 0 ∧ ¬ e1 < e2 := by rcases g with g | g; exact absurd g g2; exact g
      obtain ⟨D, hD⟩ : ∃ D : Nat, e1 - e2 = D := ⟨(e1 - e2).toNat, by omega⟩
      rw [i3_sub, hD]
      have key := cadd_105 s (lead := z1) (other := z2) (el := e1) (D := D) (by rcases vn with h | h <;> omega) (by omega) (by omega) (fun q => absurd q g2) (by omega) (by omega)
      have hx : tE e1 - D = tE e2 := by unfold tE; omega
      rw [hx] at key
      exact key
  · have hb : (decide (z2 = 0) || (!decide (z1 = 0) && !decide (e1 < e2))) = false := by
      rw [← Bool.not_eq_true]
      simp only [Bool.or_eq_true, Bool.and_eq_true, decide_eq_true_eq, Bool.not_eq_true', decide_eq_false_iff_not]; exact g
    rw [hb]
    have ne : zb false = 0 := rfl
    simp only [ne, if_true, c2]
    have g2 : z2 ≠ 0 := fun q => g (Or.inl q)
    by_cases g1 : z1 = 0
    · rw [if_pos g1]
      have := zz1 g1
      subst g1 this
      have key := cadd_105 s (lead := z2) (other := 0) (el := e2) (D := 0) (by rcases vm with h | h <;> omega) (by omega) (by omega) (fun _ => rfl) (by omega) (by omega)
      have hx : sumX (0, 0) (z2, e2) = z2 * 10 ^ tE e2 + 0 * 10 ^ (tE e2 - 0) := by unfold sumX; rw [Int.zero_mul, Int.zero_mul, Int.add_comm]
      rw [hx]
      exact key
    · rw [if_neg g1]
      have g3 : e1 < e2 := by
        by_cases q : e1 < e2
        · exact q
        · exact absurd (Or.inr ⟨g1, q⟩) g
      obtain ⟨D, hD⟩ : ∃ D : Nat, e2 - e1 = D := ⟨(e2 - e1).toNat, by omega⟩
      rw [i3_sub, hD]
      have key := cadd_105 s (lead := z2) (other := z1) (el := e2) (D := D) (by rcases vm with h | h <;> omega) (by omega) (by omega) (fun q => absurd q g1) (by omega) (by omega)
      have hx : tE e2 - D = tE e1 := by unfold tE; omega
      rw [hx, Int.add_comm] at key
      exact key
