/-! THE CLASS'S ROUNDING -/
theorem and1_64 (a : Nat) : j6 a &&& j6 1 = j6 (a % 2 : Nat) := by
  unfold j6
  rw [Int64.ofInt_eq_ofNat, Int64.ofInt_eq_ofNat, show Int64.ofInt 1 = Int64.ofNat 1 from rfl]
  apply Int64.toBitVec_inj.mp
  rw [Int64.toBitVec_and]
  apply BitVec.eq_of_toNat_eq
  show ((BitVec.ofNat 64 a) &&& (BitVec.ofNat 64 1)).toNat = (BitVec.ofNat 64 (a % 2)).toNat
  simp only [BitVec.toNat_and, BitVec.toNat_ofNat]
  have : (1 : Nat) % 2 ^ 64 = 1 := rfl
  rw [this, Nat.and_one_is_mod]
  omega
theorem and1_32 (a : Int) : i3 a &&& i3 1 = i3 (a % 2) := by
  unfold i3
  apply Int32.toBitVec_inj.mp
  rw [Int32.toBitVec_and]
  apply BitVec.eq_of_toNat_eq
  show ((BitVec.ofInt 32 a) &&& (BitVec.ofInt 32 1)).toNat = (BitVec.ofInt 32 (a % 2)).toNat
  simp only [BitVec.toNat_and, BitVec.toNat_ofInt]
  have : ((1 : Int) % ((2 ^ 32 : Nat) : Int)).toNat = 1 := rfl
  rw [this, Nat.and_one_is_mod]
  omega
theorem mod_sub (W q : Nat) : (W : Int) - (W : Int) / (q : Int) * (q : Int) = ((W % q : Nat) : Int) := by
  have := Nat.div_add_mod W q
  have h2 : ((q * (W / q) + W % q : Nat) : Int) = (W : Int) := by rw [this]
  rw [Int.natCast_add, Int.natCast_mul, Int.natCast_ediv] at h2
  rw [Int.mul_comm]
  omega
theorem nearest_spec (s : xS) {W q : Nat} {m : Bool} (hq : 0 < q) (hq' : q < 4000000000000000000) (hW : W < 9223372036854775808) : te_nearest_ok s (j6 W) (j6 q) (zb m) ∧ te_nearest s (j6 W) (j6 q) (zb m) = j6 (near W q m : Nat) := by
  have hr := Nat.mod_lt W hq
  have hd : W / q ≤ W := Nat.div_le_self W q
  have e1 : j6 (W : Int) / j6 (q : Int) = j6 ((W / q : Nat) : Int) := by rw [j6_quo (by omega), Int.natCast_ediv]
  have e2 : j6 (W : Int) - j6 (W : Int) / j6 (q : Int) * j6 (q : Int) = j6 ((W % q : Nat) : Int) := by
    rw [j6_quo (by omega), j6_mul, j6_sub, mod_sub]
  constructor
  · unfold te_nearest_ok
    have : ¬ j6 (q : Int) = 0 := by rw [j6_lit, j6_eq (by omega)]; omega
    exact ⟨this, this⟩
  · unfold te_nearest near
    rw [e2, e1]
    have c1 : (j6 q < 2 * j6 ((W % q : Nat) : Int)) = (q < 2 * (W % q)) := by
      rw [j6_lit, j6_mul, j6_lt (by omega)]
      apply propext; omega
    have c2 : (2 * j6 ((W % q : Nat) : Int) = j6 q) = (2 * (W % q) = q) := by
      rw [j6_lit, j6_mul, j6_eq (by omega)]
      apply propext; omega
    have c3 : (j6 ((W / q : Nat) : Int) &&& 1 = 1) = (W / q % 2 = 1) := by
      rw [j6_lit, and1_64, j6_eq (by omega)]
      apply propext; omega
    have c4 : (!decide (zb m = 0)) = m := by cases m <;> rfl
    simp only [c1, c2, c3, c4, Bool.or_eq_true, Bool.and_eq_true, decide_eq_true_eq]
    by_cases g : q < 2 * (W % q) ∨ 2 * (W % q) = q ∧ (m = true ∨ W / q % 2 = 1)
    · rw [if_pos g, if_pos g, j6_lit, j6_add]; rfl
    · rw [if_neg g, if_neg g]
/-- a number that is too large, or within the room -/
def fin0 (mi : Bool) (d : Nat) (e : Int) : Option (Int × Int) := if 99 < e then none else if e < -99 then some (0, 0) else some (bif mi then -(d : Int) else d, e)
def fin (mi : Bool) (d : Nat) (e : Int) : Option (Int × Int) := if d = 10 ^ 12 then fin0 mi (10 ^ 11) (e + 1) else fin0 mi d e
def FIN (W : Nat) (m : Bool) (u : Int) (mi : Bool) (r : Option (Int × Int)) : Prop := (W = 0 ∧ r = some (0, 0)) ∨ (0 < W ∧ ∃ d e, RND W m u d e ∧ r = fin mi d e)
/-- a number of the calculator -/
def vN (n : Int × Int) : Prop := (n.1 = 0 ∧ n.2 = 0) ∨ (100000000000 ≤ n.1.natAbs ∧ n.1.natAbs < 1000000000000 ∧ -99 ≤ n.2 ∧ n.2 ≤ 99)
theorem fin_vN {mi : Bool} {d : Nat} {e : Int} {n : Int × Int} (h1 : 10 ^ 11 ≤ d) (h2 : d ≤ 10 ^ 12) (h : fin mi d e = some n) : vN n := by
  have key : ∀ {d : Nat} {e : Int}, 10 ^ 11 ≤ d → d < 10 ^ 12 → fin0 mi d e = some n → vN n := by
    intro d e h1 h2 h
    unfold fin0 at h
    by_cases c : 99 < e
    · rw [if_pos c] at h; cases h
    · rw [if_neg c] at h
      by_cases c2 : e < -99
      · rw [if_pos c2] at h; cases h; exact Or.inl ⟨rfl, rfl⟩
      · rw [if_neg c2] at h; cases h
        right
        cases mi <;> dsimp only [cond_true, cond_false] <;> omega
  unfold fin at h
  by_cases c : d = 10 ^ 12
  · rw [if_pos c] at h; exact key (by omega) (by omega) h
  · rw [if_neg c] at h; exact key h1 (by omega) h
theorem FIN_vN {W : Nat} {m mi : Bool} {u : Int} {n : Int × Int} (h : FIN W m u mi (some n)) : vN n := by
  rcases h with ⟨_, h⟩ | ⟨_, d, e, h, h'⟩
  · cases h; exact Or.inl ⟨rfl, rfl⟩
  · have := RND_rng h
    exact fin_vN this.1 this.2 h'.symm
theorem FIN_fun {W : Nat} {m mi : Bool} {u : Int} {r r' : Option (Int × Int)} (h : FIN W m u mi r) (h' : FIN W m u mi r') : r = r' := by
  rcases h with ⟨h0, h⟩ | ⟨h0, d, e, h, h2⟩ <;> rcases h' with ⟨g0, g⟩ | ⟨g0, d', e', g, g2⟩
  · rw [h, g]
  · omega
  · omega
  · obtain ⟨p, q⟩ := RND_fun h g
    rw [h2, g2, p, q]
def cput (s : xS) (a : Nat) (r : Option (Int × Int)) : Int32 × xS := match r with
  | none => (2, s)
  | some n => (0, sI (sJ s a 0 (j6 n.1)) a 1 (i3 n.2))
theorem cround_130 (s : xS) (a : Nat) {d : Nat} {e : Int} {mi : Bool} (hmi : gI s 31 0 = zb mi) (he : -2000 ≤ e ∧ e ≤ 2000) : ar_round_130 s a (j6 d) (i3 e) = cput s a (fin0 mi d e) := by
  rw [ar_round_130_eq]
  unfold ar_round_130_d fin0
  simp only [i3_lit, i3_neg, i3_le (show -2147483648 ≤ e ∧ e < 2147483648 ∧ -2147483648 ≤ (99 : Int) ∧ (99 : Int) < 2147483648 by omega), i3_le (show -2147483648 ≤ (-99 : Int) ∧ (-99 : Int) < 2147483648 ∧ -2147483648 ≤ e ∧ e < 2147483648 by omega), hmi]
  by_cases c : 99 < e
  · rw [if_neg (by omega), if_pos c]; rfl
  · rw [if_pos (by omega), if_neg c]
    by_cases c2 : e < -99
    · rw [if_neg (by omega), if_pos c2, de_clear_eq]; rfl
    · rw [if_pos (by omega), if_neg c2]
      cases mi
      · rfl
      · show (_, sI (sJ s a 0 (if i3 1 = i3 0 then _ else _)) a 1 _) = _
        rw [if_neg (by rw [i3_eq (by omega)]; omega), j6_neg]; rfl
theorem cround_97 (s : xS) (a : Nat) : ∀ (n c d : Nat) (e : Int), c ≤ 11 → 12 ≤ n + c → 1 ≤ d → d < 10 ^ 12 → 10 ^ 11 ≤ d * 10 ^ (11 - c) → ∃ k : Nat, k ≤ 11 - c ∧ 10 ^ 11 ≤ d * 10 ^ k ∧ d * 10 ^ k < 10 ^ 12 ∧ ar_round_97_ok n s a (j6 d) (i3 e) (i3 c) ∧ ar_round_97 n s a (j6 d) (i3 e) (i3 c) = ar_round_130 s a (j6 (d * 10 ^ k : Nat)) (i3 (e - k)) := by
  intro n
  induction n with
  | zero => intro c d e h1 h2; omega
  | succ n ih =>
    intro c d e h1 h2 h3 h4 h5
    unfold ar_round_97 ar_round_97_ok
    have c1 : ((11 : Int32) ≤ i3 c) = (11 ≤ c) := by rw [i3_lit, i3_le (by omega)]; apply propext; omega
    have c2 : ((100000000000 : Int64) ≤ j6 d) = (10 ^ 11 ≤ d) := by rw [j6_lit, j6_le (by omega)]; apply propext; omega
    simp only [c1, c2]
    by_cases g : 10 ^ 11 ≤ d
    · refine ⟨0, by omega, by simpa using g, by simpa using h4, fun _ q => absurd g q, ?_⟩
      rw [if_pos g]
      simp
    · have g2 : ¬ 11 ≤ c := by
        intro q
        have : c = 11 := by omega
        subst this
        simp at h5
        omega
      obtain ⟨k, k1, k2, k3, k4, k5⟩ := ih (c + 1) (d * 10) (e - 1) (by omega) (by omega) (by omega) (by omega) (by rw [Nat.mul_assoc, ← tenP_s, show 11 - (c + 1) + 1 = 11 - c by omega]; exact h5)
      have e1 : (j6 d : Int64) * 10 = j6 (d * 10 : Nat) := by rw [j6_lit, j6_mul]; rfl
      have e2 : i3 e + -1 = i3 (e - 1) := by rw [i3_lit, i3_neg, i3_add]; congr 1
      have e3 : i3 c + 1 = i3 (c + 1 : Nat) := by rw [i3_lit, i3_add]; rfl
      have e4 : d * 10 * 10 ^ k = d * 10 ^ (k + 1) := by rw [Nat.mul_assoc, ← tenP_s]
      rw [e4] at k2 k3 k5
      refine ⟨k + 1, by omega, k2, k3, fun _ _ => by rw [e1, e2, e3]; exact k4, ?_⟩
      rw [if_neg g2, if_neg g, e1, e2, e3, k5]
      congr 2
      omega
theorem cround_45 (s : xS) (a : Nat) {W k : Nat} {m mi : Bool} {u : Int} (hW : gJ s 31 1 = j6 W) (hW1 : 1 ≤ W) (hW2 : W < 9223372036854775808) (hm : gI s 31 2 = zb m) (hu : gI s 31 3 = i3 u) (hu' : -1000 ≤ u ∧ u ≤ 1000) (hmi : gI s 31 0 = zb mi) (hk : k ≤ 7) (h2 : W < 10 ^ (12 + k)) (h1 : k = 0 ∨ 10 ^ (11 + k) ≤ W) : ar_round_45_ok s a (i3 k) ∧ ∃ d e, RND W m u d e ∧ ar_round_45 s a (i3 k) = cput s a (fin mi d e) := by
  have hq : 10 ^ k ≤ 10 ^ 7 := tenP hk
  have hq0 := tenP_pos k
  obtain ⟨n1, n2⟩ := nearest_spec s (W := W) (q := 10 ^ k) (m := m) hq0 (by omega) hW2
  have et : iten (i3 k) = j6 (10 ^ k : Nat) := iten_i3 (by omega)
  have e1 : i3 u + i3 k + 11 = i3 (u + k + 11) := by rw [i3_lit, i3_add, i3_add]
  have e2 : i3 u + i3 k + 11 + 1 = i3 (u + k + 11 + 1) := by rw [e1, i3_lit, i3_add]
  rw [ar_round_45_eq]
  unfold ar_round_45_ok ar_round_45_d
  rw [hW, hm, hu, et, n2, e2, e1]
  by_cases hk0 : W < 10 ^ 11
  · -- fewer than 12 digits
    have hk' : k = 0 := by
      rcases h1 with h1 | h1
      · exact h1
      · have := tenP (k := 11) (n := 11 + k) (by omega)
        omega
    subst hk'
    rw [Nat.pow_zero, near_one]
    have e3 : (j6 W = 1000000000000) = False := by rw [j6_lit, j6_eq (by omega)]; exact propext ⟨fun q => by omega, fun q => q.elim⟩
    obtain ⟨j, j1, j2, j3, j4, j5⟩ := cround_97 s a xfu 0 W (u + ((0 : Nat) : Int) + 11) (by omega) (by rw [xfu_eq]; omega) hW1 (by omega) (by show 10 ^ 11 ≤ W * 10 ^ 11; omega)
    simp only [e3]
    refine ⟨⟨by rw [i3_in (by omega)]; omega, by rw [Nat.pow_zero] at n1; exact n1, fun _ => j4, fun q => q.elim⟩, W * 10 ^ j, u + 11 - j, Or.inr ⟨j, ?_, j2, j3, rfl, rfl⟩, ?_⟩
    · by_cases q : j = 0
      · subst q; omega
      · omega
    · simp only [not_false_eq_true, if_true]
      have : (i3 ((0 : Nat) : Int)) = 0 := rfl
      rw [this] at j5
      rw [j5, show u + ((0 : Nat) : Int) + 11 - (j : Int) = u + 11 - j by omega, cround_130 s a hmi (by omega)]
      unfold fin
      rw [if_neg (by omega)]
  · have h1' : 10 ^ (11 + k) ≤ W := by
      rcases h1 with h1 | h1
      · subst h1; simpa using hk0
      · exact h1
    have hR : RND W m u (near W (10 ^ k) m) (u + 11 + k) := Or.inl ⟨k, h1', h2, rfl, rfl⟩
    have hr := RND_rng hR
    have key : ∀ {d : Nat} {e : Int}, 10 ^ 11 ≤ d → d < 10 ^ 12 → -2000 ≤ e ∧ e ≤ 2000 → ar_round_97_ok xfu s a (j6 d) (i3 e) 0 ∧ ar_round_97 xfu s a (j6 d) (i3 e) 0 = cput s a (fin0 mi d e) := by
      intro d e d1 d2 he
      obtain ⟨j, j1, j2, j3, j4, j5⟩ := cround_97 s a xfu 0 d e (by omega) (by rw [xfu_eq]; omega) (by omega) d2 (by show 10 ^ 11 ≤ d * 10 ^ 11; omega)
      have hj : j = 0 := by
        by_cases q : j = 0
        · exact q
        · have := tenP (k := 1) (n := j) (by omega)
          have : d * 10 ^ 1 ≤ d * 10 ^ j := Nat.mul_le_mul_left d this
          omega
      subst hj
      refine ⟨j4, ?_⟩
      have : (i3 ((0 : Nat) : Int)) = 0 := rfl
      rw [this] at j5
      rw [j5, Nat.pow_zero, Nat.mul_one, show e - ((0 : Nat) : Int) = e by omega, cround_130 s a hmi he]
    generalize near W (10 ^ k) m = v at *
    have e3 : (j6 v = 1000000000000) = (v = 10 ^ 12) := by rw [j6_lit, j6_eq (by omega)]; apply propext; omega
    simp only [e3]
    obtain ⟨k1, k2⟩ := key (d := 10 ^ 11) (e := u + k + 11 + 1) (by omega) (by omega) (by omega)
    by_cases g : v = 10 ^ 12
    · refine ⟨⟨by rw [i3_in (by omega)]; omega, n1, fun q => absurd g q, fun _ => k1⟩, v, u + 11 + k, hR, ?_⟩
      rw [if_neg (fun q => q g)]
      refine k2.trans ?_
      unfold fin
      rw [if_pos g, show u + k + 11 + 1 = u + 11 + k + 1 by omega]
    · obtain ⟨l1, l2⟩ := key (d := v) (e := u + k + 11) (by omega) (by omega) (by omega)
      refine ⟨⟨by rw [i3_in (by omega)]; omega, n1, fun _ => l1, fun q => absurd q g⟩, v, u + 11 + k, hR, ?_⟩
      rw [if_pos g]
      refine l2.trans ?_
      unfold fin
      rw [if_neg g, show u + k + 11 = u + 11 + k by omega]
theorem cround_17 (s : xS) (a : Nat) {W : Nat} {m mi : Bool} {u : Int} (hW : gJ s 31 1 = j6 W) (hW1 : 1 ≤ W) (hW2 : W < 9223372036854775808) (hm : gI s 31 2 = zb m) (hu : gI s 31 3 = i3 u) (hu' : -1000 ≤ u ∧ u ≤ 1000) (hmi : gI s 31 0 = zb mi) : ∀ (n k : Nat), k ≤ 7 → 8 ≤ n + k → (k = 0 ∨ 10 ^ (11 + k) ≤ W) → ar_round_17_ok n s a (i3 k) ∧ ∃ d e, RND W m u d e ∧ ar_round_17 n s a (i3 k) = cput s a (fin mi d e) := by
  intro n
  induction n with
  | zero => intro k h1 h2; omega
  | succ n ih =>
    intro k h1 h2 h3
    unfold ar_round_17 ar_round_17_ok
    have c1 : ((7 : Int32) ≤ i3 k) = (7 ≤ k) := by rw [i3_lit, i3_le (by omega)]; apply propext; omega
    have e1 : (12 : Int32) + i3 k = i3 (12 + k : Nat) := by rw [i3_lit, i3_add]; rfl
    have e2 : i3 k + 1 = i3 (k + 1 : Nat) := by rw [i3_lit, i3_add]; rfl
    simp only [c1, e1, e2, hW]
    by_cases g : 7 ≤ k
    · have : k = 7 := by omega
      subst this
      obtain ⟨p, q⟩ := cround_45 s a hW hW1 hW2 hm hu hu' hmi (by omega : 7 ≤ 7) (by omega) h3
      exact ⟨⟨fun _ => p, fun c => absurd g c⟩, by rw [if_pos g]; exact q⟩
    · have et : iten (i3 (12 + k : Nat)) = j6 (10 ^ (12 + k) : Nat) := iten_i3 (by omega)
      have b1 : 10 ^ (12 + k) ≤ 10 ^ 18 := tenP (by omega)
      have c2 : (j6 W < j6 (10 ^ (12 + k) : Nat)) = (W < 10 ^ (12 + k)) := j6_ltN hW2 (by omega)
      simp only [et, c2]
      rw [if_neg g]
      by_cases g2 : W < 10 ^ (12 + k)
      · obtain ⟨p, q⟩ := cround_45 s a hW hW1 hW2 hm hu hu' hmi h1 g2 h3
        exact ⟨⟨fun c => absurd c g, fun _ => ⟨by rw [i3_in (by omega)]; omega, fun _ => p, fun c => absurd g2 c⟩⟩, by rw [if_pos g2]; exact q⟩
      · obtain ⟨p, q⟩ := ih (k + 1) (by omega) (by omega) (Or.inr (by rw [show 11 + (k + 1) = 12 + k by omega]; omega))
        exact ⟨⟨fun c => absurd c g, fun _ => ⟨by rw [i3_in (by omega)]; omega, fun c => absurd c g2, fun _ => p⟩⟩, by rw [if_neg g2]; exact q⟩
theorem cround (s : xS) (a : Nat) {W : Nat} {m mi : Bool} {u : Int} (hW : gJ s 31 1 = j6 W) (hW2 : W < 9223372036854775808) (hm : gI s 31 2 = zb m) (hu : gI s 31 3 = i3 u) (hu' : -1000 ≤ u ∧ u ≤ 1000) (hmi : gI s 31 0 = zb mi) : ar_round_ok s a ∧ ∃ r, FIN W m u mi r ∧ ar_round s a = cput s a r := by
  rw [ar_round_eq]
  unfold ar_round_ok ar_round_d
  have c1 : (j6 W = 0) = (W = 0) := by rw [j6_lit, j6_eq (by omega)]; apply propext; omega
  rw [hW]
  simp only [c1]
  by_cases g : W = 0
  · refine ⟨fun c => absurd g c, some (0, 0), Or.inl ⟨g, rfl⟩, ?_⟩
    rw [if_neg (fun c => c g), de_clear_eq]; rfl
  · obtain ⟨p, d, e, q1, q2⟩ := cround_17 s a hW (by omega) hW2 hm hu hu' hmi xfu 0 (by omega) (by rw [xfu_eq]; omega) (Or.inl rfl)
    exact ⟨fun _ => p, fin mi d e, Or.inr ⟨by omega, d, e, q1, rfl⟩, by rw [if_pos g]; exact q2⟩
