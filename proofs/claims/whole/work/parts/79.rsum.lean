/-! THE REFERENCE'S SUM -/
def Prow (b j : Nat) : Prop := b = 242 ∨ (b = 230 ∧ 29 ≤ j ∧ j ≤ 31)
/-- the reference's sign, number and power -/
def rF (s : xS) (p : Int × Int) : Prop := gI s 230 29 = i3 p.1.sign ∧ (p.1 ≠ 0 → gJ s 230 30 = j6 p.1.natAbs ∧ gI s 230 31 = i3 p.2)
def rRes (s : xS) (q : Int32 × xS) (c : Int × (Int × Int)) : Prop := fr Prow s q.2 ∧ q.1 = i3 c.1 ∧ (c.1 = 0 → rF q.2 c.2)
theorem rput_res (s : xS) {z : Int} {d : Nat} {e : Int} (hz : z = 1 ∨ z = -1) (h1 : 10 ^ 11 ≤ d) : rRes s (rput s z d e) (rs (fin0 (decide (z < 0)) d e)) := by
  unfold rput fin0
  by_cases c : 99 < e
  · rw [if_pos c, if_pos c]; exact ⟨fr_refl .., rfl, fun q => absurd q (by decide)⟩
  · rw [if_neg c, if_neg c]
    refine ⟨fr_sI (fr_sJ (fr_sI (fr_refl ..) (Or.inr ⟨rfl, by omega⟩)) (Or.inr ⟨rfl, by omega⟩)) (Or.inr ⟨rfl, by omega⟩), ?_⟩
    by_cases c2 : e < -99
    · rw [if_pos c2, if_pos c2]
      exact ⟨rfl, fun _ => ⟨rfl, fun q => absurd rfl q⟩⟩
    · rw [if_neg c2, if_neg c2]
      rcases hz with rfl | rfl
      · refine ⟨rfl, fun _ => ⟨?_, fun _ => ⟨?_, rfl⟩⟩⟩
        · show i3 1 = i3 ((d : Int)).sign
          rw [Int.sign_eq_one_of_pos (by omega)]
        · show j6 d = j6 ((d : Int).natAbs)
          rfl
      · refine ⟨rfl, fun _ => ⟨?_, fun _ => ⟨?_, rfl⟩⟩⟩
        · show i3 (-1) = i3 (-(d : Int)).sign
          rw [Int.sign_eq_neg_one_of_neg (by omega)]
        · show j6 d = j6 ((-(d : Int)).natAbs)
          rw [Int.natAbs_neg]; rfl
theorem rfin_res (s : xS) {z : Int} {d : Nat} {e : Int} (hz : z = 1 ∨ z = -1) (h1 : 10 ^ 11 ≤ d) : rRes s (rfin s z d e) (rs (fin (decide (z < 0)) d e)) := by
  unfold rfin fin
  split
  · exact rput_res s hz (by omega)
  · exact rput_res s hz h1
/-- the reference's rounding, as an answer -/
theorem rround' (s : xS) {r : Nat → Nat} {c : Nat} {z f : Int} {m : Bool} (hr : rowIs s r c) (hc : c ≤ 256) (he : -700 ≤ f ∧ f ≤ 700) (hz : dV r 0 c ≠ 0 → z = 1 ∨ z = -1) : tm_round_ok s (i3 z) (i3 f) (i3 c) (zb m) ∧ ∃ q, FIN (dV r 0 c) m (f - c + 1) (decide (z < 0)) q ∧ rRes s (tm_round s (i3 z) (i3 f) (i3 c) (zb m)) (rs q) := by
  obtain ⟨p1, p2⟩ := rround s (z := z) (f := f) (m := m) hr hc he
  refine ⟨p1, ?_⟩
  rcases p2 with ⟨h1, h2⟩ | ⟨h1, d, e, h2, h3⟩
  · refine ⟨some (0, 0), Or.inl ⟨h1, rfl⟩, ?_⟩
    rw [h2]
    exact ⟨fr_sI (fr_refl ..) (Or.inr ⟨rfl, by omega⟩), rfl, fun _ => ⟨rfl, fun q => absurd rfl q⟩⟩
  · refine ⟨fin (decide (z < 0)) d e, Or.inr ⟨h1, d, e, h2, rfl⟩, ?_⟩
    rw [h3]
    exact rfin_res s (hz (by omega)) (RND_rng h2).1
theorem rround0 (s : xS) (z f m : Int32) : tm_round_ok s z f 0 m ∧ rRes s (tm_round s z f 0 m) (0, (0, 0)) := by
  rw [tm_round_eq]
  unfold tm_round_ok tm_round_d
  obtain ⟨n, hn⟩ : ∃ n, xfu = n + 1 := ⟨999, xfu_eq⟩
  rw [hn]
  unfold tm_round_3 tm_round_3_ok
  have c1 : (0 : Int32) ≤ 0 := by decide
  rw [if_pos c1, tm_round_25_eq]
  unfold tm_round_25_ok tm_round_25_d
  rw [if_neg (fun q => q rfl)]
  exact ⟨⟨fun _ q => absurd rfl q, fun q => absurd c1 q⟩, fr_sI (fr_refl ..) (Or.inr ⟨rfl, by omega⟩), rfl, fun _ => ⟨rfl, fun q => absurd rfl q⟩⟩
/-- the row as whole numbers -/
def rowZ (s : xS) (ρ : Nat → Int) : Prop := ∀ k, k < 256 → gI s 242 k = i3 (ρ k)
def P242 (b _ : Nat) : Prop := b = 242
theorem P242_row {s t : xS} (h : fr P242 s t) : fr Prow s t := fr_mono h (fun _ _ q => Or.inl q)
def updZ (ρ : Nat → Int) (i : Nat) (v : Int) : Nat → Int := fun k => if k = i then v else ρ k
theorem rowZ_sI {s : xS} {ρ : Nat → Int} (h : rowZ s ρ) (i : Nat) (v : Int) : rowZ (sI s 242 i (i3 v)) (updZ ρ i v) := by
  intro k hk
  rw [gI_sI]
  unfold updZ
  by_cases g : k = i
  · rw [if_pos ⟨rfl, g⟩, if_pos g]
  · rw [if_neg (fun q => g q.2), if_neg g]; exact h k hk
theorem rclear_2 : ∀ (n k : Nat) (s : xS), k ≤ 256 → 257 ≤ n + k → (∀ j, j < k → gI s 242 j = i3 0) → tm_clearRow_2_ok n s (i3 k) ∧ fr P242 s (tm_clearRow_2 n s (i3 k)) ∧ rowZ (tm_clearRow_2 n s (i3 k)) (fun _ => 0) := by
  intro n
  induction n with
  | zero => intro k s h1 h2; omega
  | succ n ih =>
    intro k s h1 h2 h3
    unfold tm_clearRow_2 tm_clearRow_2_ok
    have c1 : ((256 : Int32) ≤ i3 k) = (256 ≤ k) := by rw [i3_lit, i3_le (by omega)]; apply propext; omega
    have e1 : i3 k + 1 = i3 (k + 1 : Nat) := by rw [i3_lit, i3_add]; rfl
    simp only [c1, e1, i3_natN (show k < 2147483648 by omega)]
    by_cases g : 256 ≤ k
    · rw [if_pos g]
      exact ⟨fun q => absurd g q, fr_refl .., fun j hj => h3 j (by omega)⟩
    · rw [if_neg g]
      obtain ⟨p1, p2, p3⟩ := ih (k + 1) (sI s 242 k 0) (by omega) (by omega) (fun j hj => by
        rw [gI_sI]
        by_cases q : j = k
        · rw [if_pos ⟨rfl, q⟩]; rfl
        · rw [if_neg (fun w => q w.2)]; exact h3 j (by omega))
      exact ⟨fun _ => ⟨by rw [i3_inN (by omega)]; omega, p1⟩, fr_trans (fr_sI (fr_refl ..) rfl) p2, p3⟩
theorem rclear (s : xS) : tm_clearRow_ok s ∧ fr P242 s (tm_clearRow s) ∧ rowZ (tm_clearRow s) (fun _ => 0) := by
  rw [tm_clearRow_eq]
  unfold tm_clearRow_ok tm_clearRow_d
  exact rclear_2 xfu 0 s (by omega) (by rw [xfu_eq]; omega) (fun j hj => by omega)
/-- the value of a row whose places may hold any number -/
def zV (ρ : Nat → Int) (f : Nat) : Nat → Int
  | 0 => 0
  | n + 1 => 10 * zV ρ f n + ρ (f + n)
theorem zV_add (ρ : Nat → Int) (f n m : Nat) : zV ρ f (n + m) = zV ρ f n * 10 ^ m + zV ρ (f + n) m := by
  induction m with
  | zero => simp [zV]
  | succ m ih =>
    show 10 * zV ρ f (n + m) + ρ (f + (n + m)) = _
    rw [ih, Int.pow_succ]
    show _ = _ + (10 * zV ρ (f + n) m + ρ (f + n + m))
    rw [Int.mul_add, Nat.add_assoc f n m]
    have : zV ρ f n * (10 ^ m * 10) = 10 * (zV ρ f n * 10 ^ m) := by rw [← Int.mul_assoc, Int.mul_comm]
    omega
theorem zV_congr {ρ σ : Nat → Int} {f n : Nat} (h : ∀ k, k < n → ρ (f + k) = σ (f + k)) : zV ρ f n = zV σ f n := by
  induction n with
  | zero => rfl
  | succ n ih =>
    show 10 * zV ρ f n + ρ (f + n) = 10 * zV σ f n + σ (f + n)
    rw [ih (fun k hk => h k (by omega)), h n (by omega)]
theorem zV_lin (ρ σ : Nat → Int) (b : Int) (f n : Nat) : zV (fun k => ρ k + b * σ k) f n = zV ρ f n + b * zV σ f n := by
  induction n with
  | zero => simp [zV]
  | succ n ih =>
    show 10 * zV (fun k => ρ k + b * σ k) f n + (ρ (f + n) + b * σ (f + n)) = (10 * zV ρ f n + ρ (f + n)) + b * (10 * zV σ f n + σ (f + n))
    rw [ih, Int.mul_add, Int.mul_add, Int.mul_left_comm]
    omega
theorem zV_zero {ρ : Nat → Int} {f n : Nat} (h : ∀ k, k < n → ρ (f + k) = 0) : zV ρ f n = 0 := by
  induction n with
  | zero => rfl
  | succ n ih =>
    show 10 * zV ρ f n + ρ (f + n) = 0
    rw [ih (fun k hk => h k (by omega)), h n (by omega)]; rfl
theorem zV_nat {ρ : Nat → Int} {f n : Nat} (h : ∀ k, k < n → 0 ≤ ρ (f + k)) : zV ρ f n = (dV (fun k => (ρ k).toNat) f n : Nat) := by
  induction n with
  | zero => rfl
  | succ n ih =>
    show 10 * zV ρ f n + ρ (f + n) = ((10 * dV (fun k => (ρ k).toNat) f n + (ρ (f + n)).toNat : Nat) : Int)
    rw [ih (fun k hk => h k (by omega))]
    have := h n (by omega)
    omega
/-- the digits of a number of 12 digits, laid from the place a on -/
def win (a d k : Nat) : Int := if a ≤ k ∧ k < a + 12 then ((d / 10 ^ (11 - (k - a)) % 10 : Nat) : Int) else 0
theorem win_zV {a d : Nat} (m : Nat) (hd : d < 10 ^ 12) : zV (win a d) 0 (a + 12 + m) = d * 10 ^ m := by
  have h0 : zV (win a d) 0 a = 0 := zV_zero (fun k hk => by unfold win; rw [if_neg (by omega)])
  have h1 : ∀ j, j ≤ 12 → zV (win a d) 0 (a + j) = ((d / 10 ^ (12 - j) : Nat) : Int) := by
    intro j
    induction j with
    | zero =>
      intro _
      rw [Nat.add_zero, h0, Nat.div_eq_of_lt hd]; rfl
    | succ j ih =>
      intro hj
      show 10 * zV (win a d) 0 (a + j) + win a d (0 + (a + j)) = _
      rw [ih (by omega)]
      unfold win
      rw [if_pos (by omega), show 0 + (a + j) - a = j by omega, show 12 - j = (11 - j) + 1 by omega, show 12 - (j + 1) = 11 - j by omega, Nat.pow_succ, ← Nat.div_div_eq_div_mul]
      omega
  rw [zV_add, h1 12 (by omega), zV_zero (f := 0 + (a + 12)) (fun k hk => by unfold win; rw [if_neg (by omega)])]
  simp
theorem rlay_7 {e b : Int} {d : Nat} (he : -99 ≤ e ∧ e ≤ 99) (hd : d < 10 ^ 12) : ∀ (n k : Nat) (s : xS) (ρ : Nat → Int), k ≤ 12 → 13 ≤ n + (12 - k) → rowZ s (fun i => ρ i + b * (if k ≤ i - (100 - e).toNat ∧ (100 - e).toNat ≤ i then win (100 - e).toNat d i else 0)) → tm_lay_7_ok n s (i3 e) (i3 b) (j6 (d / 10 ^ (12 - k) : Nat)) (i3 ((k : Int) - 1)) ∧ fr P242 s (tm_lay_7 n s (i3 e) (i3 b) (j6 (d / 10 ^ (12 - k) : Nat)) (i3 ((k : Int) - 1))) ∧ rowZ (tm_lay_7 n s (i3 e) (i3 b) (j6 (d / 10 ^ (12 - k) : Nat)) (i3 ((k : Int) - 1))) (fun i => ρ i + b * win (100 - e).toNat d i) := by
  intro n
  induction n with
  | zero => intro k s ρ h1 h2; omega
  | succ n ih =>
    intro k s ρ h1 h2 h3
    unfold tm_lay_7 tm_lay_7_ok
    have c1 : (i3 ((k : Int) - 1) < 0) = (k = 0) := by rw [i3_lit, i3_lt (by omega)]; apply propext; omega
    simp only [c1]
    by_cases g : k = 0
    · subst g
      rw [if_pos rfl]
      refine ⟨fun q => absurd rfl q, fr_refl .., fun i hi => ?_⟩
      rw [h3 i hi]
      dsimp only
      by_cases q : (100 - e).toNat ≤ i
      · rw [if_pos ⟨by omega, q⟩]
      · rw [if_neg (fun w => q w.2)]; unfold win; rw [if_neg (by omega)]
    · rw [if_neg g]
      obtain ⟨j, rfl⟩ : ∃ j, k = j + 1 := ⟨k - 1, by omega⟩
      have e1 : (100 : Int32) - i3 e + i3 (((j + 1 : Nat) : Int) - 1) = i3 ((100 - e).toNat + j : Nat) := by rw [i3_lit, i3_sub, i3_add]; congr 1; omega
      have hq : d / 10 ^ (12 - (j + 1)) ≤ d := Nat.div_le_self ..
      have e2 : (j6 (d / 10 ^ (12 - (j + 1)) : Nat) - j6 (d / 10 ^ (12 - (j + 1)) : Nat) / 10 * 10).toInt32 = i3 (d / 10 ^ (12 - (j + 1)) % 10 : Nat) := by
        generalize d / 10 ^ (12 - (j + 1)) = v at *
        rw [j6_lit, j6_quo (by omega), j6_mul, j6_sub, j6_int]
        congr 1
        exact mod_sub v 10
      have e3 : j6 (d / 10 ^ (12 - (j + 1)) : Nat) / 10 = j6 (d / 10 ^ (12 - j) : Nat) := by
        have : d / 10 ^ (12 - j) = d / 10 ^ (12 - (j + 1)) / 10 := by
          rw [Nat.div_div_eq_div_mul, ← Nat.pow_succ]; congr 2; omega
        rw [this]
        generalize d / 10 ^ (12 - (j + 1)) = v at *
        rw [j6_lit, j6_quo (by omega), Int.natCast_ediv]; rfl
      have e4 : i3 (((j + 1 : Nat) : Int) - 1) + -1 = i3 ((j : Int) - 1) := by rw [i3_lit, i3_neg, i3_add]; congr 1; omega
      rw [e2, e3, e4, e1, i3_natN (by omega)]
      have hlt : (100 - e).toNat + j < 256 := by omega
      rw [h3 _ hlt, i3_mul, i3_add]
      obtain ⟨p1, p2, p3⟩ := ih j (sI s 242 ((100 - e).toNat + j) (i3 (ρ ((100 - e).toNat + j) + b * (if j + 1 ≤ (100 - e).toNat + j - (100 - e).toNat ∧ (100 - e).toNat ≤ (100 - e).toNat + j then win (100 - e).toNat d ((100 - e).toNat + j) else 0) + b * ((d / 10 ^ (12 - (j + 1)) % 10 : Nat) : Int)))) ρ (by omega) (by omega) (by
        intro i hi
        have := rowZ_sI h3 ((100 - e).toNat + j) (ρ ((100 - e).toNat + j) + b * (if j + 1 ≤ (100 - e).toNat + j - (100 - e).toNat ∧ (100 - e).toNat ≤ (100 - e).toNat + j then win (100 - e).toNat d ((100 - e).toNat + j) else 0) + b * ((d / 10 ^ (12 - (j + 1)) % 10 : Nat) : Int)) i hi
        rw [this]
        unfold updZ
        dsimp only
        by_cases q : i = (100 - e).toNat + j
        · subst q
          rw [if_pos rfl, if_neg (by omega), if_pos (by omega), Int.mul_zero, Int.add_zero]
          unfold win
          rw [if_pos (by omega), show (100 - e).toNat + j - (100 - e).toNat = j by omega, show 12 - (j + 1) = 11 - j by omega]
        · rw [if_neg q]
          by_cases q2 : j ≤ i - (100 - e).toNat ∧ (100 - e).toNat ≤ i
          · rw [if_pos q2, if_pos (by omega)]
          · rw [if_neg q2, if_neg (by omega)])
      have hin : vp_in (i3 ((100 - e).toNat + j : Nat)) 256 := by rw [i3_inN (by omega)]; omega
      exact ⟨fun _ => ⟨hin, hin, p1⟩, fr_trans (fr_sI (fr_refl ..) rfl) p2, p3⟩
theorem rlay (s : xS) {ρ : Nat → Int} {e b : Int} {d : Nat} (he : -99 ≤ e ∧ e ≤ 99) (hd : d < 10 ^ 12) (h : rowZ s ρ) : tm_lay_ok s (j6 d) (i3 e) (i3 b) ∧ fr P242 s (tm_lay s (j6 d) (i3 e) (i3 b)) ∧ rowZ (tm_lay s (j6 d) (i3 e) (i3 b)) (fun i => ρ i + b * win (100 - e).toNat d i) := by
  rw [tm_lay_eq]
  unfold tm_lay_ok tm_lay_d
  have := rlay_7 (b := b) he hd xfu 12 s ρ (by omega) (by rw [xfu_eq]; omega) (fun i hi => by
    rw [h i hi]
    refine congrArg i3 ?_
    dsimp only
    by_cases q : 12 ≤ i - (100 - e).toNat ∧ (100 - e).toNat ≤ i
    · rw [if_pos q]; unfold win; rw [if_neg (by omega), Int.mul_zero, Int.add_zero]
    · rw [if_neg q, Int.mul_zero, Int.add_zero])
  rw [show 12 - 12 = 0 from rfl, Nat.pow_zero, Nat.div_one, show i3 (((12 : Nat) : Int) - 1) = 11 from rfl] at this
  exact this
theorem zV_carry {ρ : Nat → Int} {k n : Nat} (c : Int) (hk : 1 ≤ k) (hn : k < n) : zV (updZ (updZ ρ (k - 1) (ρ (k - 1) + c)) k (ρ k - 10 * c)) 0 n = zV ρ 0 n := by
  obtain ⟨j, rfl⟩ : ∃ j, k = j + 1 := ⟨k - 1, by omega⟩
  obtain ⟨m, rfl⟩ : ∃ m, n = j + 1 + 1 + m := ⟨n - (j + 1 + 1), by omega⟩
  rw [zV_add, zV_add ρ]
  congr 1
  · congr 1
    show 10 * (10 * zV _ 0 j + _) + _ = 10 * (10 * zV ρ 0 j + ρ (0 + j)) + ρ (0 + (j + 1))
    rw [zV_congr (σ := ρ) (fun i hi => by unfold updZ; rw [if_neg (by omega), if_neg (by omega)])]
    unfold updZ
    rw [if_neg (by omega), if_pos (by omega), if_pos (by omega), show 0 + j = j by omega, show 0 + (j + 1) = j + 1 by omega, show j + 1 - 1 = j by omega]
    omega
  · exact zV_congr (fun i hi => by unfold updZ; rw [if_neg (by omega), if_neg (by omega)])
theorem rsum_98 {z : Int} {X : Nat} (hz : X ≠ 0 → z = 1 ∨ z = -1) (hX : X < 10 ^ 212) : ∀ (n k : Nat) (s : xS) (ρ : Nat → Int), k ≤ 211 → 212 ≤ n + (211 - k) → rowZ s ρ → zV ρ 0 212 = X → (∀ j, k < j → j < 212 → 0 ≤ ρ j ∧ ρ j ≤ 9) → (-10 ≤ ρ k ∧ ρ k ≤ 19) → (∀ j, j < k → -9 ≤ ρ j ∧ ρ j ≤ 18) → tm_add_98_ok n s (i3 z) (i3 k) ∧ ∃ q, FIN X false (-111) (decide (z < 0)) q ∧ rRes s (tm_add_98 n s (i3 z) (i3 k)) (rs q) := by
  intro n
  induction n with
  | zero => intro k s ρ h1 h2; omega
  | succ n ih =>
    intro k s ρ h1 h2 h3 h4 h5 h6 h7
    unfold tm_add_98 tm_add_98_ok
    have c1 : (i3 k ≤ 0) = (k = 0) := by rw [i3_lit, i3_le (by omega)]; apply propext; omega
    simp only [c1]
    by_cases g : k = 0
    · subst g
      rw [if_pos rfl]
      have hpos : ∀ j, j < 212 → 0 ≤ ρ j ∧ ρ j ≤ 9 := by
        intro j hj
        by_cases q : j = 0
        · subst q
          have hs := zV_add ρ 0 1 211
          rw [show 1 + 211 = 212 from rfl, h4] at hs
          have h1 : zV ρ 0 1 = ρ 0 := by show 10 * 0 + ρ (0 + 0) = _; simp
          rw [h1] at hs
          have ht : zV ρ (0 + 1) 211 = (dV (fun k => (ρ k).toNat) (0 + 1) 211 : Nat) := zV_nat (fun k hk => (h5 _ (by omega) (by omega)).1)
          have hl : dV (fun k => (ρ k).toNat) (0 + 1) 211 < 10 ^ 211 := dV_lt (fun k hk => by have := (h5 (0 + 1 + k) (by omega) (by omega)); show (ρ (0 + 1 + k)).toNat ≤ 9; omega)
          rw [ht, show (10 : Int) ^ 211 = ((10 ^ 211 : Nat) : Int) from (pI 211).symm] at hs
          have hX' : X < 10 * 10 ^ 211 := by rw [← tenP_s]; exact hX
          have hp := tenP_pos 211
          generalize 10 ^ 211 = P at *
          generalize dV (fun k => (ρ k).toNat) (0 + 1) 211 = t at *
          generalize ρ 0 = y at *
          constructor
          · by_cases q : 0 ≤ y
            · exact q
            · have : y * P ≤ -1 * P := Int.mul_le_mul_of_nonneg_right (by omega) (by omega)
              omega
          · by_cases q : y ≤ 9
            · exact q
            · have : 10 * P ≤ y * P := Int.mul_le_mul_of_nonneg_right (by omega) (by omega)
              omega
        · exact h5 j (by omega) hj
      have hrow : rowIs s (fun k => (ρ k).toNat) 212 := by
        intro k hk
        have := hpos k hk
        refine ⟨?_, by show (ρ k).toNat ≤ 9; omega⟩
        rw [h3 k (by omega)]
        exact congrArg i3 (show ρ k = ((ρ k).toNat : Int) by omega)
      have hv : dV (fun k => (ρ k).toNat) 0 212 = X := by
        have := zV_nat (ρ := ρ) (f := 0) (n := 212) (fun k hk => by rw [Nat.zero_add]; exact (hpos k hk).1)
        rw [h4] at this
        omega
      obtain ⟨p1, q, p2, p3⟩ := rround' s (z := z) (f := 100) (c := 212) (m := false) hrow (by omega) (by omega) (by rw [hv]; exact hz)
      rw [hv] at p2
      exact ⟨⟨fun _ => p1, fun q => absurd rfl q⟩, q, p2, p3⟩
    · rw [if_neg g]
      have e1 : i3 k - 1 = i3 (k - 1 : Nat) := by rw [i3_lit, i3_sub]; exact congrArg i3 (by omega)
      have e2 : i3 k + -1 = i3 (k - 1 : Nat) := by rw [i3_lit, i3_neg, i3_add]; exact congrArg i3 (by omega)
      have hin : vp_in (i3 k) 256 := by rw [i3_inN (by omega)]; omega
      have hin' : vp_in (i3 (k - 1 : Nat)) 256 := by rw [i3_inN (by omega)]; omega
      simp only [e1, e2, i3_natN (show k < 2147483648 by omega), i3_natN (show k - 1 < 2147483648 by omega), h3 k (by omega), h3 (k - 1) (by omega)]
      have b7 := h7 (k - 1) (by omega)
      have c2 : ((0 : Int32) ≤ i3 (ρ k)) = (0 ≤ ρ k) := by rw [i3_lit, i3_le (by omega)]
      have c3 : (i3 (ρ k) ≤ 9) = (ρ k ≤ 9) := by rw [i3_lit, i3_le (by omega)]
      simp only [c2, c3]
      have key : ∀ c : Int, -1 ≤ c → c ≤ 1 → 0 ≤ ρ k - 10 * c → ρ k - 10 * c ≤ 9 → tm_add_98_ok n (sI (sI s 242 (k - 1) (i3 (ρ (k - 1) + c))) 242 k (i3 (ρ k - 10 * c))) (i3 z) (i3 (k - 1 : Nat)) ∧ ∃ q, FIN X false (-111) (decide (z < 0)) q ∧ rRes s (tm_add_98 n (sI (sI s 242 (k - 1) (i3 (ρ (k - 1) + c))) 242 k (i3 (ρ k - 10 * c))) (i3 z) (i3 (k - 1 : Nat))) (rs q) := by
        intro c k1 k2 k3 k4
        obtain ⟨p1, q, p2, p3⟩ := ih (k - 1) (sI (sI s 242 (k - 1) (i3 (ρ (k - 1) + c))) 242 k (i3 (ρ k - 10 * c))) (updZ (updZ ρ (k - 1) (ρ (k - 1) + c)) k (ρ k - 10 * c)) (by omega) (by omega) (rowZ_sI (rowZ_sI h3 _ _) _ _) (by rw [zV_carry c (by omega) (by omega)]; exact h4) (by
            intro j j1 j2
            unfold updZ
            by_cases w : j = k
            · rw [if_pos w]; omega
            · rw [if_neg w, if_neg (by omega)]; exact h5 j (by omega) j2) (by
            unfold updZ
            rw [if_neg (by omega), if_pos rfl]; omega) (by
            intro j j1
            unfold updZ
            rw [if_neg (by omega), if_neg (by omega)]; exact h7 j (by omega))
        exact ⟨p1, q, p2, fr_trans (fr_sI (fr_sI (fr_refl ..) (Or.inl rfl)) (Or.inl rfl)) p3.1, p3.2⟩
      by_cases g1 : 0 ≤ ρ k
      · by_cases g2 : ρ k ≤ 9
        · obtain ⟨p1, p2⟩ := key 0 (by omega) (by omega) (by omega) (by omega)
          rw [show ρ k - 10 * 0 = ρ k by omega] at p1 p2
          have z0 : i3 (ρ (k - 1)) + zb (!decide (ρ k ≤ 9)) = i3 (ρ (k - 1) + 0) := by
            rw [decide_eq_true g2]
            show i3 (ρ (k - 1)) + i3 0 = _
            rw [i3_add]
          rw [z0, if_pos g1, if_pos g2, if_pos g1]
          exact ⟨⟨fun q => absurd q g, fun _ => ⟨hin, fun _ => ⟨hin, fun _ => ⟨hin, hin', hin, fun _ => ⟨hin, hin', hin, p1⟩, fun q => absurd g1 q⟩, fun q => absurd g2 q⟩, fun q => absurd g1 q⟩⟩, p2⟩
        · obtain ⟨p1, p2⟩ := key 1 (by omega) (by omega) (by omega) (by omega)
          have z0 : i3 (ρ (k - 1)) + zb (!decide (ρ k ≤ 9)) = i3 (ρ (k - 1) + 1) := by
            rw [decide_eq_false g2]
            show i3 (ρ (k - 1)) + i3 1 = _
            rw [i3_add]
          have z1 : i3 (ρ k) - 10 = i3 (ρ k - 10 * 1) := by rw [i3_lit, i3_sub]; rfl
          rw [z0, z1, if_pos g1, if_neg g2, if_pos g1]
          exact ⟨⟨fun q => absurd q g, fun _ => ⟨hin, fun _ => ⟨hin, fun q => absurd q g2, fun _ => ⟨hin, hin', hin, fun _ => ⟨hin, hin', hin, p1⟩, fun q => absurd g1 q⟩⟩, fun q => absurd g1 q⟩⟩, p2⟩
      · obtain ⟨p1, p2⟩ := key (-1) (by omega) (by omega) (by omega) (by omega)
        have z0 : i3 (ρ (k - 1)) + -1 = i3 (ρ (k - 1) + -1) := by rw [i3_lit, i3_neg, i3_add]
        have z1 : i3 (ρ k) + 10 = i3 (ρ k - 10 * -1) := by rw [i3_lit, i3_add]; exact congrArg i3 (by omega)
        rw [z0, z1, if_neg g1, if_neg g1]
        exact ⟨⟨fun q => absurd q g, fun _ => ⟨hin, fun q => absurd q g1, fun _ => ⟨hin, hin', hin, fun q => absurd q g1, fun _ => ⟨hin', hin, p1⟩⟩⟩⟩, p2⟩
