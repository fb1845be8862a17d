/-! THE REFERENCE'S ROUNDING: a row of digits -/
/-- the number that the digits from f on make, n of them -/
def dV (r : Nat → Nat) (f : Nat) : Nat → Nat
  | 0 => 0
  | n + 1 => 10 * dV r f n + r (f + n)
theorem dV_add (r : Nat → Nat) (f n m : Nat) : dV r f (n + m) = dV r f n * 10 ^ m + dV r (f + n) m := by
  induction m with
  | zero => simp [dV]
  | succ m ih =>
    show 10 * dV r f (n + m) + r (f + (n + m)) = _
    rw [ih, tenP_s]
    show _ = _ + (10 * dV r (f + n) m + r (f + n + m))
    rw [Nat.mul_add, Nat.add_assoc f n m]
    have : dV r f n * (10 * 10 ^ m) = 10 * (dV r f n * 10 ^ m) := Nat.mul_left_comm ..
    omega
theorem dV_lt {r : Nat → Nat} {f n : Nat} (h : ∀ k, k < n → r (f + k) ≤ 9) : dV r f n < 10 ^ n := by
  induction n with
  | zero => simp [dV]
  | succ n ih =>
    have := ih (fun k hk => h k (by omega))
    have h2 := h n (by omega)
    show 10 * dV r f n + r (f + n) < _
    rw [tenP_s]; omega
theorem dV_zero {r : Nat → Nat} {f n : Nat} (h : ∀ k, k < n → r (f + k) = 0) : dV r f n = 0 := by
  induction n with
  | zero => rfl
  | succ n ih =>
    show 10 * dV r f n + r (f + n) = 0
    rw [ih (fun k hk => h k (by omega)), h n (by omega)]
theorem dV_eq0 {r : Nat → Nat} {f n : Nat} (h : dV r f n = 0) : ∀ k, k < n → r (f + k) = 0 := by
  induction n with
  | zero => intro k hk; omega
  | succ n ih =>
    have h1 : 10 * dV r f n + r (f + n) = 0 := h
    intro k hk
    by_cases g : k = n
    · subst g; omega
    · exact ih (by omega) k (by omega)
theorem dV_skip {r : Nat → Nat} {f n : Nat} (h : ∀ k, k < f → r k = 0) : dV r 0 (f + n) = dV r f n := by
  rw [dV_add, dV_zero (fun k hk => by rw [Nat.zero_add]; exact h k hk), Nat.zero_add]; omega
theorem dV_congr {r q : Nat → Nat} {f n : Nat} (h : ∀ k, k < n → r (f + k) = q (f + k)) : dV r f n = dV q f n := by
  induction n with
  | zero => rfl
  | succ n ih =>
    show 10 * dV r f n + r (f + n) = 10 * dV q f n + q (f + n)
    rw [ih (fun k hk => h k (by omega)), h n (by omega)]
theorem near_digits {r : Nat → Nat} {f j : Nat} {m : Bool} (h : ∀ k, k < 13 + j → r (f + k) ≤ 9) : near (dV r f (13 + j)) (10 ^ (j + 1)) m = if 5 < r (f + 12) ∨ (r (f + 12) = 5 ∧ (m = true ∨ dV r (f + 13) j ≠ 0 ∨ dV r f 12 % 2 = 1)) then dV r f 12 + 1 else dV r f 12 := by
  have h1 : dV r f (13 + j) = dV r f 13 * 10 ^ j + dV r (f + 13) j := dV_add ..
  have h2 : dV r f 13 = 10 * dV r f 12 + r (f + 12) := rfl
  have hl : dV r (f + 13) j < 10 ^ j := dV_lt (fun k hk => by rw [Nat.add_assoc]; exact h (13 + k) (by omega))
  have hd := h 12 (by omega)
  have hp := tenP_pos j
  generalize dV r (f + 13) j = l at *
  generalize dV r f 12 = v at *
  generalize r (f + 12) = x at *
  have e1 : dV r f (13 + j) = v * 10 ^ (j + 1) + (x * 10 ^ j + l) := by
    rw [h1, h2, Nat.add_mul, tenP_s]
    have : v * (10 * 10 ^ j) = 10 * v * 10 ^ j := by rw [Nat.mul_left_comm, Nat.mul_assoc]
    omega
  have hb : x * 10 ^ j + l < 10 ^ (j + 1) := by
    have : x * 10 ^ j ≤ 9 * 10 ^ j := Nat.mul_le_mul_right _ hd
    rw [tenP_s]; omega
  have e2 : dV r f (13 + j) % 10 ^ (j + 1) = x * 10 ^ j + l := by
    rw [e1, Nat.mul_comm v, Nat.mul_add_mod, Nat.mod_eq_of_lt hb]
  have e3 : dV r f (13 + j) / 10 ^ (j + 1) = v := by
    rw [e1, Nat.mul_comm v, Nat.mul_add_div (tenP_pos _), Nat.div_eq_of_lt hb]; omega
  unfold near
  rw [e2, e3, tenP_s]
  generalize 10 ^ j = P at *
  have key : 5 ≤ x ∨ x ≤ 4 := by omega
  rcases key with k | k
  · by_cases k6 : 6 ≤ x
    · have : 6 * P ≤ x * P := Nat.mul_le_mul_right _ k6
      rw [if_pos (by omega), if_pos (by omega)]
    · have : x = 5 := by omega
      subst this
      by_cases c : m = true ∨ l ≠ 0 ∨ v % 2 = 1
      · rw [if_pos, if_pos (Or.inr ⟨rfl, c⟩)]
        by_cases l0 : l = 0
        · refine Or.inr ⟨by omega, ?_⟩
          rcases c with c | c | c
          · exact Or.inl c
          · exact absurd l0 c
          · exact Or.inr c
        · left; omega
      · have l0 : l = 0 := by
          by_cases q : l = 0
          · exact q
          · exact absurd (Or.inr (Or.inl q)) c
        rw [if_neg, if_neg]
        · rintro (q | ⟨_, q⟩)
          · omega
          · exact c q
        · rintro (q | ⟨_, q | q⟩)
          · omega
          · exact c (Or.inl q)
          · exact c (Or.inr (Or.inr q))
  · have : x * P ≤ 4 * P := Nat.mul_le_mul_right _ k
    rw [if_neg (by omega), if_neg (by omega)]
/-- what the reference leaves: its sign, number and power -/
def rput (s : xS) (z : Int) (d : Nat) (e : Int) : Int32 × xS := if 99 < e then (2, s) else (0, sI (sJ (sI s 230 29 (i3 (if e < -99 then 0 else z))) 230 30 (j6 d)) 230 31 (i3 e))
theorem rround_220 (s : xS) {z : Int} {d : Nat} {e : Int} (he : -2000 ≤ e ∧ e ≤ 2000) : tm_round_220 s (i3 z) (j6 d) (i3 e) = rput s z d e := by
  rw [tm_round_220_eq]
  unfold tm_round_220_d rput
  have c1 : (i3 e ≤ 99) = (e ≤ 99) := by rw [i3_lit, i3_le (by omega)]
  have c2 : ((-99 : Int32) ≤ i3 e) = (-99 ≤ e) := by rw [i3_lit, i3_neg, i3_le (by omega)]
  simp only [c1, c2]
  by_cases c : 99 < e
  · rw [if_neg (by omega), if_pos c]
  · rw [if_pos (by omega), if_neg c]
    by_cases c2 : e < -99
    · rw [if_neg (by omega), if_pos c2]; rfl
    · rw [if_pos (by omega), if_neg c2]
def rfin (s : xS) (z : Int) (d : Nat) (e : Int) : Int32 × xS := if d = 10 ^ 12 then rput s z (10 ^ 11) (e + 1) else rput s z d e
theorem rround_195 (s : xS) {z f k : Int} {d : Nat} (hd : d ≤ 10 ^ 12) (he : -1000 ≤ f - k ∧ f - k ≤ 1000) : tm_round_195 s (i3 z) (i3 f) (i3 k) (j6 d) = rfin s z d (f - k) := by
  rw [tm_round_195_eq]
  unfold tm_round_195_d rfin
  have c1 : (j6 d = 1000000000000) = (d = 10 ^ 12) := by rw [j6_lit, j6_eq (by omega)]; apply propext; omega
  simp only [c1, i3_lit, i3_sub, i3_add]
  by_cases g : d = 10 ^ 12
  · rw [if_neg (fun q => q g), if_pos g]; exact rround_220 s (d := 10 ^ 11) (e := f - k + 1) (by omega)
  · rw [if_pos g, if_neg g]; exact rround_220 s (by omega)
theorem rround_186 (s : xS) {z f k : Int} {d : Nat} (hd : d < 10 ^ 12) (he : -1000 ≤ f - k ∧ f - k ≤ 1000) : tm_round_186 s (i3 z) (i3 f) (i3 k) (j6 d) = rfin s z (d + 1) (f - k) := by
  rw [tm_round_186_eq]
  unfold tm_round_186_d
  rw [j6_lit, j6_add]
  exact rround_195 s (d := d + 1) (by omega) he
theorem rround_193 (s : xS) {z f k : Int} {d : Nat} (hd : d < 10 ^ 12) (he : -1000 ≤ f - k ∧ f - k ≤ 1000) : tm_round_193 s (i3 z) (i3 f) (i3 k) (j6 d) = rfin s z d (f - k) := by
  rw [tm_round_193_eq]
  unfold tm_round_193_d
  exact rround_195 s (by omega) he
/-- the digits of the row -/
def rowIs (s : xS) (r : Nat → Nat) (c : Nat) : Prop := ∀ k, k < c → gI s 242 k = i3 (r k) ∧ r k ≤ 9
theorem rround_124 (s : xS) {r : Nat → Nat} {c : Nat} {z f : Int} {k d x : Nat} (hr : rowIs s r c) (hc : c ≤ 256) (hd : d < 10 ^ 12) (hx : x ≤ 9) (hk : k ≤ 300) (he : -1000 ≤ f - k ∧ f - k ≤ 1000) : ∀ (n p : Nat) (m : Bool), p ≤ 300 → 400 ≤ n + p → 13 ≤ p → tm_round_124_ok n s (i3 z) (i3 f) (i3 c) (i3 k) (j6 d) (i3 x) (zb m) (i3 p) ∧ tm_round_124 n s (i3 z) (i3 f) (i3 c) (i3 k) (j6 d) (i3 x) (zb m) (i3 p) = rfin s z (if 5 < x ∨ (x = 5 ∧ (m = true ∨ dV r p (c - p) ≠ 0 ∨ d % 2 = 1)) then d + 1 else d) (f - k) := by
  intro n
  induction n with
  | zero => intro p m h1 h2; omega
  | succ n ih =>
    intro p m h1 h2 h3
    unfold tm_round_124 tm_round_124_ok
    have c1 : (i3 c ≤ i3 p) = (c ≤ p) := i3_leN (by omega) (by omega)
    have c2 : ((5 : Int32) < i3 x) = (5 < x) := by rw [i3_lit, i3_lt (by omega)]; apply propext; omega
    have c3 : (i3 x = 5) = (x = 5) := by rw [i3_lit, i3_eq (by omega)]; apply propext; omega
    have c4 : (zb m = 0) = (m = false) := propext zb_eq0
    have c5 : (j6 d - j6 d / 2 * 2 = 1) = (d % 2 = 1) := by
      rw [j6_lit, j6_quo (by omega), j6_mul, j6_sub, show (2 : Int) = ((2 : Nat) : Int) from rfl, mod_sub, j6_lit, j6_eq (by omega)]
      apply propext; omega
    have e1 : i3 p + 1 = i3 (p + 1 : Nat) := by rw [i3_lit, i3_add]; rfl
    have e2 : j6 d + 1 = j6 (d + 1 : Nat) := by rw [j6_lit, j6_add]; rfl
    simp only [c1, c2, c3, c4, c5, e1, e2]
    by_cases g : c ≤ p
    · rw [if_pos g]
      refine ⟨fun q => absurd g q, ?_⟩
      rw [show c - p = 0 by omega]
      show _ = rfin s z (if 5 < x ∨ (x = 5 ∧ (m = true ∨ (0 : Nat) ≠ 0 ∨ d % 2 = 1)) then d + 1 else d) (f - k)
      by_cases x1 : 5 < x
      · rw [if_pos x1, if_pos (Or.inl x1)]; exact rround_186 s hd he
      · rw [if_neg x1]
        by_cases x2 : x = 5
        · rw [if_neg (fun q => q x2)]
          cases m
          · rw [if_neg (fun q => q rfl)]
            by_cases x3 : d % 2 = 1
            · rw [if_pos x3, if_pos (Or.inr ⟨x2, Or.inr (Or.inr x3)⟩)]; exact rround_195 s (by omega) he
            · rw [if_neg x3, if_neg (by rintro (q | ⟨_, q | q | q⟩) <;> first | omega | cases q | exact x3 q)]; exact rround_195 s (by omega) he
          · rw [if_pos (fun q => by cases q), if_pos (Or.inr ⟨x2, Or.inl rfl⟩)]; exact rround_186 s hd he
        · rw [if_pos x2, if_neg (by rintro (q | ⟨q, _⟩) <;> omega)]; exact rround_193 s hd he
    · rw [if_neg g]
      have hs : dV r p (c - p) = r p * 10 ^ (c - p - 1) + dV r (p + 1) (c - p - 1) := by
        have := dV_add r p 1 (c - p - 1)
        rw [show 1 + (c - p - 1) = c - p by omega] at this
        rw [this]
        show (10 * 0 + r (p + 0)) * _ + _ = _
        rw [Nat.add_zero, Nat.mul_zero, Nat.zero_add]
      obtain ⟨r1, r2⟩ := hr p (by omega)
      cases m
      · rw [if_neg (fun q => q rfl)]
        rw [i3_nat (by omega), Int.toNat_natCast, r1]
        have c6 : (!decide (i3 (r p) ≤ 0)) = !decide (r p = 0) := by
          have : (i3 (r p) ≤ 0) = (r p = 0) := by rw [i3_lit, i3_le (by omega)]; apply propext; omega
          rw [decide_eq_decide.mpr (by rw [this])]
        rw [c6]
        obtain ⟨p1, p2⟩ := ih (p + 1) (!decide (r p = 0)) (by omega) (by omega) (by omega)
        refine ⟨fun _ => ⟨fun q => absurd rfl q, fun _ => ⟨by rw [i3_in (by omega)]; omega, p1⟩⟩, ?_⟩
        rw [p2, hs]
        congr 1
        have : ((!decide (r p = 0)) = true ∨ dV r (p + 1) (c - (p + 1)) ≠ 0 ∨ d % 2 = 1) ↔ (false = true ∨ r p * 10 ^ (c - p - 1) + dV r (p + 1) (c - p - 1) ≠ 0 ∨ d % 2 = 1) := by
          rw [show c - (p + 1) = c - p - 1 by omega]
          have hp := tenP_pos (c - p - 1)
          by_cases q : r p = 0
          · rw [q]; simp
          · have h5 : 0 < r p * 10 ^ (c - p - 1) := Nat.mul_pos (by omega) hp
            constructor
            · intro _; right; left; omega
            · intro _; left; simp [q]
        simp only [this]
      · rw [if_pos (fun q => by cases q)]
        have e3 : (1 : Int32) = zb true := rfl
        rw [e3]
        obtain ⟨p1, p2⟩ := ih (p + 1) true (by omega) (by omega) (by omega)
        refine ⟨fun _ => ⟨fun _ => p1, fun q => by cases q⟩, ?_⟩
        rw [p2]
        simp
theorem rround_45 (s : xS) {r : Nat → Nat} {c : Nat} {z f : Int} {k : Nat} {m : Bool} (hr : rowIs s r c) (hc : c ≤ 256) (hk : k < c) (he : -1000 ≤ f - k ∧ f - k ≤ 1000) : ∀ (n i : Nat), i ≤ 12 → 13 ≤ n + i → tm_round_45_ok n s (i3 z) (i3 f) (i3 c) (zb m) (i3 k) (j6 (dV (fun q => if q < c then r q else 0) k i : Nat)) (i3 (k + i : Nat)) ∧ tm_round_45 n s (i3 z) (i3 f) (i3 c) (zb m) (i3 k) (j6 (dV (fun q => if q < c then r q else 0) k i : Nat)) (i3 (k + i : Nat)) = rfin s z (if c ≤ k + 12 then dV (fun q => if q < c then r q else 0) k 12 else if 5 < r (k + 12) ∨ (r (k + 12) = 5 ∧ (m = true ∨ dV r (k + 13) (c - (k + 13)) ≠ 0 ∨ dV r k 12 % 2 = 1)) then dV r k 12 + 1 else dV r k 12) (f - k) := by
  intro n
  have hb : ∀ i, i ≤ 12 → dV (fun q => if q < c then r q else 0) k i < 10 ^ 12 := by
    intro i hi
    refine Nat.lt_of_lt_of_le (dV_lt (fun j hj => ?_)) (tenP hi)
    show (if k + j < c then r (k + j) else 0) ≤ 9
    split
    · exact (hr _ (by assumption)).2
    · omega
  induction n with
  | zero => intro i h1 h2; omega
  | succ n ih =>
    intro i h1 h2
    unfold tm_round_45 tm_round_45_ok
    have c1 : (i3 k + 12 ≤ i3 (k + i : Nat)) = (12 ≤ i) := by rw [i3_lit, i3_add, i3_le (by omega)]; apply propext; omega
    have c2 : (i3 c ≤ i3 k + 12) = (c ≤ k + 12) := by rw [i3_lit, i3_add, i3_le (by omega)]; apply propext; omega
    have c3 : (i3 c ≤ i3 (k + i : Nat)) = (c ≤ k + i) := i3_leN (by omega) (by omega)
    have e1 : i3 k + 13 = i3 (k + 13 : Nat) := by rw [i3_lit, i3_add]; rfl
    have e2 : i3 (k + i : Nat) + 1 = i3 (k + (i + 1) : Nat) := by rw [i3_lit, i3_add]; rfl
    have e3 : i3 k + 12 = i3 (k + 12 : Nat) := by rw [i3_lit, i3_add]; rfl
    simp only [c1, c2, c3, e1, e2]
    rw [e3]
    by_cases g : 12 ≤ i
    · have hi : i = 12 := by omega
      subst hi
      rw [if_pos g]
      have hb12 := hb 12 (by omega)
      by_cases g2 : c ≤ k + 12
      · rw [if_pos g2, if_pos g2]
        obtain ⟨p1, p2⟩ := rround_124 s (z := z) (f := f) (k := k) (x := 0) (d := dV (fun q => if q < c then r q else 0) k 12) hr hc hb12 (by omega) (by omega) he xfu (k + 13) m (by omega) (by rw [xfu_eq]; omega) (by omega)
        refine ⟨⟨fun _ => ⟨fun _ => p1, fun q => absurd g2 q⟩, fun q => absurd g q⟩, p2.trans ?_⟩
        rw [if_neg (by rintro (q | ⟨q, _⟩) <;> omega)]
      · rw [if_neg g2, if_neg g2]
        have hv : dV (fun q => if q < c then r q else 0) k 12 = dV r k 12 := dV_congr (fun j hj => by
          show (if k + j < c then r (k + j) else 0) = _
          rw [if_pos (by omega)])
        rw [hv] at hb12 ⊢
        obtain ⟨r1, r2⟩ := hr (k + 12) (by omega)
        rw [i3_nat (by omega), Int.toNat_natCast, r1]
        obtain ⟨p1, p2⟩ := rround_124 s (z := z) (f := f) (k := k) (x := r (k + 12)) (d := dV r k 12) hr hc hb12 r2 (by omega) he xfu (k + 13) m (by omega) (by rw [xfu_eq]; omega) (by omega)
        exact ⟨⟨fun _ => ⟨fun q => absurd q g2, fun _ => ⟨by rw [i3_in (by omega)]; omega, p1⟩⟩, fun q => absurd g q⟩, p2⟩
    · rw [if_neg g]
      have hs : dV (fun q => if q < c then r q else 0) k (i + 1) = 10 * dV (fun q => if q < c then r q else 0) k i + (if k + i < c then r (k + i) else 0) := rfl
      obtain ⟨p1, p2⟩ := ih (i + 1) (by omega) (by omega)
      have hbi := hb i (by omega)
      by_cases g2 : c ≤ k + i
      · rw [if_neg (by omega)] at hs
        have e4 : (10 : Int64) * j6 (dV (fun q => if q < c then r q else 0) k i : Nat) + (0 : Int32).toInt64 = j6 (dV (fun q => if q < c then r q else 0) k (i + 1) : Nat) := by
          rw [hs, j6_lit, j6_mul, show (0 : Int32).toInt64 = j6 0 from rfl, j6_add]; rfl
        rw [if_pos g2, e4]
        exact ⟨⟨fun q => absurd q g, fun _ => ⟨fun _ => p1, fun q => absurd g2 q⟩⟩, p2⟩
      · rw [if_pos (by omega)] at hs
        obtain ⟨r1, r2⟩ := hr (k + i) (by omega)
        have e4 : (10 : Int64) * j6 (dV (fun q => if q < c then r q else 0) k i : Nat) + (i3 (r (k + i))).toInt64 = j6 (dV (fun q => if q < c then r q else 0) k (i + 1) : Nat) := by
          rw [hs, j6_lit, j6_mul, i3_long (by omega), j6_add]; rfl
        rw [if_neg g2, i3_natN (a := k + i) (by omega), r1, e4]
        exact ⟨⟨fun q => absurd q g, fun _ => ⟨fun q => absurd q g2, fun _ => ⟨by rw [i3_in (by omega)]; omega, p1⟩⟩⟩, p2⟩
theorem dV_pad (r : Nat → Nat) {c k : Nat} (hk : k ≤ c) (h : c ≤ k + 12) : dV (fun q => if q < c then r q else 0) k 12 = dV r k (c - k) * 10 ^ (k + 12 - c) := by
  have := dV_add (fun q => if q < c then r q else 0) k (c - k) (k + 12 - c)
  rw [show c - k + (k + 12 - c) = 12 by omega] at this
  rw [this, dV_zero (f := k + (c - k)), Nat.add_zero]
  · congr 1
    exact dV_congr (fun j hj => by show (if k + j < c then r (k + j) else 0) = _; rw [if_pos (by omega)])
  · intro j hj
    show (if k + (c - k) + j < c then r (k + (c - k) + j) else 0) = 0
    rw [if_neg (by omega)]
theorem rround_25 (s : xS) {r : Nat → Nat} {c : Nat} {z f : Int} {k : Nat} {m : Bool} (hr : rowIs s r c) (hc : c ≤ 256) (hk : k < c) (h0 : 1 ≤ r k) (he : -700 ≤ f ∧ f ≤ 700) : tm_round_25_ok s (i3 z) (i3 f) (i3 c) (zb m) (i3 k) ∧ ∃ d e, RND (dV r k (c - k)) m (f - c + 1) d e ∧ tm_round_25 s (i3 z) (i3 f) (i3 c) (zb m) (i3 k) = rfin s z d e := by
  obtain ⟨p1, p2⟩ := rround_45 s (z := z) (f := f) (m := m) hr hc hk (by omega) xfu 0 (by omega) (by rw [xfu_eq]; omega)
  rw [tm_round_25_eq]
  unfold tm_round_25_ok tm_round_25_d
  have c1 : (i3 k = i3 c) = (k = c) := i3_eqN (by omega) (by omega)
  simp only [c1]
  refine ⟨fun _ => p1, _, f - k, ?_, by rw [if_pos (by omega)]; exact p2⟩
  have hlo : 10 ^ (c - k - 1) ≤ dV r k (c - k) := by
    have := dV_add r k 1 (c - k - 1)
    rw [show 1 + (c - k - 1) = c - k by omega] at this
    have h1 : dV r k 1 = r k := by show 10 * 0 + r (k + 0) = _; simp
    rw [this, h1]
    have : 1 * 10 ^ (c - k - 1) ≤ r k * 10 ^ (c - k - 1) := Nat.mul_le_mul_right _ h0
    omega
  have hhi : dV r k (c - k) < 10 ^ (c - k) := dV_lt (fun j hj => (hr _ (by omega)).2)
  by_cases g : c ≤ k + 12
  · rw [if_pos g, dV_pad r (by omega) g]
    by_cases g2 : c = k + 12
    · subst g2
      refine Or.inl ⟨0, ?_, ?_, ?_, by omega⟩
      · rw [show k + 12 - k - 1 = 11 by omega] at hlo; simpa using hlo
      · rw [show k + 12 - k = 12 by omega] at hhi; simpa using hhi
      · rw [Nat.pow_zero, near_one]; simp
    · refine Or.inr ⟨k + 12 - c, by omega, ?_, ?_, rfl, by omega⟩
      · have : 10 ^ (c - k - 1) * 10 ^ (k + 12 - c) ≤ dV r k (c - k) * 10 ^ (k + 12 - c) := Nat.mul_le_mul_right _ hlo
        rw [← Nat.pow_add, show c - k - 1 + (k + 12 - c) = 11 by omega] at this
        exact this
      · have : dV r k (c - k) * 10 ^ (k + 12 - c) < 10 ^ (c - k) * 10 ^ (k + 12 - c) := Nat.mul_lt_mul_of_pos_right hhi (tenP_pos _)
        rw [← Nat.pow_add, show c - k + (k + 12 - c) = 12 by omega] at this
        exact this
  · rw [if_neg g]
    obtain ⟨j, rfl⟩ : ∃ j, c = k + 13 + j := ⟨c - k - 13, by omega⟩
    have := near_digits (r := r) (f := k) (j := j) (m := m) (fun q hq => (hr _ (by omega)).2)
    rw [show k + 13 + j - k = 13 + j by omega] at *
    rw [show k + 13 + j - (k + 13) = j by omega] at *
    refine Or.inl ⟨j + 1, ?_, ?_, this.symm, by omega⟩
    · rw [show 11 + (j + 1) = 13 + j - 1 by omega]; exact hlo
    · rw [show 12 + (j + 1) = 13 + j by omega]; exact hhi
theorem rround_3 (s : xS) {r : Nat → Nat} {c : Nat} {z f : Int} {m : Bool} (hr : rowIs s r c) (hc : c ≤ 256) (he : -700 ≤ f ∧ f ≤ 700) : ∀ (n k : Nat), k ≤ c → c + 1 ≤ n + k → (∀ j, j < k → r j = 0) → tm_round_3_ok n s (i3 z) (i3 f) (i3 c) (zb m) (i3 k) ∧ ((dV r 0 c = 0 ∧ tm_round_3 n s (i3 z) (i3 f) (i3 c) (zb m) (i3 k) = (0, sI s 230 29 0)) ∨ (0 < dV r 0 c ∧ ∃ d e, RND (dV r 0 c) m (f - c + 1) d e ∧ tm_round_3 n s (i3 z) (i3 f) (i3 c) (zb m) (i3 k) = rfin s z d e)) := by
  intro n
  induction n with
  | zero => intro k h1 h2; omega
  | succ n ih =>
    intro k h1 h2 h3
    unfold tm_round_3 tm_round_3_ok
    have c1 : (i3 c ≤ i3 k) = (c ≤ k) := i3_leN (by omega) (by omega)
    have e1 : i3 k + 1 = i3 (k + 1 : Nat) := by rw [i3_lit, i3_add]; rfl
    simp only [c1, e1]
    by_cases g : c ≤ k
    · have : k = c := by omega
      subst this
      rw [if_pos g, tm_round_25_eq]
      unfold tm_round_25_ok tm_round_25_d
      exact ⟨⟨fun _ q => absurd rfl q, fun q => absurd g q⟩, Or.inl ⟨dV_zero (fun j hj => by rw [Nat.zero_add]; exact h3 j hj), by rw [if_neg (fun q => q rfl)]⟩⟩
    · rw [if_neg g]
      obtain ⟨r1, r2⟩ := hr k (by omega)
      have c2 : (i3 (r k) = 0) = (r k = 0) := by rw [i3_lit, i3_eq (by omega)]; apply propext; omega
      rw [i3_nat (by omega), Int.toNat_natCast, r1]
      simp only [c2]
      by_cases g2 : r k = 0
      · rw [if_neg (fun q => q g2)]
        obtain ⟨p1, p2⟩ := ih (k + 1) (by omega) (by omega) (fun j hj => by
          by_cases q : j = k
          · rw [q]; exact g2
          · exact h3 j (by omega))
        exact ⟨⟨fun q => absurd q g, fun _ => ⟨by rw [i3_in (by omega)]; omega, fun q => absurd g2 q, fun _ => p1⟩⟩, p2⟩
      · rw [if_pos g2]
        obtain ⟨p1, d, e, p2, p3⟩ := rround_25 s (z := z) (f := f) (m := m) hr hc (by omega : k < c) (by omega) he
        have hs : dV r 0 c = dV r k (c - k) := by
          have := dV_skip (r := r) (f := k) (n := c - k) h3
          rwa [show k + (c - k) = c by omega] at this
        have hpos : 0 < dV r k (c - k) := by
          by_cases q : dV r k (c - k) = 0
          · have := dV_eq0 q 0 (by omega)
            rw [Nat.add_zero] at this
            exact absurd this g2
          · omega
        rw [hs]
        exact ⟨⟨fun q => absurd q g, fun _ => ⟨by rw [i3_in (by omega)]; omega, fun _ => p1, fun q => absurd q g2⟩⟩, Or.inr ⟨hpos, d, e, p2, p3⟩⟩
/-- the reference's answer, and the state it leaves -/
theorem rround (s : xS) {r : Nat → Nat} {c : Nat} {z f : Int} {m : Bool} (hr : rowIs s r c) (hc : c ≤ 256) (he : -700 ≤ f ∧ f ≤ 700) : tm_round_ok s (i3 z) (i3 f) (i3 c) (zb m) ∧ ((dV r 0 c = 0 ∧ tm_round s (i3 z) (i3 f) (i3 c) (zb m) = (0, sI s 230 29 0)) ∨ (0 < dV r 0 c ∧ ∃ d e, RND (dV r 0 c) m (f - c + 1) d e ∧ tm_round s (i3 z) (i3 f) (i3 c) (zb m) = rfin s z d e)) := by
  rw [tm_round_eq]
  unfold tm_round_ok tm_round_d
  exact rround_3 s hr hc he xfu 0 (by omega) (by rw [xfu_eq]; omega) (fun j hj => by omega)
