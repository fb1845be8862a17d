/-! ROUNDING, as a relation of natural numbers -/
def near (W q : Nat) (m : Bool) : Nat := if q < 2 * (W % q) ∨ (2 * (W % q) = q ∧ (m = true ∨ W / q % 2 = 1)) then W / q + 1 else W / q
def RND (W : Nat) (m : Bool) (u : Int) (d : Nat) (e : Int) : Prop :=
  (∃ k : Nat, 10 ^ (11 + k) ≤ W ∧ W < 10 ^ (12 + k) ∧ d = near W (10 ^ k) m ∧ e = u + 11 + k) ∨ (∃ k : Nat, 1 ≤ k ∧ 10 ^ 11 ≤ W * 10 ^ k ∧ W * 10 ^ k < 10 ^ 12 ∧ d = W * 10 ^ k ∧ e = u + 11 - k)
theorem near_one (W : Nat) (m : Bool) : near W 1 m = W := by
  unfold near
  rw [Nat.mod_one, Nat.div_one, if_neg (by omega)]
theorem near_trunc {W' Q h : Nat} (m m' : Bool) (hQ : 0 < Q) (hh : 0 < h) (hm : m = true ↔ (m' = true ∨ W' % Q ≠ 0)) : near W' (Q * (2 * h)) m' = near (W' / Q) (2 * h) m := by
  unfold near
  rw [← Nat.div_div_eq_div_mul, Nat.mod_mul]
  have hl := Nat.mod_lt W' hQ
  have hr := Nat.mod_lt (W' / Q) (show 0 < 2 * h by omega)
  generalize hw : W' / Q = W at *
  generalize W' % Q = l at *
  generalize W % (2 * h) = r at *
  generalize W / (2 * h) = v at *
  have e0 : Q * (2 * h) = 2 * (Q * h) := by rw [Nat.mul_left_comm]
  rw [e0]
  rcases Nat.lt_trichotomy r h with g | g | g
  · have : Q * (r + 1) ≤ Q * h := Nat.mul_le_mul_left Q g
    rw [Nat.mul_add] at this
    rw [if_neg (by omega), if_neg (by omega)]
  · subst g
    by_cases c : m' = true ∨ l ≠ 0 ∨ v % 2 = 1
    · rw [if_pos, if_pos]
      · rcases c with c | c | c
        · exact Or.inr ⟨rfl, Or.inl (hm.mpr (Or.inl c))⟩
        · exact Or.inr ⟨rfl, Or.inl (hm.mpr (Or.inr c))⟩
        · exact Or.inr ⟨rfl, Or.inr c⟩
      · by_cases c2 : l = 0
        · subst c2
          refine Or.inr ⟨by omega, ?_⟩
          rcases c with c | c | c
          · exact Or.inl c
          · exact absurd rfl c
          · exact Or.inr c
        · left; omega
    · have c1 : l = 0 := by
        by_cases q : l = 0
        · exact q
        · exact absurd (Or.inr (Or.inl q)) c
      subst c1
      rw [if_neg, if_neg]
      · rintro (q | ⟨_, q | q⟩)
        · omega
        · rcases hm.mp q with q | q
          · exact c (Or.inl q)
          · exact q rfl
        · exact c (Or.inr (Or.inr q))
      · rintro (q | ⟨_, q | q⟩)
        · omega
        · exact c (Or.inl q)
        · exact c (Or.inr (Or.inr q))
  · have : Q * (h + 1) ≤ Q * r := Nat.mul_le_mul_left Q g
    rw [Nat.mul_add] at this
    rw [if_pos (by omega), if_pos (by omega)]
theorem tenP_even (k : Nat) : 10 ^ (k + 1) = 2 * (5 * 10 ^ k) := by rw [tenP_s]; omega
theorem near_cut {W' j k : Nat} (m m' : Bool) (hk : 1 ≤ k) (hm : m = true ↔ (m' = true ∨ W' % 10 ^ j ≠ 0)) : near W' (10 ^ (j + k)) m' = near (W' / 10 ^ j) (10 ^ k) m := by
  obtain ⟨i, rfl⟩ : ∃ i, k = i + 1 := ⟨k - 1, by omega⟩
  rw [Nat.pow_add, tenP_even i]
  exact near_trunc m m' (tenP_pos j) (by have := tenP_pos i; omega) hm
theorem RND_fun {W : Nat} {m : Bool} {u : Int} {d d' : Nat} {e e' : Int} (h : RND W m u d e) (h' : RND W m u d' e') : d = d' ∧ e = e' := by
  have key : ∀ {a b : Nat}, 10 ^ (11 + a) ≤ W → W < 10 ^ (12 + a) → 10 ^ (11 + b) ≤ W → W < 10 ^ (12 + b) → a = b := by
    intro a b h1 h2 h3 h4
    have p := tenP_lt (Nat.lt_of_le_of_lt h1 h4)
    have q := tenP_lt (Nat.lt_of_le_of_lt h3 h2)
    omega
  have key2 : ∀ {a b : Nat}, 10 ^ 11 ≤ W * 10 ^ a → W * 10 ^ b < 10 ^ 12 → b ≤ a := by
    intro a b h1 h2
    by_cases g : b ≤ a
    · exact g
    · obtain ⟨c, rfl⟩ : ∃ c, b = a + c + 1 := ⟨b - a - 1, by omega⟩
      have : W * 10 ^ (a + c + 1) = 10 * (W * 10 ^ a * 10 ^ c) := by
        rw [tenP_s, Nat.pow_add]; simp only [Nat.mul_left_comm, Nat.mul_assoc]
      have h3 : W * 10 ^ a ≤ W * 10 ^ a * 10 ^ c := Nat.le_mul_of_pos_right _ (tenP_pos c)
      omega
  have key3 : ∀ {a b : Nat}, 10 ^ (11 + a) ≤ W → 1 ≤ b → W * 10 ^ b < 10 ^ 12 → False := by
    intro a b h1 h2 h3
    have h4 := tenP (k := 11) (n := 11 + a) (by omega)
    have h5 := tenP (k := 1) (n := b) h2
    have h6 : W * 10 ^ 1 ≤ W * 10 ^ b := Nat.mul_le_mul_left W h5
    omega
  rcases h with ⟨a, h1, h2, h3, h4⟩ | ⟨a, h0, h1, h2, h3, h4⟩ <;> rcases h' with ⟨b, g1, g2, g3, g4⟩ | ⟨b, g0, g1, g2, g3, g4⟩
  · have := key h1 h2 g1 g2
    subst this
    exact ⟨h3.trans g3.symm, h4.trans g4.symm⟩
  · exact (key3 h1 g0 g2).elim
  · exact (key3 g1 h0 h2).elim
  · have : a = b := Nat.le_antisymm (key2 g1 h2) (key2 h1 g2)
    subst this
    exact ⟨h3.trans g3.symm, h4.trans g4.symm⟩
theorem RND_cut {W' j : Nat} {m m' : Bool} {u u' : Int} {d : Nat} {e : Int} (h : RND (W' / 10 ^ j) m u d e) (hm : m = true ↔ (m' = true ∨ W' % 10 ^ j ≠ 0)) (hW : 10 ^ 12 ≤ W' / 10 ^ j) (hu : u = u' + j) : RND W' m' u' d e := by
  rcases h with ⟨a, h1, h2, h3, h4⟩ | ⟨a, h0, h1, h2, h3, h4⟩
  · have ha : 1 ≤ a := by
      have := tenP_lt (Nat.lt_of_le_of_lt hW h2)
      omega
    refine Or.inl ⟨j + a, ?_, ?_, ?_, by omega⟩
    · have := (Nat.le_div_iff_mul_le (tenP_pos j)).mp h1
      rw [← Nat.pow_add] at this
      rwa [show 11 + (j + a) = 11 + a + j by omega]
    · have := (Nat.div_lt_iff_lt_mul (tenP_pos j)).mp h2
      rw [← Nat.pow_add] at this
      rwa [show 12 + (j + a) = 12 + a + j by omega]
    · rw [h3, near_cut m m' ha hm]
  · have h5 := tenP (k := 1) (n := a) h0
    have h6 : W' / 10 ^ j * 10 ^ 1 ≤ W' / 10 ^ j * 10 ^ a := Nat.mul_le_mul_left _ h5
    omega
theorem near_zeros {W j k : Nat} (hk : 1 ≤ k) : near (W * 10 ^ j) (10 ^ (j + k)) false = near W (10 ^ k) false := by
  have := near_cut (W' := W * 10 ^ j) (j := j) (k := k) false false hk (by rw [Nat.mul_mod_left]; simp)
  rwa [Nat.mul_div_cancel _ (tenP_pos j)] at this
theorem near_exact {W k : Nat} {m : Bool} : near (W * 10 ^ k) (10 ^ k) false = W := by
  unfold near
  have := tenP_pos k
  rw [Nat.mul_mod_left, Nat.mul_div_cancel _ (tenP_pos k), if_neg (by omega)]
theorem RND_ten {W : Nat} {u : Int} {d : Nat} {e : Int} (h : RND W false u d e) : RND (W * 10) false (u - 1) d e := by
  rcases h with ⟨a, h1, h2, h3, h4⟩ | ⟨a, h0, h1, h2, h3, h4⟩
  · refine Or.inl ⟨a + 1, ?_, ?_, ?_, by omega⟩
    · rw [show 11 + (a + 1) = 11 + a + 1 by omega, tenP_s]; omega
    · rw [show 12 + (a + 1) = 12 + a + 1 by omega, tenP_s]; omega
    · rw [h3]
      by_cases ha : 1 ≤ a
      · have := near_zeros (W := W) (j := 1) ha
        rw [show 1 + a = a + 1 by omega] at this
        exact this.symm
      · have : a = 0 := by omega
        subst this
        rw [Nat.pow_zero, near_one]
        exact (near_exact (W := W) (k := 1) (m := false)).symm
  · by_cases ha : a = 1
    · subst ha
      refine Or.inl ⟨0, ?_, ?_, ?_, by omega⟩
      · simpa using h1
      · simpa using h2
      · rw [Nat.pow_zero, near_one, h3, Nat.pow_one]
    · refine Or.inr ⟨a - 1, by omega, ?_, ?_, ?_, by omega⟩ <;> (have e1 : W * 10 * 10 ^ (a - 1) = W * 10 ^ a := by (rw [Nat.mul_assoc, ← tenP_s, show a - 1 + 1 = a by omega])) <;> rw [e1]
      · exact h1
      · exact h2
      · exact h3
theorem RND_zeros {W : Nat} {u : Int} {d : Nat} {e : Int} (j : Nat) (h : RND W false u d e) : RND (W * 10 ^ j) false (u - j) d e := by
  induction j with
  | zero => simpa using h
  | succ j ih =>
    have := RND_ten ih
    rw [tenP_s, Nat.mul_comm 10, ← Nat.mul_assoc, show u - ((j + 1 : Nat) : Int) = u - j - 1 by omega]
    exact this
/-- from the exact number's rounding to that of the number cut -/
theorem RND_cut' {W' j : Nat} {m m' : Bool} {u u' : Int} {d d' : Nat} {e e' : Int} (h : RND (W' / 10 ^ j) m u d e) (h' : RND W' m' u' d' e') (hm : m = true ↔ (m' = true ∨ W' % 10 ^ j ≠ 0)) (hW : 10 ^ 12 ≤ W' / 10 ^ j) (hu : u = u' + j) : d = d' ∧ e = e' :=
  RND_fun (RND_cut h hm hW hu) h'
/-- a rounded number has 12 digits, or is 10^12 -/
theorem RND_rng {W : Nat} {m : Bool} {u : Int} {d : Nat} {e : Int} (h : RND W m u d e) : 10 ^ 11 ≤ d ∧ d ≤ 10 ^ 12 := by
  rcases h with ⟨a, h1, h2, h3, h4⟩ | ⟨a, h0, h1, h2, h3, h4⟩
  · have l1 : 10 ^ 11 ≤ W / 10 ^ a := (Nat.le_div_iff_mul_le (tenP_pos a)).mpr (by rw [← Nat.pow_add]; exact h1)
    have l2 : W / 10 ^ a < 10 ^ 12 := (Nat.div_lt_iff_lt_mul (tenP_pos a)).mpr (by rw [← Nat.pow_add]; exact h2)
    rw [h3]
    unfold near
    split <;> omega
  · omega
