/-! THE LINE, at the reference -/
def Prln (b j : Nat) : Prop := (b = 230 ∧ j = 20) ∨ b = 238
def rln (s : xS) (o : Nat × (Nat → Int)) : Prop := gI s 230 20 = i3 o.1 ∧ ∀ i, i < 24 → gI s 238 i = i3 (lnC o i)
theorem rshow {s : xS} {o : Nat × (Nat → Int)} {c : Int} (ho : o.1 < 20) (h : rln s o) : tm_show_ok s (i3 c) ∧ fr Prln s (tm_show s (i3 c)) ∧ rln (tm_show s (i3 c)) (pu o c) := by
  rw [tm_show_eq]
  unfold tm_show_ok tm_show_d
  have e2 : gI s 230 20 + 1 = i3 (o.1 + 1 : Nat) := by rw [h.1, i3_lit, i3_add]; rfl
  have e3 : (gI s 230 20).toNatClampNeg = o.1 := by rw [h.1, i3_natN (by omega)]
  rw [e3, e2]
  refine ⟨by rw [h.1, i3_inN (by omega)]; omega, fr_sI (fr_sI (fr_refl ..) (Or.inr rfl)) (Or.inl ⟨rfl, rfl⟩), by rw [gI_sI, if_pos ⟨rfl, rfl⟩]; rfl, fun i hi => ?_⟩
  rw [gI_sI, if_neg (by omega), gI_sI]
  have hx := h.2 i hi
  unfold lnC at hx ⊢
  show _ = i3 (if 20 ≤ i then 0 else if o.1 + 1 ≤ i then 32 else if i = o.1 then c else o.2 i)
  by_cases w : i = o.1
  · rw [if_pos ⟨rfl, w⟩, if_neg (by omega), if_neg (by omega), if_pos w]
  · rw [if_neg (fun q => w q.2), hx]
    by_cases w2 : 20 ≤ i
    · rw [if_pos w2, if_pos w2]
    · rw [if_neg w2, if_neg w2]
      by_cases w3 : o.1 ≤ i
      · rw [if_pos w3, if_pos (by omega)]
      · rw [if_neg w3, if_neg (by omega), if_neg w]
theorem rten_4 {s : xS} {c : Nat} (hc : c ≤ 18) : ∀ (n i : Nat), i ≤ c → c + 1 ≤ n + i → tm_ten_4_ok n s (i3 c) (j6 (10 ^ i : Nat)) (i3 i) ∧ tm_ten_4 n s (i3 c) (j6 (10 ^ i : Nat)) (i3 i) = j6 (10 ^ c : Nat) := by
  intro n
  induction n with
  | zero => intro i k1 k2; omega
  | succ n ih =>
    intro i k1 k2
    unfold tm_ten_4 tm_ten_4_ok
    have c1 : (i3 c ≤ i3 i) = (c ≤ i) := i3_leN (by omega) (by omega)
    have e1 : i3 i + 1 = i3 (i + 1 : Nat) := by rw [i3_lit, i3_add]; rfl
    have e2 : (10 : Int64) * j6 (10 ^ i : Nat) = j6 (10 ^ (i + 1) : Nat) := by rw [j6_lit, j6_mul]; exact congrArg j6 (by rw [tenP_s]; exact (Int.natCast_mul 10 (10 ^ i)).symm)
    simp only [c1]
    rw [e1, e2]
    by_cases g : c ≤ i
    · rw [if_pos g, show i = c by omega]
      exact ⟨fun q => absurd (Nat.le_refl c) q, rfl⟩
    · rw [if_neg g]
      obtain ⟨p1, p2⟩ := ih (i + 1) (by omega) (by omega)
      exact ⟨fun _ => p1, p2⟩
theorem rten {s : xS} {c : Nat} (hc : c ≤ 18) : tm_ten_ok s (i3 c) ∧ tm_ten s (i3 c) = j6 (10 ^ c : Nat) := by
  unfold tm_ten_ok tm_ten
  exact rten_4 hc xfu 0 (Nat.zero_le _) (by rw [xfu_eq]; omega)
theorem mod_j6 {W q : Nat} (hW : W < 9223372036854775808) (hq : 0 < q) (hq' : q < 9223372036854775808) : j6 W / j6 q = j6 (W / q : Nat) ∧ j6 W - j6 W / j6 q * j6 q = j6 (W % q : Nat) := by
  have e1 : j6 W / j6 q = j6 (W / q : Nat) := by rw [j6_quo (by omega)]; exact congrArg j6 (Int.natCast_ediv ..).symm
  refine ⟨e1, ?_⟩
  rw [e1, j6_mul, j6_sub]
  refine congrArg j6 ?_
  have := Nat.div_add_mod W q
  have h2 : ((W / q : Nat) : Int) * (q : Int) = ((q * (W / q) : Nat) : Int) := by rw [Int.mul_comm, Int.natCast_mul]
  rw [h2]
  omega
theorem rfig_29 {W c : Nat} (hW : W < 9223372036854775808) (hc : c ≤ 19) : ∀ (n i : Nat) (s : xS) (o : Nat × (Nat → Int)), i ≤ c → c + 1 ≤ n + i → o.1 + (c - i) ≤ 20 → rln s o → tm_showFigures_29_ok n s (j6 W) (i3 c) (j6 (10 ^ (c - 1 - i) : Nat)) (i3 i) ∧ fr Prln s (tm_showFigures_29 n s (j6 W) (i3 c) (j6 (10 ^ (c - 1 - i) : Nat)) (i3 i)) ∧ rln (tm_showFigures_29 n s (j6 W) (i3 c) (j6 (10 ^ (c - 1 - i) : Nat)) (i3 i)) (aDg W (c - i) o) := by
  intro n
  induction n with
  | zero => intro i s o k1 k2; omega
  | succ n ih =>
    intro i s o k1 k2 k3 h
    unfold tm_showFigures_29 tm_showFigures_29_ok
    have c1 : (i3 c ≤ i3 i) = (c ≤ i) := i3_leN (by omega) (by omega)
    have e1 : i3 i + 1 = i3 (i + 1 : Nat) := by rw [i3_lit, i3_add]; rfl
    simp only [c1]
    rw [e1]
    by_cases g : c ≤ i
    · rw [if_pos g, show c - i = 0 by omega]
      exact ⟨fun q => absurd g q, fr_refl .., h⟩
    · rw [if_neg g]
      obtain ⟨m, hm⟩ : ∃ m, c - i = m + 1 := ⟨c - i - 1, by omega⟩
      have hm2 : c - 1 - i = m := by omega
      have hm3 : c - 1 - (i + 1) = m - 1 := by omega
      have hm4 : c - (i + 1) = m := by omega
      rw [hm2, hm]
      unfold aDg
      have hp0 := tenP_pos m
      have hp : 10 ^ m ≤ 10 ^ 18 := tenP (by omega)
      have q1 := (mod_j6 hW hp0 (by omega)).1
      have hle : W / 10 ^ m ≤ W := Nat.div_le_self ..
      have q2 := (mod_j6 (W := W / 10 ^ m) (q := 10) (by omega) (by omega) (by omega)).2
      have q2' : j6 (W / 10 ^ m : Nat) - j6 (W / 10 ^ m : Nat) / 10 * 10 = j6 (W / 10 ^ m % 10 : Nat) := q2
      have e3 : (48 : Int32) + (j6 W / j6 (10 ^ m : Nat) - j6 W / j6 (10 ^ m : Nat) / 10 * 10).toInt32 = i3 ((48 + W / 10 ^ m % 10 : Nat) : Int) := by
        rw [q1, q2', j6_int, i3_lit, i3_add]; exact congrArg i3 (by omega)
      rw [e3]
      obtain ⟨y1, y2, y3⟩ := rshow (c := ((48 + W / 10 ^ m % 10 : Nat) : Int)) (by omega) h
      have nz : ¬ j6 (10 ^ m : Nat) = 0 := by rw [j6_lit, j6_eq (by omega)]; omega
      obtain ⟨p1, p2, p3⟩ := ih (i + 1) _ _ (by omega) (by omega) (by show o.1 + 1 + (c - (i + 1)) ≤ 20; omega) y3
      rw [hm3] at p1 p2 p3
      rw [hm4] at p3
      have c2 : (j6 (10 ^ m : Nat) ≤ 1) = (m = 0) := by
        rw [j6_lit, j6_le (by omega)]; apply propext
        constructor
        · intro q
          by_cases w : m = 0
          · exact w
          · have : 10 ^ 1 ≤ 10 ^ m := tenP (by omega)
            omega
        · intro q; rw [q]; decide
      simp only [c2]
      by_cases g0 : m = 0
      · rw [if_pos g0]
        have ez : j6 (10 ^ (m - 1) : Nat) = 1 := by rw [g0]; rfl
        rw [ez] at p1 p2 p3
        exact ⟨fun _ => ⟨nz, y1, fun _ => p1, fun q => absurd g0 q⟩, fr_trans y2 p2, p3⟩
      · rw [if_neg g0]
        have ez : j6 (10 ^ m : Nat) / 10 = j6 (10 ^ (m - 1) : Nat) := by
          have := (mod_j6 (W := 10 ^ m) (q := 10) (by omega) (by omega) (by omega)).1
          have e : (10 : Int64) = j6 (10 : Nat) := rfl
          rw [e, this]
          refine congrArg j6 (congrArg Int.ofNat ?_)
          obtain ⟨k, rfl⟩ : ∃ k, m = k + 1 := ⟨m - 1, by omega⟩
          rw [tenP_s, Nat.mul_div_cancel_left _ (by omega)]; rfl
        rw [ez]
        exact ⟨fun _ => ⟨nz, y1, fun q => absurd q g0, fun _ => p1⟩, fr_trans y2 p2, p3⟩
theorem rfig_6 {W c : Nat} (hW : W < 9223372036854775808) (hc : c ≤ 19) {s : xS} {o : Nat × (Nat → Int)} (ho : o.1 + c ≤ 20) (h : rln s o) : ∀ (n i : Nat), 1 ≤ i → (i ≤ c ∨ (c = 0 ∧ i = 1)) → c + 2 ≤ n + i → tm_showFigures_6_ok n s (j6 W) (i3 c) (j6 (10 ^ (i - 1) : Nat)) (i3 i) ∧ fr Prln s (tm_showFigures_6 n s (j6 W) (i3 c) (j6 (10 ^ (i - 1) : Nat)) (i3 i)) ∧ rln (tm_showFigures_6 n s (j6 W) (i3 c) (j6 (10 ^ (i - 1) : Nat)) (i3 i)) (aDg W c o) := by
  intro n
  induction n with
  | zero => intro i k1 k2 k3; omega
  | succ n ih =>
    intro i k1 k2 k3
    unfold tm_showFigures_6 tm_showFigures_6_ok
    have c1 : (i3 c ≤ i3 i) = (c ≤ i) := i3_leN (by omega) (by omega)
    have e1 : i3 i + 1 = i3 (i + 1 : Nat) := by rw [i3_lit, i3_add]; rfl
    have e2 : (10 : Int64) * j6 (10 ^ (i - 1) : Nat) = j6 (10 ^ (i + 1 - 1) : Nat) := by
      rw [j6_lit, j6_mul]; refine congrArg j6 ?_
      obtain ⟨k, rfl⟩ : ∃ k, i = k + 1 := ⟨i - 1, by omega⟩
      show (10 : Int) * ((10 ^ k : Nat) : Int) = ((10 ^ (k + 1) : Nat) : Int)
      rw [tenP_s]; exact (Int.natCast_mul 10 (10 ^ k)).symm
    simp only [c1]
    rw [e1, e2]
    by_cases g : c ≤ i
    · rw [if_pos g]
      obtain ⟨p1, p2, p3⟩ := rfig_29 hW hc xfu 0 s o (Nat.zero_le _) (by rw [xfu_eq]; omega) (by omega) h
      have hci : c - 1 - 0 = i - 1 := by omega
      rw [hci] at p1 p2 p3
      exact ⟨⟨fun _ => p1, fun q => absurd g q⟩, p2, p3⟩
    · rw [if_neg g]
      obtain ⟨p1, p2⟩ := ih (i + 1) (by omega) (by omega) (by omega)
      exact ⟨⟨fun q => absurd q g, fun _ => p1⟩, p2⟩
theorem rfgs {W c : Nat} (hW : W < 9223372036854775808) (hc : c ≤ 19) {s : xS} {o : Nat × (Nat → Int)} (ho : o.1 + c ≤ 20) (h : rln s o) : tm_showFigures_ok s (j6 W) (i3 c) ∧ fr Prln s (tm_showFigures s (j6 W) (i3 c)) ∧ rln (tm_showFigures s (j6 W) (i3 c)) (aDg W c o) := by
  rw [tm_showFigures_eq]
  unfold tm_showFigures_ok tm_showFigures_d
  exact rfig_6 hW hc ho h xfu 1 (Nat.le_refl _) (by omega) (by rw [xfu_eq]; omega)
theorem rcut {s : xS} {W c : Nat} (hW : W < 10 ^ 12) : tm_cut_ok s (j6 W) (i3 c) ∧ (c ≤ 1000 → tm_cut s (j6 W) (i3 c) = j6 ((if c ≤ 12 then near W (10 ^ c) false else 0) : Nat)) ∨ 1000 < c := by
  by_cases h100 : 1000 < c
  · exact Or.inr h100
  left
  unfold tm_cut_ok tm_cut
  have c1 : (i3 c ≤ 13) = (c ≤ 13) := by rw [i3_lit, i3_le (by omega)]; apply propext; omega
  simp only [c1]
  by_cases g : c ≤ 13
  · rw [if_pos g]
    obtain ⟨t1, t2⟩ := rten (s := s) (c := c) (by omega)
    rw [t2]
    have hp0 := tenP_pos c
    have hp : 10 ^ c ≤ 10 ^ 13 := tenP g
    have nz : ¬ j6 (10 ^ c : Nat) = 0 := by rw [j6_lit, j6_eq (by omega)]; omega
    refine ⟨fun _ => ⟨t1, nz, nz⟩, fun _ => ?_⟩
    obtain ⟨m1, m2⟩ := mod_j6 (W := W) (q := 10 ^ c) (by omega) hp0 (by omega)
    rw [m2, m1]
    have hr : W % 10 ^ c < 10 ^ c := Nat.mod_lt _ hp0
    have hq : W / 10 ^ c ≤ W := Nat.div_le_self ..
    have e2 : (2 : Int64) * j6 (W % 10 ^ c : Nat) = j6 (2 * (W % 10 ^ c) : Nat) := by rw [j6_lit, j6_mul]; exact congrArg j6 (by omega)
    have e3 : j6 (W / 10 ^ c : Nat) + 1 = j6 (W / 10 ^ c + 1 : Nat) := by rw [j6_lit, j6_add]; rfl
    have m3 := (mod_j6 (W := W / 10 ^ c) (q := 2) (by omega) (by omega) (by omega)).2
    have m3' : j6 (W / 10 ^ c : Nat) - j6 (W / 10 ^ c : Nat) / 2 * 2 = j6 (W / 10 ^ c % 2 : Nat) := m3
    have c2 : (j6 (10 ^ c : Nat) < j6 (2 * (W % 10 ^ c) : Nat)) = (10 ^ c < 2 * (W % 10 ^ c)) := j6_ltN (by omega) (by omega)
    have c3 : (j6 (2 * (W % 10 ^ c) : Nat) = j6 (10 ^ c : Nat)) = (2 * (W % 10 ^ c) = 10 ^ c) := j6_eqN (by omega) (by omega)
    have c4 : (j6 (W / 10 ^ c % 2 : Nat) = 1) = (W / 10 ^ c % 2 = 1) := by rw [j6_lit, j6_eq (by omega)]; apply propext; omega
    rw [e2, e3, m3']
    simp only [c2, c3, c4]
    have hn : (if 10 ^ c < 2 * (W % 10 ^ c) then j6 (W / 10 ^ c + 1 : Nat) else if ¬ 2 * (W % 10 ^ c) = 10 ^ c then j6 (W / 10 ^ c : Nat) else if W / 10 ^ c % 2 = 1 then j6 (W / 10 ^ c + 1 : Nat) else j6 (W / 10 ^ c : Nat)) = j6 (near W (10 ^ c) false : Nat) := by
      unfold near
      by_cases w1 : 10 ^ c < 2 * (W % 10 ^ c)
      · rw [if_pos w1, if_pos (Or.inl w1)]
      · rw [if_neg w1]
        by_cases w2 : 2 * (W % 10 ^ c) = 10 ^ c
        · rw [if_neg (show ¬ ¬ _ from fun q => q w2)]
          by_cases w3 : W / 10 ^ c % 2 = 1
          · rw [if_pos w3, if_pos (Or.inr ⟨w2, Or.inr w3⟩)]
          · rw [if_neg w3, if_neg (fun q => by rcases q with q | ⟨_, q | q⟩; exact w1 q; cases q; exact w3 q)]
        · rw [if_pos (show ¬ _ from w2), if_neg (fun q => by rcases q with q | q; exact w1 q; exact w2 q.1)]
    rw [hn]
    by_cases g12 : c ≤ 12
    · rw [if_pos g12]
    · rw [if_neg g12]
      have hc13 : c = 13 := by omega
      subst hc13
      have hz : near W (10 ^ 13) false = 0 := by
        unfold near
        have h1 : W / 10 ^ 13 = 0 := Nat.div_eq_of_lt (by omega)
        have h2 : W % 10 ^ 13 = W := Nat.mod_eq_of_lt (by omega)
        rw [h1, h2, if_neg (by rintro (q | ⟨_, q | q⟩); omega; cases q; omega)]
      rw [hz]
  · rw [if_neg g, if_neg (show ¬ c ≤ 12 by omega)]
    exact ⟨fun q => absurd q g, fun _ => rfl⟩
