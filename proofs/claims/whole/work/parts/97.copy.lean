/-! COPIES OF A DESK -/
/-- the reference's block i becomes its block f -/
def Pb (i b j : Nat) : Prop := (b = 231 ∧ 80 * i ≤ j ∧ j < 80 * i + 80) ∨ (b = 232 ∧ 24 * i ≤ j ∧ j < 24 * i + 24)
theorem rcopy_38 {f i : Nat} (hf : f < 8) (hi : i < 8) (hfi : f ≠ i) : ∀ (n k : Nat) (s : xS), k ≤ 24 → 25 ≤ n + k → tm_copy_38_ok n s (i3 f) (i3 i) (i3 k) ∧ fr (fun b j => b = 232 ∧ 24 * i + k ≤ j ∧ j < 24 * i + 24) s (tm_copy_38 n s (i3 f) (i3 i) (i3 k)) ∧ (∀ j, k ≤ j → j < 24 → gJ (tm_copy_38 n s (i3 f) (i3 i) (i3 k)) 232 (24 * i + j) = gJ s 232 (24 * f + j)) := by
  intro n
  induction n with
  | zero => intro k s h1 h2; omega
  | succ n ih =>
    intro k s h1 h2
    unfold tm_copy_38 tm_copy_38_ok
    have c1 : ((24 : Int32) ≤ i3 k) = (24 ≤ k) := by rw [i3_lit, i3_le (by omega)]; apply propext; omega
    have e1 : i3 k + 1 = i3 (k + 1 : Nat) := by rw [i3_lit, i3_add]; rfl
    have e2 : (24 : Int32) * i3 f + i3 k = i3 (24 * f + k : Nat) := by rw [i3_lit, i3_mul, i3_add]; rfl
    have e3 : (24 : Int32) * i3 i + i3 k = i3 (24 * i + k : Nat) := by rw [i3_lit, i3_mul, i3_add]; rfl
    simp only [c1, e1, e2, e3, i3_natN (show 24 * f + k < 2147483648 by omega), i3_natN (show 24 * i + k < 2147483648 by omega)]
    by_cases g : 24 ≤ k
    · rw [if_pos g]
      exact ⟨fun q => absurd g q, fr_refl .., fun j h3 h4 => by omega⟩
    · rw [if_neg g]
      obtain ⟨p1, p2, p3⟩ := ih (k + 1) (sJ s 232 (24 * i + k) (gJ s 232 (24 * f + k))) (by omega) (by omega)
      refine ⟨fun _ => ⟨by rw [i3_inN (by omega)]; omega, by rw [i3_inN (by omega)]; omega, p1⟩, fr_trans (fr_sJ (fr_refl ..) ⟨rfl, by omega⟩) (fr_mono p2 (fun b j q => by omega)), fun j h3 h4 => ?_⟩
      by_cases w : j = k
      · subst w
        rw [(p2.1 232 (24 * i + j) (by omega)).2, gJ_sJ, if_pos ⟨rfl, rfl⟩]
      · rw [p3 j (by omega) h4, gJ_sJ, if_neg (by omega)]
theorem rcopy_2 {f i : Nat} (hf : f < 8) (hi : i < 8) (hfi : f ≠ i) : ∀ (n k : Nat) (s : xS), k ≤ 80 → 81 ≤ n + k → tm_copy_2_ok n s (i3 f) (i3 i) (i3 k) ∧ fr (fun b j => (b = 231 ∧ 80 * i + k ≤ j ∧ j < 80 * i + 80) ∨ (b = 232 ∧ 24 * i ≤ j ∧ j < 24 * i + 24)) s (tm_copy_2 n s (i3 f) (i3 i) (i3 k)) ∧ (∀ j, k ≤ j → j < 80 → gI (tm_copy_2 n s (i3 f) (i3 i) (i3 k)) 231 (80 * i + j) = gI s 231 (80 * f + j)) ∧ (∀ j, j < 24 → gJ (tm_copy_2 n s (i3 f) (i3 i) (i3 k)) 232 (24 * i + j) = gJ s 232 (24 * f + j)) := by
  intro n
  induction n with
  | zero => intro k s h1 h2; omega
  | succ n ih =>
    intro k s h1 h2
    unfold tm_copy_2 tm_copy_2_ok
    have c1 : ((80 : Int32) ≤ i3 k) = (80 ≤ k) := by rw [i3_lit, i3_le (by omega)]; apply propext; omega
    have e1 : i3 k + 1 = i3 (k + 1 : Nat) := by rw [i3_lit, i3_add]; rfl
    have e2 : (80 : Int32) * i3 f + i3 k = i3 (80 * f + k : Nat) := by rw [i3_lit, i3_mul, i3_add]; rfl
    have e3 : (80 : Int32) * i3 i + i3 k = i3 (80 * i + k : Nat) := by rw [i3_lit, i3_mul, i3_add]; rfl
    simp only [c1, e1, e2, e3, i3_natN (show 80 * f + k < 2147483648 by omega), i3_natN (show 80 * i + k < 2147483648 by omega)]
    by_cases g : 80 ≤ k
    · rw [if_pos g]
      obtain ⟨p1, p2, p3⟩ := rcopy_38 hf hi hfi xfu 0 s (by omega) (by rw [xfu_eq]; omega)
      exact ⟨⟨fun _ => p1, fun q => absurd g q⟩, fr_mono p2 (fun b j q => by omega), fun j h3 h4 => by omega, fun j hj => p3 j (by omega) hj⟩
    · rw [if_neg g]
      obtain ⟨p1, p2, p3, p4⟩ := ih (k + 1) (sI s 231 (80 * i + k) (gI s 231 (80 * f + k))) (by omega) (by omega)
      refine ⟨⟨fun q => absurd q g, fun _ => ⟨by rw [i3_inN (by omega)]; omega, by rw [i3_inN (by omega)]; omega, p1⟩⟩, fr_trans (fr_sI (fr_refl ..) (Or.inl ⟨rfl, by omega⟩)) (fr_mono p2 (fun b j q => by omega)), fun j h3 h4 => ?_, fun j hj => by rw [p4 j hj, gJ_sI]⟩
      by_cases w : j = k
      · subst w
        rw [(p2.1 231 (80 * i + j) (by omega)).1, gI_sI, if_pos ⟨rfl, rfl⟩]
      · rw [p3 j (by omega) h4, gI_sI, if_neg (by omega)]
theorem rcopy (s : xS) {f i : Nat} (hf : f < 8) (hi : i < 8) (hfi : f ≠ i) : tm_copy_ok s (i3 f) (i3 i) ∧ fr (Pb i) s (tm_copy s (i3 f) (i3 i)) ∧ ∀ D, vD D → rD s f D → rD (tm_copy s (i3 f) (i3 i)) i D := by
  rw [tm_copy_eq]
  unfold tm_copy_ok tm_copy_d
  obtain ⟨p1, p2, p3, p4⟩ := rcopy_2 hf hi hfi xfu 0 s (by omega) (by rw [xfu_eq]; omega)
  have e0 : i3 ((0 : Nat) : Int) = 0 := rfl
  rw [e0] at p1 p2 p3 p4
  generalize tm_copy_2 xfu s (i3 f) (i3 i) 0 = t at *
  refine ⟨p1, fr_mono p2 (fun b j q => by unfold Pb; omega), fun D hv h => ?_⟩
  have h8 := hv.2.2.2.1
  have q3 : ∀ j, j < 80 → gI t 231 (80 * i + j) = gI s 231 (80 * f + j) := fun j hj => p3 j (by omega) hj
  have n3 : ∀ k n, k < 23 → rN s f k n → rN t i k n := by
    intro k n hk hn
    refine ⟨(q3 k (by omega)).trans hn.1, (p4 k (by omega)).trans hn.2.1, ?_⟩
    have := q3 (23 + k) (by omega)
    rw [show 80 * i + 23 + k = 80 * i + (23 + k) by omega, this, show 80 * f + (23 + k) = 80 * f + 23 + k by omega]
    exact hn.2.2
  obtain ⟨h1, h2, h3, ⟨h4, h4'⟩, h5, h6, h7⟩ := h
  refine ⟨fun j hj => n3 j _ (by omega) (h1 j hj), fun j hj h40 => n3 (15 + j) _ (by omega) (h2 j hj h40), fun j hj => ?_, ⟨(q3 54 (by omega)).trans h4, (q3 55 (by omega)).trans h4'⟩, (q3 56 (by omega)).trans h5, (q3 57 (by omega)).trans h6, fun q => ?_⟩
  · have := q3 (46 + j) (by omega)
    rw [show 80 * i + 46 + j = 80 * i + (46 + j) by omega, this, show 80 * f + (46 + j) = 80 * f + 46 + j by omega]
    exact h3 j hj
  · obtain ⟨e1, e2, e3, e4, e5⟩ := h7 q
    have hn := vE_n (hv.2.2.2.2.2 q)
    refine ⟨(q3 58 (by omega)).trans e1, (q3 59 (by omega)).trans e2, fun k hk => ?_, (q3 73 (by omega)).trans e4, fun w => ?_⟩
    · have := q3 (60 + k) (by omega)
      rw [show 80 * i + 60 + k = 80 * i + (60 + k) by omega, this, show 80 * f + (60 + k) = 80 * f + 60 + k by omega]
      exact e3 k hk
    · obtain ⟨y1, y2, y3⟩ := e5 w
      refine ⟨(q3 74 (by omega)).trans y1, (q3 75 (by omega)).trans y2, fun k hk => ?_⟩
      have := q3 (76 + k) (by omega)
      rw [show 80 * i + 76 + k = 80 * i + (76 + k) by omega, this, show 80 * f + (76 + k) = 80 * f + 76 + k by omega]
      exact y3 k hk
/-! the class's -/
/-- a desk's arrays: where its numbers lie -/
def xDn (B : Nat) : Prop := xDk B ∧ (∀ i, i < 15 → xR0 (B + 1) i - 1 = B + 6 + i ∧ xRok (B + 1) i 5) ∧ (∀ i, i < 8 → xR0 (B + 2) i - 1 = B + 21 + i ∧ xRok (B + 2) i 5) ∧ (xK0 (B + 1)).2 = 15 ∧ (xK0 (B + 2)).2 = 8 ∧ (xK0 (B + 4)).2 = 8
theorem c15 {i : Nat} (hi : i < 15) : i = 0 ∨ i = 1 ∨ i = 2 ∨ i = 3 ∨ i = 4 ∨ i = 5 ∨ i = 6 ∨ i = 7 ∨ i = 8 ∨ i = 9 ∨ i = 10 ∨ i = 11 ∨ i = 12 ∨ i = 13 ∨ i = 14 := by omega
theorem c8 {i : Nat} (hi : i < 8) : i = 0 ∨ i = 1 ∨ i = 2 ∨ i = 3 ∨ i = 4 ∨ i = 5 ∨ i = 6 ∨ i = 7 := by omega
theorem xDn_all {B : Nat} (h : B = 2 ∨ B = 49 ∨ B = 78 ∨ B = 107 ∨ B = 136 ∨ B = 165 ∨ B = 194) : xDn B := by
  rcases h with h | h | h | h | h | h | h <;> subst h <;> refine ⟨⟨rfl, rfl, rfl, rfl, rfl, rfl, rfl, rfl, rfl, rfl⟩, fun i hi => ?_, fun i hi => ?_, rfl, rfl, rfl⟩
  all_goals first
    | (rcases c15 hi with w | w | w | w | w | w | w | w | w | w | w | w | w | w | w <;> subst w <;> exact ⟨rfl, rfl, rfl⟩)
    | (rcases c8 hi with w | w | w | w | w | w | w | w <;> subst w <;> exact ⟨rfl, rfl, rfl⟩)
theorem cset_18 {B C : Nat} {m : Nat} {T : Nat → Int} (hB8 : (xK0 (B + 4)).2 = 8) (hC8 : (xK0 (C + 4)).2 = 8) (hBC : B + 28 < C ∨ C + 28 < B) (hm : m ≤ 8) : ∀ (n k : Nat) (s : xS), k ≤ m → m + 1 ≤ n + k → gI s (B + 3) 1 = i3 m → (∀ i, i < m → gI s (C + 4) i = i3 (T i)) → (∀ i, i < k → gI s (B + 4) i = i3 (T i)) → ro_set_18_ok n s (B + 3) (C + 3) (B + 4) (C + 4) (i3 k) ∧ fr (fun b _ => b = B + 4) s (ro_set_18 n s (B + 3) (C + 3) (B + 4) (C + 4) (i3 k)) ∧ (∀ i, i < m → gI (ro_set_18 n s (B + 3) (C + 3) (B + 4) (C + 4) (i3 k)) (B + 4) i = i3 (T i)) := by
  intro n
  induction n with
  | zero => intro k s h1 h2; omega
  | succ n ih =>
    intro k s h1 h2 h3 h4 h5
    unfold ro_set_18 ro_set_18_ok
    have c1 : (gI s (B + 3) 1 ≤ i3 k) = (m ≤ k) := by rw [h3]; exact i3_leN (by omega) (by omega)
    have e1 : i3 k + 1 = i3 (k + 1 : Nat) := by rw [i3_lit, i3_add]; rfl
    simp only [c1, e1, i3_natN (show k < 2147483648 by omega), hB8, hC8]
    by_cases g : m ≤ k
    · rw [if_pos g]
      exact ⟨fun q => absurd g q, fr_refl .., fun i hi => h5 i (by omega)⟩
    · rw [if_neg g, h4 k (by omega)]
      obtain ⟨p1, p2, p3⟩ := ih (k + 1) (sI s (B + 4) k (i3 (T k))) (by omega) (by omega) (by rw [gI_sI, if_neg (by omega)]; exact h3) (fun i hi => by rw [gI_sI, if_neg (by omega)]; exact h4 i hi) (fun i hi => by
        rw [gI_sI]
        by_cases w : i = k
        · rw [if_pos ⟨rfl, w⟩, w]
        · rw [if_neg (fun q => w q.2)]; exact h5 i (by omega))
      exact ⟨fun _ => ⟨by rw [i3_inN (by omega)]; omega, by rw [i3_inN (by omega)]; omega, p1⟩, fr_trans (fr_sI (fr_refl ..) rfl) p2, p3⟩
def Pd (B b _ : Nat) : Prop := B ≤ b ∧ b ≤ B + 28
theorem cset_31 {B C : Nat} {D : aD} (hB : xDn B) (hC : xDn C) (hBC : B + 28 < C ∨ C + 28 < B) (hv : vD D) : ∀ (n k : Nat) (s : xS), k ≤ dS D → dS D + 1 ≤ n + k → cD s C D → (∀ i, i < 15 → cN s (B + 6 + i) (dN D i)) → (∀ i, i < k → dT D i ≠ 40 → cN s (B + 21 + i) (dN D (15 + i))) → dk_set_31_ok n s B C (i3 k) ∧ fr (Pd B) s (dk_set_31 n s B C (i3 k)) ∧ cD (dk_set_31 n s B C (i3 k)) B D := by
  have h8 := hv.2.2.2.1
  obtain ⟨hB0, hB1, hB2, hB3, hB4, hB5⟩ := hB
  obtain ⟨hC0, hC1, hC2, hC3, hC4, hC5⟩ := hC
  intro n
  induction n with
  | zero => intro k s h1 h2; omega
  | succ n ih =>
    intro k s h1 h2 h3 h4 h5
    unfold dk_set_31 dk_set_31_ok
    have eS : gI s (C + 3) 1 = i3 (dS D) := h3.2.2.2.1.1
    have c1 : (gI s (C + 3) 1 ≤ i3 k) = (dS D ≤ k) := by rw [eS]; exact i3_leN (by omega) (by omega)
    have e1 : i3 k + 1 = i3 (k + 1 : Nat) := by rw [i3_lit, i3_add]; rfl
    simp only [c1, e1, i3_natN (show k < 2147483648 by omega), hB4, hC4]
    by_cases g : dS D ≤ k
    · rw [if_pos g]
      obtain ⟨d1, d2, d3, ⟨d4, d4'⟩, d5, d6, d6', d7⟩ := h3
      -- the row
      have hr : ro_set_ok s (B + 3) (C + 3) (B + 4) (C + 4) ∧ fr (fun b _ => b = B + 3 ∨ b = B + 4) s (ro_set s (B + 3) (C + 3) (B + 4) (C + 4)) ∧ gI (ro_set s (B + 3) (C + 3) (B + 4) (C + 4)) (B + 3) 1 = i3 (dS D) ∧ gI (ro_set s (B + 3) (C + 3) (B + 4) (C + 4)) (B + 3) 2 = i3 (dP D) ∧ (∀ i, i < dS D → gI (ro_set s (B + 3) (C + 3) (B + 4) (C + 4)) (B + 4) i = i3 (dT D i)) := by
        rw [ro_set_eq]
        unfold ro_set_ok ro_set_d
        have e2 : gI (sI s (B + 3) 1 (gI s (C + 3) 1)) (C + 3) 2 = i3 (dP D) := by rw [gI_sI, if_neg (by omega)]; exact d4'
        rw [e2, eS]
        obtain ⟨p1, p2, p3⟩ := cset_18 (B := B) (C := C) (T := dT D) hB5 hC5 hBC h8 xfu 0 (sI (sI s (B + 3) 1 (i3 (dS D))) (B + 3) 2 (i3 (dP D))) (by omega) (by rw [xfu_eq]; omega) (by rw [gI_sI, if_neg (by omega), gI_sI, if_pos ⟨rfl, rfl⟩]) (fun i hi => by rw [gI_sI, if_neg (by omega), gI_sI, if_neg (by omega)]; exact d3 i hi) (fun i hi => by omega)
        have e0 : i3 ((0 : Nat) : Int) = 0 := rfl
        rw [e0] at p1 p2 p3
        refine ⟨p1, fr_trans (fr_sI (fr_sI (fr_refl ..) (Or.inl rfl)) (Or.inl rfl)) (fr_mono p2 (fun b j q => Or.inr q)), ?_, ?_, p3⟩
        · rw [(p2.1 _ _ (by omega)).1, gI_sI, if_neg (by omega), gI_sI, if_pos ⟨rfl, rfl⟩]
        · rw [(p2.1 _ _ (by omega)).1, gI_sI, if_pos ⟨rfl, rfl⟩]
      obtain ⟨r1, r2, r3, r4, r5⟩ := hr
      generalize ro_set s (B + 3) (C + 3) (B + 4) (C + 4) = t at *
      have bt : bo t (C + 5) := bo_fr r2 (fun j _ => by omega) d6'
      have ot : gI t (C + 5) 0 = zb (dOn D) := (r2.1 _ _ (by omega)).1.trans d6
      obtain ⟨s1, s2, s3, s4⟩ := cset t (a := B + 5) (b := C + 5) (by omega) ot bt
      generalize en_set t (B + 5) (C + 5) = u at *
      have e9 : gI u C 9 = zb (dLi D) := ((s2.1 _ _ (by omega)).1.trans (r2.1 _ _ (by omega)).1).trans d5
      rw [e9]
      have fs : fr (Pd B) s u := fr_trans (fr_mono r2 (fun b j q => by unfold Pd; omega)) (fr_mono s2 (fun b j q => by unfold Pd; omega))
      refine ⟨⟨fun _ => ⟨r1, s1, zb01 _⟩, fun q => absurd g q⟩, fr_sI fs (by unfold Pd; omega), ?_⟩
      have f9 : fr (fun b j => b = B ∧ j = 9) u (sI u B 9 (zb (dLi D))) := fr_sI (fr_refl ..) ⟨rfl, rfl⟩
      have rt : ∀ b j, b ≠ B + 3 → b ≠ B + 4 → b ≠ B + 5 → ¬ (b = B ∧ j = 9) → gI (sI u B 9 (zb (dLi D))) b j = gI s b j ∧ gJ (sI u B 9 (zb (dLi D))) b j = gJ s b j := by
        intro b j q1 q2 q3 q4
        have w1 := f9.1 b j q4
        have w2 := s2.1 b j q3
        have w3 := r2.1 b j (by omega)
        exact ⟨(w1.1.trans w2.1).trans w3.1, (w1.2.trans w2.2).trans w3.2⟩
      have cnt : ∀ {a p}, a ≠ B + 3 → a ≠ B + 4 → a ≠ B + 5 → a ≠ B → cN s a p → cN (sI u B 9 (zb (dLi D))) a p := by
        intro a p q1 q2 q3 q4 hp
        exact ⟨((rt a 0 q1 q2 q3 (by omega)).2).trans hp.1, ((rt a 1 q1 q2 q3 (by omega)).1).trans hp.2⟩
      have hj5 : ∀ j, j ≤ 8 → j ≠ 2 → gI (sI u B 9 (zb (dLi D))) (B + 5) j = gI t (C + 5) j := fun j h1 h2 => (f9.1 _ _ (by omega)).1.trans (s3 j h1 h2)
      have hj2 : gJ (sI u B 9 (zb (dLi D))) (B + 5) 2 = gJ t (C + 5) 2 := (f9.1 _ _ (by omega)).2.trans s4
      refine ⟨fun i hi => cnt (by omega) (by omega) (by omega) (by omega) (h4 i hi), fun i hi h40 => cnt (by omega) (by omega) (by omega) (by omega) (h5 i (by omega) h40), fun i hi => ?_, ⟨?_, ?_⟩, ?_, ?_, ?_, fun q => ?_⟩
      · rw [(f9.1 _ _ (by omega)).1, (s2.1 _ _ (by omega)).1]; exact r5 i hi
      · rw [(f9.1 _ _ (by omega)).1, (s2.1 _ _ (by omega)).1]; exact r3
      · rw [(f9.1 _ _ (by omega)).1, (s2.1 _ _ (by omega)).1]; exact r4
      · rw [gI_sI, if_pos ⟨rfl, rfl⟩]
      · exact (hj5 0 (by omega) (by omega)).trans ot
      · obtain ⟨b1, b2, b3, q1, q2, q3⟩ := bt
        exact ⟨b1, b2, b3, (hj5 1 (by omega) (by omega)).trans q1, (hj5 5 (by omega) (by omega)).trans q2, (hj5 6 (by omega) (by omega)).trans q3⟩
      · exact cE_copy hj5 hj2 (cE_fr r2 (fun j _ => by omega) (d7 q))
    · rw [if_neg g]
      obtain ⟨x1, x2⟩ := hB2 k (by omega)
      obtain ⟨y1, y2⟩ := hC2 k (by omega)
      rw [x1, y1]
      have f : fr (fun b _ => b = B + 21 + k) s (de_set s (B + 21 + k) (C + 21 + k)) := by
        rw [de_set_eq]; exact fr_sI (fr_sJ (fr_refl ..) rfl) rfl
      obtain ⟨p1, p2, p3⟩ := ih (k + 1) (de_set s (B + 21 + k) (C + 21 + k)) (by omega) (by omega) (cD_fr f (fun b j _ _ => by omega) h3 h8) (fun i hi => cN_fr f (by omega) (by omega) (h4 i hi)) (fun i hi h40 => by
        by_cases w : i = k
        · subst w
          rw [de_set_put (h3.2.1 i (by omega) h40)]; exact cput1_cN ..
        · exact cN_fr f (by omega) (by omega) (h5 i (by omega) h40))
      exact ⟨⟨fun q => absurd q g, fun _ => ⟨⟨by rw [i3_inN (by omega)]; omega, x2⟩, ⟨by rw [i3_inN (by omega)]; omega, y2⟩, p1⟩⟩, fr_trans (fr_mono f (fun b j q => by unfold Pd; omega)) p2, p3⟩
theorem cset_2 {B C : Nat} {D : aD} (hB : xDn B) (hC : xDn C) (hBC : B + 28 < C ∨ C + 28 < B) (hv : vD D) : ∀ (n k : Nat) (s : xS), k ≤ 15 → 16 ≤ n + k → cD s C D → (∀ i, i < k → cN s (B + 6 + i) (dN D i)) → dk_set_2_ok n s B C (i3 k) ∧ fr (Pd B) s (dk_set_2 n s B C (i3 k)) ∧ cD (dk_set_2 n s B C (i3 k)) B D := by
  have h8 := hv.2.2.2.1
  intro n
  induction n with
  | zero => intro k s h1 h2; omega
  | succ n ih =>
    intro k s h1 h2 h3 h4
    unfold dk_set_2 dk_set_2_ok
    have c1 : ((15 : Int32) ≤ i3 k) = (15 ≤ k) := by rw [i3_lit, i3_le (by omega)]; apply propext; omega
    have e1 : i3 k + 1 = i3 (k + 1 : Nat) := by rw [i3_lit, i3_add]; rfl
    simp only [c1, e1, i3_natN (show k < 2147483648 by omega), hB.2.2.2.1, hC.2.2.2.1]
    by_cases g : 15 ≤ k
    · rw [if_pos g]
      obtain ⟨p1, p2, p3⟩ := cset_31 hB hC hBC hv xfu 0 s (by omega) (by rw [xfu_eq]; omega) h3 (fun i hi => h4 i (by omega)) (fun i hi => by omega)
      exact ⟨⟨fun _ => p1, fun q => absurd g q⟩, p2, p3⟩
    · rw [if_neg g]
      obtain ⟨x1, x2⟩ := hB.2.1 k (by omega)
      obtain ⟨y1, y2⟩ := hC.2.1 k (by omega)
      rw [x1, y1, de_set_put (h3.1 k (by omega))]
      have f := cput1_fr s (B + 6 + k) (dN D k)
      obtain ⟨p1, p2, p3⟩ := ih (k + 1) (cput1 s (B + 6 + k) (dN D k)) (by omega) (by omega) (cD_fr f (fun b j _ _ => by omega) h3 h8) (fun i hi => by
        by_cases w : i = k
        · subst w; exact cput1_cN ..
        · exact cN_put (by omega) (h4 i (by omega)))
      exact ⟨⟨fun q => absurd q g, fun _ => ⟨⟨by rw [i3_inN (by omega)]; omega, x2⟩, ⟨by rw [i3_inN (by omega)]; omega, y2⟩, p1⟩⟩, fr_trans (fr_mono f (fun b j q => by unfold Pd; omega)) p2, p3⟩
theorem ccopy {s : xS} {B C : Nat} {D : aD} (hB : xDn B) (hC : xDn C) (hBC : B + 28 < C ∨ C + 28 < B) (hv : vD D) (h : cD s C D) : dk_set_ok s B C ∧ fr (Pd B) s (dk_set s B C) ∧ cD (dk_set s B C) B D := by
  rw [dk_set_eq]
  unfold dk_set_ok dk_set_d
  exact cset_2 hB hC hBC hv xfu 0 s (by omega) (by rw [xfu_eq]; omega) h (fun i hi => by omega)
theorem Pd2_c {s t : xS} (h : fr (Pd 2) s t) : fr Pc s t := fr_mono h (fun b j q => by unfold Pd at q; unfold Pc; omega)
theorem cclear {s : xS} {D : aD} (hv : vD D) (h : cD s 2 D) : dk_clear_ok s ∧ fr Pc s (dk_clear s) ∧ cD (dk_clear s) 2 (sLi (sOn (sP (sSz (sN (sN (sN (sN (sN D 10 (0, 0)) 11 (0, 0)) 12 (0, 0)) 13 (0, 0)) 14 (0, 0)) 0) 0) false) false) := by
  rw [dk_clear_eq]
  unfold dk_clear_ok dk_clear_d
  have fin : ∀ {t : xS} {D' : aD}, fr Pc s t → cD t 2 D' → fr Pc s (sI (sI (ro_clear t 5) 7 0 0) 2 9 0) ∧ cD (sI (sI (ro_clear t 5) 7 0 0) 2 9 0) 2 (sLi (sOn (sP (sSz D' 0) 0) false) false) := by
    intro t D' ft ht
    rw [ro_clear_eq]
    unfold ro_clear_d
    refine ⟨fr_sI (fr_sI (fr_sI (fr_sI ft (by unfold Pc; omega)) (by unfold Pc; omega)) (by unfold Pc; omega)) (by unfold Pc; omega), ?_⟩
    have f : fr (fun b j => (b = 5 ∧ (j = 1 ∨ j = 2)) ∨ (b = 7 ∧ j = 0) ∨ (b = 2 ∧ j = 9)) t (sI (sI (sI (sI t 5 1 0) 5 2 0) 7 0 0) 2 9 0) := fr_sI (fr_sI (fr_sI (fr_sI (fr_refl ..) (Or.inl ⟨rfl, Or.inl rfl⟩)) (Or.inl ⟨rfl, Or.inr rfl⟩)) (Or.inr (Or.inl ⟨rfl, rfl⟩))) (Or.inr (Or.inr ⟨rfl, rfl⟩))
    obtain ⟨h1, h2, h3, ⟨h4, h4'⟩, h5, h6, ⟨b1, b2, b3, q1, q2, q3⟩, h7⟩ := ht
    exact ⟨fun i hi => cN_fr f (by omega) (by omega) (h1 i hi), fun i hi => absurd hi (Nat.not_lt_zero i), fun i hi => absurd hi (Nat.not_lt_zero i), ⟨by rw [gI_sI, if_neg (by omega), gI_sI, if_neg (by omega), gI_sI, if_neg (by omega), gI_sI, if_pos ⟨rfl, rfl⟩]; rfl, by rw [gI_sI, if_neg (by omega), gI_sI, if_neg (by omega), gI_sI, if_pos ⟨rfl, rfl⟩]; rfl⟩, by rw [gI_sI, if_pos ⟨rfl, rfl⟩]; rfl, by rw [gI_sI, if_neg (by omega), gI_sI, if_pos ⟨rfl, rfl⟩]; rfl, ⟨b1, b2, b3, (f.1 _ _ (by omega)).1.trans q1, (f.1 _ _ (by omega)).1.trans q2, (f.1 _ _ (by omega)).1.trans q3⟩, fun q => by cases q⟩
  have loop : ∀ (n i : Nat) (t : xS) (D' : aD), 10 ≤ i → i ≤ 15 → 16 ≤ n + i → fr Pc s t → cD t 2 D' → vD D' → ∃ D'', dk_clear_3_ok n t (i3 i) ∧ fr Pc s (dk_clear_3 n t (i3 i)) ∧ cD (dk_clear_3 n t (i3 i)) 2 (sLi (sOn (sP (sSz D'' 0) 0) false) false) ∧ D''.2 = D'.2 ∧ (∀ j, dN D'' j = if i ≤ j ∧ j < 15 then (0, 0) else dN D' j) := by
    intro n
    induction n with
    | zero => intro i t D' h1 h2 h3; omega
    | succ n ih =>
      intro i t D' h1 h2 h3 ft ht vt
      unfold dk_clear_3 dk_clear_3_ok
      have c1 : ((15 : Int32) ≤ i3 i) = (15 ≤ i) := by rw [i3_lit, i3_le (by omega)]; apply propext; omega
      have e1 : i3 i + 1 = i3 (i + 1 : Nat) := by rw [i3_lit, i3_add]; rfl
      simp only [c1, e1, i3_natN (show i < 2147483648 by omega)]
      by_cases g : 15 ≤ i
      · rw [if_pos g]
        obtain ⟨p1, p2⟩ := fin ft ht
        exact ⟨D', fun q => absurd g q, p1, p2, rfl, fun j => by rw [if_neg (by omega)]⟩
      · rw [if_neg g]
        obtain ⟨x1, x2⟩ := R0_3 (show i < 15 by omega)
        rw [x1, de_clear_put]
        obtain ⟨D'', p1, p2, p3, p4, p5⟩ := ih (i + 1) (cput1 t (8 + i) (0, 0)) (sN D' i (0, 0)) (by omega) (by omega) (by omega) (fr_trans ft (put_c (by omega))) (cput_num (by omega) ht vt) (vD_sN vt vN_0)
        refine ⟨D'', fun _ => ⟨⟨by rw [i3_inN (by omega)]; omega, x2⟩, p1⟩, p2, p3, p4, fun j => ?_⟩
        rw [p5 j]
        show (if i + 1 ≤ j ∧ j < 15 then (0, 0) else if j = i then (0, 0) else D'.1 j) = _
        by_cases w1 : i + 1 ≤ j ∧ j < 15
        · rw [if_pos w1, if_pos (by omega)]
        · rw [if_neg w1]
          by_cases w2 : j = i
          · rw [if_pos w2, if_pos (by omega)]
          · rw [if_neg w2, if_neg (by omega)]; rfl
  obtain ⟨D'', p1, p2, p3, p4, p5⟩ := loop xfu 10 s D (by omega) (by omega) (by rw [xfu_eq]; omega) (fr_refl ..) h hv
  refine ⟨p1, p2, ?_⟩
  have hD : D'' = sN (sN (sN (sN (sN D 10 (0, 0)) 11 (0, 0)) 12 (0, 0)) 13 (0, 0)) 14 (0, 0) := by
    refine Prod.ext (funext fun j => ?_) p4
    have := p5 j
    show D''.1 j = (if j = 14 then (0, 0) else if j = 13 then (0, 0) else if j = 12 then (0, 0) else if j = 11 then (0, 0) else if j = 10 then (0, 0) else D.1 j)
    refine Eq.trans this ?_
    by_cases w : 10 ≤ j ∧ j < 15
    · rw [if_pos w]
      have : j = 10 ∨ j = 11 ∨ j = 12 ∨ j = 13 ∨ j = 14 := by omega
      rcases this with w | w | w | w | w <;> subst w <;> rfl
    · rw [if_neg w, if_neg (by omega), if_neg (by omega), if_neg (by omega), if_neg (by omega), if_neg (by omega)]; rfl
  rw [← hD]
  exact p3
theorem cfill {s : xS} {D : aD} {a : Nat} {p : Int × Int} (ha : a < 18 ∨ 21 < a) (ha' : a ≠ 2 ∧ a ≠ 7) (hp : cN s a p) (vp : vN p) (hv : vD D) (h : cD s 2 D) : fr Pc s (dk_fill s a) ∧ cD (dk_fill s a) 2 (sOn (sLi (sN (sN (sN (sN D 10 p) 11 p) 12 p) 13 p) true) false) := by
  rw [dk_fill_eq]
  unfold dk_fill_d
  have s1 : de_set s 18 a = cput1 s (8 + 10) p := de_set_put hp
  have h1 := cput_num (p := p) (show 10 < 15 by omega) h hv
  have p1 : cN (cput1 s (8 + 10) p) a p := cN_put (by omega) hp
  have v1 := vD_sN (i := 10) hv vp
  rw [s1]
  generalize cput1 s (8 + 10) p = t1 at *
  have f1 : fr Pc s t1 := by rw [← s1, de_set_put hp]; exact put_c (by omega)
  have s2 : de_set t1 19 a = cput1 t1 (8 + 11) p := de_set_put p1
  have h2 := cput_num (p := p) (show 11 < 15 by omega) h1 v1
  have p2 : cN (cput1 t1 (8 + 11) p) a p := cN_put (by omega) p1
  have v2 := vD_sN (i := 11) v1 vp
  rw [s2]
  have f2 : fr Pc s (cput1 t1 (8 + 11) p) := fr_trans f1 (put_c (by omega))
  generalize cput1 t1 (8 + 11) p = t2 at *
  have s3 : de_set t2 20 a = cput1 t2 (8 + 12) p := de_set_put p2
  have h3 := cput_num (p := p) (show 12 < 15 by omega) h2 v2
  have p3 : cN (cput1 t2 (8 + 12) p) a p := cN_put (by omega) p2
  have v3 := vD_sN (i := 12) v2 vp
  rw [s3]
  have f3 : fr Pc s (cput1 t2 (8 + 12) p) := fr_trans f2 (put_c (by omega))
  generalize cput1 t2 (8 + 12) p = t3 at *
  have s4 : de_set t3 21 a = cput1 t3 (8 + 13) p := de_set_put p3
  have h4 := cput_num (p := p) (show 13 < 15 by omega) h3 v3
  have v4 := vD_sN (i := 13) v3 vp
  rw [s4]
  have f4 : fr Pc s (cput1 t3 (8 + 13) p) := fr_trans f3 (put_c (by omega))
  have h5 := cD_lift (b := true) h4 v4.2.2.2.1
  have h6 := cD_shut h5 v4.2.2.2.1
  exact ⟨fr_sI (fr_sI f4 (by unfold Pc; omega)) (by unfold Pc; omega), h6⟩
