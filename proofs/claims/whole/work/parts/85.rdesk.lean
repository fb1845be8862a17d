/-! THE REFERENCE'S DESK, its steps -/
def Pn (i : Nat) (b j : Nat) : Prop := (b = 231 ∧ (j = i ∨ j = 23 + i)) ∨ (b = 232 ∧ j = i)
theorem rset (s : xS) {i : Nat} {z e : Int32} {d : Int64} {p : Int × Int} (hi : i < 23) (h : rA z d e p) (vp : p.1 = 0 → p.2 = 0) : tm_set_ok s (i3 i) z d e ∧ fr (Pn i) s (tm_set s (i3 i) z d e) ∧ rN (tm_set s (i3 i) z d e) 0 i p := by
  rw [tm_set_eq]
  unfold tm_set_ok tm_set_d
  have ei : (23 : Int32) + i3 i = i3 (23 + i : Nat) := by rw [i3_lit, i3_add]; rfl
  have v1 : vp_in (i3 i) 640 := by rw [i3_inN (by omega)]; omega
  have v2 : vp_in (i3 i) 192 := by rw [i3_inN (by omega)]; omega
  have v3 : vp_in (i3 (23 + i : Nat)) 640 := by rw [i3_inN (by omega)]; omega
  obtain ⟨rfl, h2⟩ := h
  have hr := sgn_rng p.1
  simp only [ei, i3_natN (show i < 2147483648 by omega), i3_natN (show 23 + i < 2147483648 by omega), i3_sg0]
  by_cases g : p.1 = 0
  · simp only [g, if_true, not_true_eq_false, if_false, false_implies, true_implies]
    refine ⟨by first | exact ⟨v1, v2, v3⟩ | (simp only [v1, v2, v3, and_self, implies_true]), ?_, ?_⟩
    · exact fr_sI (fr_sJ (fr_sI (fr_refl ..) (Or.inl ⟨rfl, Or.inl rfl⟩)) (Or.inr ⟨rfl, rfl⟩)) (Or.inl ⟨rfl, Or.inr rfl⟩)
    · refine ⟨?_, ?_, ?_⟩
      · rw [gI_sI, if_neg (by omega), gI_sJ, gI_sI, if_pos ⟨rfl, by omega⟩, g]
      · rw [gJ_sI, gJ_sJ, if_pos ⟨rfl, by omega⟩, g]; rfl
      · rw [gI_sI, if_pos ⟨rfl, by omega⟩, vp g]; rfl
  · obtain ⟨rfl, rfl⟩ := h2 g
    simp only [g, if_true, not_false_eq_true, if_false, false_implies, true_implies]
    refine ⟨by first | exact ⟨v1, v2, v3⟩ | (simp only [v1, v2, v3, and_self, implies_true]), ?_, ?_⟩
    · exact fr_sI (fr_sJ (fr_sI (fr_refl ..) (Or.inl ⟨rfl, Or.inl rfl⟩)) (Or.inr ⟨rfl, rfl⟩)) (Or.inl ⟨rfl, Or.inr rfl⟩)
    · refine ⟨?_, ?_, ?_⟩
      · rw [gI_sI, if_neg (by omega), gI_sJ, gI_sI, if_pos ⟨rfl, by omega⟩]
      · rw [gJ_sI, gJ_sJ, if_pos ⟨rfl, by omega⟩]
      · rw [gI_sI, if_pos ⟨rfl, by omega⟩]
theorem rN_rB {s : xS} {i : Nat} {p : Int × Int} (h : rN s 0 i p) : rB (gI s 231 i) (gJ s 232 i) (gI s 231 (23 + i)) p := by
  obtain ⟨a, b, c⟩ := h
  rw [show 80 * 0 + i = i by omega] at a
  rw [show 24 * 0 + i = i by omega] at b
  rw [show 80 * 0 + 23 + i = 23 + i by omega] at c
  exact ⟨a, b, c⟩
theorem rmove (s : xS) {f i : Nat} {p : Int × Int} (hf : f < 23) (hi : i < 23) (h : rN s 0 f p) (vp : p.1 = 0 → p.2 = 0) : tm_move_ok s (i3 f) (i3 i) ∧ fr (Pn i) s (tm_move s (i3 f) (i3 i)) ∧ rN (tm_move s (i3 f) (i3 i)) 0 i p := by
  rw [tm_move_eq]
  unfold tm_move_ok tm_move_d
  have ei : (23 : Int32) + i3 f = i3 (23 + f : Nat) := by rw [i3_lit, i3_add]; rfl
  rw [ei, i3_natN (show f < 2147483648 by omega), i3_natN (show 23 + f < 2147483648 by omega)]
  obtain ⟨p1, p2, p3⟩ := rset s hi (rA_of (rN_rB h)) vp
  exact ⟨⟨by rw [i3_inN (by omega)]; omega, by rw [i3_inN (by omega)]; omega, by rw [i3_inN (by omega)]; omega, p1⟩, p2, p3⟩
/-- a number put, by whatever changes its cells alone -/
theorem rD_num {s t : xS} {i : Nat} {D : aD} {p : Int × Int} (hi : i < 15) (f : fr (Pn i) s t) (hp : rN t 0 i p) (hv : vD D) (h : rD s 0 D) : rD t 0 (sN D i p) := by
  obtain ⟨h1, h2, h3, ⟨h4, h4'⟩, h5, h6, h7⟩ := h
  have h8 := hv.2.2.2.1
  refine ⟨fun j hj => ?_, fun j hj h40 => ?_, fun j hj => ?_, ⟨?_, ?_⟩, ?_, ?_, fun q => ?_⟩
  · show rN _ _ _ (if j = i then p else D.1 j)
    by_cases g : j = i
    · subst g; rw [if_pos rfl]; exact hp
    · rw [if_neg g]; exact rN_fr f (by unfold Pn; omega) (by unfold Pn; omega) (by unfold Pn; omega) (h1 j hj)
  · have hj' : j < dS D := hj
    show rN _ _ _ (if 15 + j = i then p else D.1 (15 + j))
    rw [if_neg (by omega)]
    exact rN_fr f (by unfold Pn; omega) (by unfold Pn; omega) (by unfold Pn; omega) (h2 j hj h40)
  · have hj' : j < dS D := hj
    exact (f.1 _ _ (by unfold Pn; omega)).1.trans (h3 j hj)
  · exact (f.1 _ _ (by unfold Pn; omega)).1.trans h4
  · exact (f.1 _ _ (by unfold Pn; omega)).1.trans h4'
  · exact (f.1 _ _ (by unfold Pn; omega)).1.trans h5
  · exact (f.1 _ _ (by unfold Pn; omega)).1.trans h6
  · exact rE_fr f (fun j _ _ => by unfold Pn; omega) (vE_n (hv.2.2.2.2.2 q)) (h7 q)
theorem rD_cell {s : xS} {k : Nat} {v : Int32} {D : aD} (hk : 54 ≤ k ∧ k ≤ 57) (hv : vD D) (h : rD s 0 D) : (∀ i, i < 15 → rN (sI s 231 k v) 0 i (dN D i)) ∧ (∀ i, i < dS D → dT D i ≠ 40 → rN (sI s 231 k v) 0 (15 + i) (dN D (15 + i))) ∧ (∀ i, i < dS D → gI (sI s 231 k v) 231 (80 * 0 + 46 + i) = i3 (kI (dT D i))) ∧ (dOn D = true → rE (sI s 231 k v) 0 (dE D)) ∧ (∀ j, j ≠ k → gI (sI s 231 k v) 231 j = gI s 231 j) ∧ gI (sI s 231 k v) 231 k = v := by
  have f : fr (fun b j => b = 231 ∧ j = k) s (sI s 231 k v) := fr_sI (fr_refl ..) ⟨rfl, rfl⟩
  have h8 := hv.2.2.2.1
  obtain ⟨h1, h2, h3, ⟨h4, h4'⟩, h5, h6, h7⟩ := h
  exact ⟨fun i hi => rN_fr f (by omega) (by omega) (by omega) (h1 i hi), fun i hi h40 => rN_fr f (by omega) (by omega) (by omega) (h2 i hi h40), fun i hi => (f.1 _ _ (by omega)).1.trans (h3 i hi), fun q => rE_fr f (fun j _ _ => by
    intro w
    obtain ⟨_, w⟩ := w
    omega) (vE_n (hv.2.2.2.2.2 q)) (h7 q), fun j hj => (f.1 _ _ (by omega)).1, by rw [gI_sI, if_pos ⟨rfl, rfl⟩]⟩
