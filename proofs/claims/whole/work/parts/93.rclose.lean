/-! THE REFERENCE'S BRACKETS AND '=' -/
theorem rclosed {s : xS} {D : aD} {k : Int} {x4 : Int32} (hk : k = 61 ∨ k = 41) : tm_closing_169 s (i3 k) x4 = (x4, sI s 231 55 (i3 (if k = 41 then 2 else 0))) := by
  rw [tm_closing_169_eq]
  unfold tm_closing_169_d
  rcases hk with w | w <;> subst w <;> rfl
theorem gt0 {n : Nat} (hn : n ≤ 8) : zb (!decide (i3 (n : Int) ≤ 0)) = zb (decide (0 < n)) := by
  have : (i3 (n : Int) ≤ 0) = (n = 0) := by rw [i3_lit, i3_le (by omega)]; apply propext; omega
  simp only [this]
  by_cases g : n = 0
  · rw [decide_eq_true g, decide_eq_false (by omega)]; rfl
  · rw [decide_eq_false g, decide_eq_true (by omega)]; rfl
theorem rclose_bad {D : aD} {k : Int} {s : xS} {c : Int} (hk : k = 61 ∨ k = 41) (hc : 1 ≤ c ∧ c ≤ 9) {n : Nat} (hn : 1 ≤ n) (x3 : Int32) : tm_closing_99_ok n s (i3 k) x3 (i3 c) ∧ rRs s (tm_closing_99 n s (i3 k) x3 (i3 c)) (c, D) := by
  obtain ⟨m, rfl⟩ : ∃ m, n = m + 1 := ⟨n - 1, by omega⟩
  unfold tm_closing_99 tm_closing_99_ok
  have nz : ¬ i3 c = 0 := by rw [i3_lit, i3_eq (by omega)]; omega
  have hd : rRs s (tm_closing_169 s (i3 k) (i3 c)) (c, D) := by
    rw [rclosed (D := D) hk]
    exact ⟨fr_sI (fr_refl ..) (by unfold Pr; omega), rfl, fun q => absurd q (show ¬ c = 0 by omega)⟩
  by_cases g : x3 = 0
  · rw [if_pos g]
    exact ⟨fun q => absurd g q, hd⟩
  · rw [if_neg g, if_pos nz]
    exact ⟨fun _ q => absurd q nz, hd⟩
theorem rclose_61 {D : aD} (hv : vD D) : ∀ (n m : Nat) (s : xS) (a : Int × Int), m ≤ dS D → m + 2 ≤ n → vN a → rD s 0 (Dm D a m) → tm_closing_99_ok n s (i3 61) (zb (decide (0 < m))) 0 ∧ rRs s (tm_closing_99 n s (i3 61) (zb (decide (0 < m))) 0) (if (aFold D 0 m a).1 = 0 then (0, sP (Dm D (aFold D 0 m a).2 0) 0) else ((aFold D 0 m a).1, D)) := by
  have h8 := hv.2.2.2.1
  intro n
  induction n with
  | zero => intro m s a h1 h2; omega
  | succ n ih =>
    intro m s a hm hn va hd
    cases m with
    | zero =>
      unfold tm_closing_99 tm_closing_99_ok
      have z : zb (decide (0 < 0)) = 0 := rfl
      rw [if_pos z, rclosed (D := D) (Or.inl rfl)]
      refine ⟨fun q => absurd z q, ?_⟩
      show rRs s _ (if (0 : Int) = 0 then _ else _)
      rw [if_pos rfl]
      exact ⟨fr_sI (fr_refl ..) (by unfold Pr; omega), rfl, fun _ => rD_place (v := 0) hd (Dm_v hv va hm)⟩
    | succ j =>
      have z : ¬ zb (decide (0 < j + 1)) = 0 := by rw [decide_eq_true (by omega)]; decide
      obtain ⟨k1, k2⟩ := rclose hd (Dm_v hv va hm) (by show 1 ≤ j + 1; omega)
      rw [aClose_Dm (show 0 ≤ j by omega)] at k2
      have hq := aOp_v (dT D j) (dN D (15 + j)) a
      unfold aFold
      rw [if_neg (show ¬ j < 0 by omega)]
      have step : ∀ {b : Int × Int}, vN b → (tm_close s).1 = i3 0 → fr Pr s (tm_close s).2 → rD (tm_close s).2 0 (Dm D b j) → tm_closing_99_ok (n + 1) s (i3 61) (zb (decide (0 < j + 1))) 0 ∧ rRs s (tm_closing_99 (n + 1) s (i3 61) (zb (decide (0 < j + 1))) 0) (if (aFold D 0 j b).1 = 0 then (0, sP (Dm D (aFold D 0 j b).2 0) 0) else ((aFold D 0 j b).1, D)) := by
        intro b vb h1 f1 d1
        unfold tm_closing_99 tm_closing_99_ok
        have e0 : gI (tm_close s).2 231 54 = i3 j := d1.2.2.2.1.1
        have c61 : i3 61 = 61 := rfl
        have h1' : (tm_close s).1 = 0 := h1
        rw [if_neg z, if_neg (show ¬ ¬ (0 : Int32) = 0 from fun q => q rfl), if_pos c61, e0, gt0 (by omega), h1']
        obtain ⟨p1, p2⟩ := ih j (tm_close s).2 b (by omega) (by omega) vb d1
        exact ⟨fun _ _ => ⟨fun _ => ⟨k1, p1⟩, fun q => absurd c61 q⟩, fr_trans f1 p2.1, p2.2⟩
      by_cases g : dT D j = 40
      · rw [if_pos g] at k2
        rw [if_pos g]
        obtain ⟨f1, f2, f3⟩ := k2
        exact step va f2 f1 (f3 rfl)
      · rw [if_neg g] at k2
        rw [if_neg g]
        by_cases g2 : (aOp (dT D j) (dN D (15 + j)) a).1 = 0
        · rw [if_pos g2] at k2
          rw [if_pos g2]
          obtain ⟨f1, f2, f3⟩ := k2
          exact step hq.1 f2 f1 (f3 rfl)
        · rw [if_neg g2] at k2
          rw [if_neg g2, if_neg g2]
          obtain ⟨f1, f2, f3⟩ := k2
          have f2' : (tm_close s).1 = i3 (aOp (dT D j) (dN D (15 + j)) a).1 := f2
          unfold tm_closing_99 tm_closing_99_ok
          have c61 : i3 61 = 61 := rfl
          rw [if_neg z, if_neg (show ¬ ¬ (0 : Int32) = 0 from fun q => q rfl), if_pos c61, f2']
          obtain ⟨p1, p2⟩ := rclose_bad (D := D) (k := 61) (s := (tm_close s).2) (c := (aOp (dT D j) (dN D (15 + j)) a).1) (Or.inl rfl) (by omega) (n := n) (by omega) (zb (!decide (gI (tm_close s).2 231 54 ≤ 0)))
          exact ⟨fun _ _ => ⟨fun _ => ⟨k1, p1⟩, fun q => absurd c61 q⟩, fr_trans f1 p2.1, p2.2⟩
theorem rclose_41 {D : aD} (hv : vD D) : ∀ (n m : Nat) (s : xS) (a : Int × Int), m ≤ dS D → m + 2 ≤ n → aBr (dT D) m = true → vN a → rD s 0 (Dm D a m) → tm_closing_99_ok n s (i3 41) (zb true) 0 ∧ rRs s (tm_closing_99 n s (i3 41) (zb true) 0) (if (aFold D (aLeft (dT D) 1 m) m a).1 = 0 then (0, sP (Dm D (aFold D (aLeft (dT D) 1 m) m a).2 (aLeft (dT D) 1 m - 1)) 2) else ((aFold D (aLeft (dT D) 1 m) m a).1, D)) := by
  have h8 := hv.2.2.2.1
  have z : ¬ zb true = 0 := by decide
  have c61 : ¬ i3 41 = 61 := by decide
  intro n
  induction n with
  | zero => intro m s a h1 h2; omega
  | succ n ih =>
    intro m s a hm hn hb va hd
    cases m with
    | zero => cases hb
    | succ j =>
      obtain ⟨k1, k2⟩ := rclose hd (Dm_v hv va hm) (by show 1 ≤ j + 1; omega)
      rw [aClose_Dm (Nat.le_refl j)] at k2
      have hq := aOp_v (dT D j) (dN D (15 + j)) a
      have e0 : gI s 231 54 = i3 (j + 1 : Nat) := hd.2.2.2.1.1
      have e1 : (46 : Int32) + gI s 231 54 - 1 = i3 (46 + j : Nat) := by rw [e0, i3_lit, i3_add, i3_lit, i3_sub]; exact congrArg i3 (by omega)
      have hT : gI s 231 (46 + j) = i3 (kI (dT D j)) := by
        have := hd.2.2.1 j (by show j < j + 1; omega)
        rw [Dm_T, show 80 * 0 + 46 + j = 46 + j by omega] at this
        exact this
      have hkj := hv.2.2.1 j (by omega)
      have hkr := kI_rng hkj
      have c3 : (gI s 231 (46 + j) = 0) = (dT D j = 40) := by rw [hT, i3_lit, i3_eq (by omega), kI_eq hkj]
      have hin : vp_in (i3 (46 + j : Nat)) 640 := by rw [i3_inN (by omega)]; omega
      unfold tm_closing_99 tm_closing_99_ok aLeft
      rw [if_neg z, if_neg (show ¬ ¬ (0 : Int32) = 0 from fun q => q rfl), if_neg c61, e1, i3_natN (by omega)]
      simp only [c3]
      by_cases g : dT D j = 40
      · have t0 : ¬ 1 ≤ tgt (dT D j) := by rw [g]; decide
        have b0 : (!decide (dT D j = 40)) = false := by rw [decide_eq_true g]; rfl
        rw [if_pos g] at k2
        rw [if_neg t0, if_pos b0]
        obtain ⟨f1, f2, f3⟩ := k2
        have f2' : (tm_close s).1 = 0 := f2
        have hf : aFold D (j + 1) (j + 1) a = (0, a) := by unfold aFold; rw [if_pos (by omega)]
        rw [hf, f2']
        obtain ⟨n', rfl⟩ : ∃ n', n = n' + 1 := ⟨n - 1, by omega⟩
        unfold tm_closing_99 tm_closing_99_ok
        rw [if_pos rfl, rclosed (D := D) (Or.inr rfl), if_pos (show (0, a).1 = (0 : Int) from rfl)]
        exact ⟨fun _ _ => ⟨fun q => absurd q c61, fun _ => ⟨hin, k1, fun _ q => absurd rfl q, fun q => by rw [b0] at q; cases q⟩⟩, fr_sI f1 (by unfold Pr; omega), rfl, fun _ => rD_place (v := 2) (f3 rfl) (Dm_v hv va (by omega))⟩
      · have t1 : 1 ≤ tgt (dT D j) := by
          unfold isK at hkj
          rcases hkj with w | w | w | w | w
          · exact absurd w g
          all_goals (rw [w]; decide)
        have b1 : (!decide (dT D j = 40)) = true := by rw [decide_eq_false g]; rfl
        rw [if_neg g] at k2
        rw [if_pos t1, if_neg (show ¬ (!decide (dT D j = 40)) = false by rw [b1]; decide)]
        have hle := aLeft_le (dT D) 1 j
        have hb' : aBr (dT D) j = true := by
          unfold aBr at hb
          rw [decide_eq_false g, Bool.or_false] at hb
          exact hb
        have hj1 : 0 < j := by
          cases j with
          | zero => cases hb'
          | succ j => omega
        unfold aFold
        rw [if_neg (show ¬ j < aLeft (dT D) 1 j by omega), if_neg g]
        by_cases g2 : (aOp (dT D j) (dN D (15 + j)) a).1 = 0
        · rw [if_pos g2] at k2
          rw [if_pos g2]
          obtain ⟨f1, f2, f3⟩ := k2
          have d1 := f3 rfl
          have e2 : gI (tm_close s).2 231 54 = i3 j := d1.2.2.2.1.1
          have f2' : (tm_close s).1 = 0 := f2
          rw [e2, gt0 (by omega), decide_eq_true hj1, f2']
          obtain ⟨p1, p2⟩ := ih j (tm_close s).2 (aOp (dT D j) (dN D (15 + j)) a).2 (by omega) (by omega) hb' hq.1 d1
          exact ⟨fun _ _ => ⟨fun q => absurd q c61, fun _ => ⟨hin, k1, fun q => (by rw [b1] at q; cases q), fun _ => p1⟩⟩, fr_trans f1 p2.1, p2.2⟩
        · rw [if_neg g2] at k2
          rw [if_neg g2, if_neg g2]
          obtain ⟨f1, f2, f3⟩ := k2
          have f2' : (tm_close s).1 = i3 (aOp (dT D j) (dN D (15 + j)) a).1 := f2
          rw [f2']
          obtain ⟨p1, p2⟩ := rclose_bad (D := D) (k := 41) (s := (tm_close s).2) (c := (aOp (dT D j) (dN D (15 + j)) a).1) (Or.inr rfl) (by omega) (n := n) (by omega) (zb (!decide (gI (tm_close s).2 231 54 ≤ 0)))
          exact ⟨fun _ _ => ⟨fun q => absurd q c61, fun _ => ⟨hin, k1, fun q => (by rw [b1] at q; cases q), fun _ => p1⟩⟩, fr_trans f1 p2.1, p2.2⟩
/-! the search for a bracket, and the whole -/
theorem Dm_self {D : aD} : Dm D (dN D 10) (dS D) = aEnd D := by
  have h1 := dN_end D
  have h2 := dS_end D
  unfold Dm sSz sN
  refine Prod.ext (funext fun j => ?_) ?_
  · dsimp only
    by_cases g : j = 10
    · rw [if_pos g, g]; exact (congrFun h1 10).symm
    · rw [if_neg g]
  · dsimp only
    rw [← h2]; rfl
theorem rclosing_4 {D : aD} {k : Int} {s : xS} (hk : k = 61 ∨ k = 41) (hv : vD D) (hd : rD s 0 (aEnd D)) : ∀ (n i : Nat) (b : Bool), i ≤ dS D → dS D + 1 ≤ n + i → b = aBr (dT D) i → tm_closing_4_ok n s (i3 k) (zb b) (i3 i) ∧ rRs s (tm_closing_4 n s (i3 k) (zb b) (i3 i)) (aForm k D) := by
  have h8 := hv.2.2.2.1
  have e0 : gI s 231 54 = i3 (dS D) := by rw [← dS_end D]; exact hd.2.2.2.1.1
  have eP : gI s 231 55 = i3 (dP D) := by
    have : dP (aEnd D) = dP D := by unfold aEnd; cases dOn D <;> rfl
    rw [← this]; exact hd.2.2.2.1.2
  have hP := hv.2.2.2.2.1
  intro n
  induction n with
  | zero => intro i b h1 h2; omega
  | succ n ih =>
    intro i b h1 h2 h3
    unfold tm_closing_4 tm_closing_4_ok
    have c1 : (gI s 231 54 ≤ i3 i) = (dS D ≤ i) := by rw [e0]; exact i3_leN (by omega) (by omega)
    have c2 : (i3 k = 41) = (k = 41) := by rw [i3_lit, i3_eq (by omega)]
    have c3 : (gI s 231 55 = 1) = (dP D = 1) := by rw [eP, i3_lit, i3_eq (by omega)]
    have c4 : (gI s 231 55 = 2) = (dP D = 2) := by rw [eP, i3_lit, i3_eq (by omega)]
    have c5 : (zb b = 0) = (b = false) := propext zb_eq0
    have e1 : i3 i + 1 = i3 (i + 1 : Nat) := by rw [i3_lit, i3_add]; rfl
    have e2 : (46 : Int32) + i3 i = i3 (46 + i : Nat) := by rw [i3_lit, i3_add]; rfl
    simp only [c1, c2, c3, c4, c5, e1, e2]
    by_cases g : dS D ≤ i
    · have hi : i = dS D := by omega
      subst hi
      rw [if_pos g]
      have hdm : rD s 0 (Dm D (dN D 10) (dS D)) := by rw [Dm_self]; exact hd
      have vx := hv.1 10 (by omega)
      rw [tm_closing_80_eq]
      unfold tm_closing_80_ok tm_closing_80_d
      rw [e0, gt0 h8]
      have nf : ¬ (8 ≤ aLb k D ∧ (k = 40 ∨ isOp k = true)) := by
        rintro ⟨_, w | w⟩
        · omega
        · rcases isOp_k w with w | w | w | w <;> omega
      rcases hk with rfl | rfl
      · rw [if_pos (show ¬ (61 : Int) = 41 by decide)]
        by_cases gp : dP D = 1
        · rw [if_neg (show ¬ ¬ dP D = 1 from fun q => q gp)]
          have ho : aOut 61 D = true := by unfold aOut aOutR; rw [if_neg (by decide), if_neg (by decide), decide_eq_true gp]
          unfold aForm
          rw [if_pos ho]
          exact ⟨⟨fun _ => ⟨fun _ q => absurd gp q, fun q => absurd q (by decide)⟩, fun q => absurd g q⟩, fr_refl .., rfl, fun q => absurd q (show ¬ (5 : Int) = 0 by decide)⟩
        · rw [if_pos (show ¬ dP D = 1 from gp)]
          have ho : ¬ aOut 61 D = true := by unfold aOut aOutR; rw [if_neg (by decide), if_neg (by decide), decide_eq_false gp]; decide
          obtain ⟨p1, p2⟩ := rclose_61 hv xfu (dS D) s (dN D 10) (Nat.le_refl _) (by rw [xfu_eq]; omega) vx hdm
          have hl : aLb 61 D = 0 := by
            unfold aLb aLbR
            rw [if_neg (by decide), if_pos rfl]
            have : ∀ m, aLeft (dT D) 0 m = 0 := by
              intro m
              induction m with
              | zero => rfl
              | succ m ih =>
                unfold aLeft
                rw [if_pos (tgt_rng (dT D m)).1]; exact ih
            exact this _
          unfold aForm
          rw [if_neg ho, if_neg nf, hl]
          refine ⟨⟨fun _ => ⟨fun _ _ => p1, fun q => absurd q (by decide)⟩, fun q => absurd g q⟩, ?_⟩
          unfold aFollow
          rw [if_pos rfl]
          exact p2
      · rw [if_neg (show ¬ ¬ (41 : Int) = 41 from fun q => q rfl)]
        by_cases gp : dP D = 2
        · rw [if_neg (show ¬ ¬ dP D = 2 from fun q => q gp)]
          cases hb : aBr (dT D) (dS D)
          · have hb0 : b = false := h3.trans hb
            rw [if_neg (show ¬ ¬ b = false from fun q => q hb0)]
            have ho : aOut 41 D = true := by unfold aOut aOutR; rw [if_neg (by decide), if_pos rfl, hb, Bool.and_false]; rfl
            unfold aForm
            rw [if_pos ho]
            exact ⟨⟨fun _ => ⟨fun q => absurd rfl q, fun _ _ q => absurd hb0 q⟩, fun q => absurd g q⟩, fr_refl .., rfl, fun q => absurd q (show ¬ (5 : Int) = 0 by decide)⟩
          · have hb0 : b = true := h3.trans hb
            have hbn : ¬ b = false := by rw [hb0]; decide
            rw [if_pos hbn]
            have ho : ¬ aOut 41 D = true := by unfold aOut aOutR; rw [if_neg (by decide), if_pos rfl, hb, decide_eq_true gp]; decide
            have hs0 : 0 < dS D := by
              by_cases w : dS D = 0
              · rw [w] at hb; cases hb
              · omega
            rw [decide_eq_true hs0]
            obtain ⟨p1, p2⟩ := rclose_41 hv xfu (dS D) s (dN D 10) (Nat.le_refl _) (by rw [xfu_eq]; omega) hb vx hdm
            have hl : aLb 41 D = aLeft (dT D) 1 (dS D) := by unfold aLb aLbR; rw [if_neg (by decide), if_neg (by decide), if_pos rfl]
            unfold aForm
            rw [if_neg ho, if_neg nf, hl]
            refine ⟨⟨fun _ => ⟨fun q => absurd rfl q, fun _ _ _ => p1⟩, fun q => absurd g q⟩, ?_⟩
            unfold aFollow
            rw [if_neg (show ¬ (41 : Int) = 61 by decide), if_pos (show (41 : Int) = 41 from rfl)]
            exact p2
        · rw [if_pos (show ¬ dP D = 2 from gp)]
          have ho : aOut 41 D = true := by unfold aOut aOutR; rw [if_neg (by decide), if_pos rfl, decide_eq_false gp]; rfl
          unfold aForm
          rw [if_pos ho]
          exact ⟨⟨fun _ => ⟨fun q => absurd rfl q, fun _ q => absurd q gp⟩, fun q => absurd g q⟩, fr_refl .., rfl, fun q => absurd q (show ¬ (5 : Int) = 0 by decide)⟩
    · rw [if_neg g]
      have hT : gI s 231 (46 + i) = i3 (kI (dT D i)) := by
        have := hd.2.2.1 i (by rw [dS_end]; omega)
        rw [dT_end, show 80 * 0 + 46 + i = 46 + i by omega] at this
        exact this
      have hkj := hv.2.2.1 i (by omega)
      have hkr := kI_rng hkj
      have c6 : (gI s 231 (46 + i) = 0) = (dT D i = 40) := by rw [hT, i3_lit, i3_eq (by omega), kI_eq hkj]
      have hin : vp_in (i3 (46 + i : Nat)) 640 := by rw [i3_inN (by omega)]; omega
      rw [i3_natN (by omega)]
      simp only [c6]
      cases hb : b
      · rw [if_neg (show ¬ ¬ false = false from fun q => q rfl)]
        obtain ⟨p1, p2⟩ := ih (i + 1) (decide (dT D i = 40)) (by omega) (by omega) (by
          unfold aBr; rw [← h3, hb, Bool.false_or])
        exact ⟨⟨fun q => absurd q g, fun _ => ⟨fun q => absurd rfl q, fun _ => ⟨hin, p1⟩⟩⟩, p2⟩
      · rw [if_pos (show ¬ true = false by decide)]
        obtain ⟨p1, p2⟩ := ih (i + 1) true (by omega) (by omega) (by
          unfold aBr; rw [← h3, hb, Bool.true_or])
        exact ⟨⟨fun q => absurd q g, fun _ => ⟨fun _ => p1, fun q => absurd q (by decide)⟩⟩, p2⟩
theorem rformula {D : aD} {k : Int} {s : xS} (hk : 0 ≤ k ∧ k ≤ 255) (hv : vD D) (hd : rD s 0 (aEnd D)) : tm_formulaKey_ok s (i3 k) ∧ rRs s (tm_formulaKey s (i3 k)) (if isRk k = true then aForm k D else (1, D)) := by
  have h8 := hv.2.2.2.1
  have hP := hv.2.2.2.2.1
  have hdm : rD s 0 (Dm D (dN D 10) (dS D)) := by rw [Dm_self]; exact hd
  have vx := hv.1 10 (by omega)
  have eP : gI s 231 55 = i3 (dP D) := by
    have : dP (aEnd D) = dP D := by unfold aEnd; cases dOn D <;> rfl
    rw [← this]; exact hd.2.2.2.1.2
  rw [tm_formulaKey_eq]
  unfold tm_formulaKey_ok tm_formulaKey_d
  rw [tm_formulaKey_207_eq, tm_formulaKey_13_eq]
  unfold tm_formulaKey_207_ok tm_formulaKey_207_d tm_formulaKey_13_ok tm_formulaKey_13_d
  rw [tm_closing_eq]
  unfold tm_closing_ok tm_closing_d
  rw [isOp_tm hk]
  have c1 : (i3 k = 40) = (k = 40) := by rw [i3_lit, i3_eq (by omega)]
  have c2 : (i3 k = 41) = (k = 41) := by rw [i3_lit, i3_eq (by omega)]
  have c3 : (i3 k = 61) = (k = 61) := by rw [i3_lit, i3_eq (by omega)]
  have c4 : (gI s 231 55 = 1) = (dP D = 1) := by rw [eP, i3_lit, i3_eq (by omega)]
  have c5 : (gI s 231 55 = 2) = (dP D = 2) := by rw [eP, i3_lit, i3_eq (by omega)]
  simp only [c1, c2, c3, c4, c5]
  have cl := fun (w : k = 61 ∨ k = 41) => rclosing_4 w hv hd xfu 0 false (by omega) (by rw [xfu_eq]; omega) rfl
  cases go : isOp k
  · rw [if_neg (show ¬ false = true by decide)]
    by_cases g1 : k = 40
    · have hr : isRk k = true := by unfold isRk; rw [go, g1]; rfl
      rw [if_neg (show ¬ ¬ k = 40 from fun q => q g1), if_neg (show ¬ ¬ k = 40 from fun q => q g1), if_pos hr]
      unfold aForm
      by_cases gp : dP D = 2
      · have ho : aOut k D = true := by unfold aOut aOutR; rw [if_pos g1, decide_eq_true gp]
        rw [if_neg (show ¬ ¬ dP D = 2 from fun q => q gp), if_pos ho]
        exact ⟨⟨fun q => (by cases q), fun _ => ⟨fun q => absurd g1 q, fun _ => ⟨fun q => absurd g1 q, fun _ q => absurd gp q⟩⟩⟩, fr_refl .., rfl, fun q => absurd q (show ¬ (5 : Int) = 0 by decide)⟩
      · have ho : ¬ aOut k D = true := by unfold aOut aOutR; rw [if_pos g1, decide_eq_false gp]; decide
        rw [if_pos (show ¬ dP D = 2 from gp), if_neg ho]
        have hl : aLb k D = dS D := by unfold aLb aLbR; rw [if_pos g1]
        rw [hl]
        obtain ⟨n', hn'⟩ : ∃ n', xfu = n' + 1 := ⟨999, xfu_eq⟩
        rw [hn']
        unfold tm_formulaKey_48 tm_formulaKey_48_ok
        simp only [c1]
        rw [if_pos g1]
        obtain ⟨p1, p2⟩ := rlayon (k := k) hk (Or.inl g1) hv vx (Nat.le_refl _) hdm
        have hf : aFold D (dS D) (dS D) (dN D 10) = (0, dN D 10) := by
          generalize dS D = m
          cases m with
          | zero => rfl
          | succ m => unfold aFold; rw [if_pos (by omega)]
        rw [hf]
        refine ⟨⟨fun q => (by cases q), fun _ => ⟨fun q => absurd g1 q, fun _ => ⟨fun q => absurd g1 q, fun _ _ => ⟨fun _ => p1, fun q => absurd g1 q⟩⟩⟩⟩, ?_⟩
        rw [if_pos (show (0, dN D 10).1 = (0 : Int) from rfl)]
        by_cases g8 : 8 ≤ dS D
        · rw [if_pos ⟨g8, Or.inl g1⟩]
          rw [if_pos g8] at p2
          exact p2
        · rw [if_neg (fun q => g8 q.1)]
          rw [if_neg g8] at p2
          exact p2
    · rw [if_pos (show ¬ k = 40 from g1)]
      by_cases g2 : k = 41
      · have hr : isRk k = true := by unfold isRk; rw [go, g2]; rfl
        rw [if_pos g2, if_pos hr]
        obtain ⟨p1, p2⟩ := cl (Or.inr g2)
        exact ⟨⟨fun q => (by cases q), fun _ => ⟨fun _ => ⟨fun _ => p1, fun q => absurd g2 q⟩, fun q => absurd q g1⟩⟩, p2⟩
      · rw [if_neg g2]
        by_cases g3 : k = 61
        · have hr : isRk k = true := by unfold isRk; rw [go, g3]; rfl
          rw [if_pos g3, if_pos hr]
          obtain ⟨p1, p2⟩ := cl (Or.inl g3)
          exact ⟨⟨fun q => (by cases q), fun _ => ⟨fun _ => ⟨fun q => absurd q g2, fun _ _ => p1⟩, fun q => absurd q g1⟩⟩, p2⟩
        · have hr : ¬ isRk k = true := by unfold isRk; rw [go]; simp [g1, g2, g3]
          rw [if_neg g3, if_neg hr]
          exact ⟨⟨fun q => (by cases q), fun _ => ⟨fun _ => ⟨fun q => absurd q g2, fun _ q => absurd q g3⟩, fun q => absurd q g1⟩⟩, fr_refl .., rfl, fun q => absurd q (show ¬ (1 : Int) = 0 by decide)⟩
  · have hr : isRk k = true := by unfold isRk; rw [go]; rfl
    have n40 : ¬ k = 40 := by rcases isOp_k go with w | w | w | w <;> omega
    have n41 : ¬ k = 41 := by rcases isOp_k go with w | w | w | w <;> omega
    have n61 : ¬ k = 61 := by rcases isOp_k go with w | w | w | w <;> omega
    rw [if_pos (show true = true from rfl), if_pos (show ¬ k = 40 from n40), if_pos hr]
    unfold aForm
    by_cases gp : dP D = 1
    · have ho : aOut k D = true := by unfold aOut aOutR; rw [if_neg n40, if_neg n41, decide_eq_true gp]
      rw [if_neg (show ¬ ¬ dP D = 1 from fun q => q gp), if_pos ho]
      exact ⟨⟨fun _ => ⟨fun _ q => absurd gp q, fun q => absurd q n40⟩, fun q => (by cases q)⟩, fr_refl .., rfl, fun q => absurd q (show ¬ (5 : Int) = 0 by decide)⟩
    · have ho : ¬ aOut k D = true := by unfold aOut aOutR; rw [if_neg n40, if_neg n41, decide_eq_false gp]; decide
      rw [if_pos (show ¬ dP D = 1 from gp), if_neg ho]
      have hl : aLb k D = aLeft (dT D) (tgt k) (dS D) := by unfold aLb aLbR; rw [if_neg n40, if_neg n61, if_neg n41]
      obtain ⟨p1, p2⟩ := rform_48 hk go hv xfu (dS D) s (dN D 10) (Nat.le_refl _) (by rw [xfu_eq]; omega) vx hdm
      rw [← hl] at p2
      refine ⟨⟨fun _ => ⟨fun _ _ => p1, fun q => absurd q n40⟩, fun q => (by cases q)⟩, ?_⟩
      by_cases g8 : 8 ≤ aLb k D
      · rw [if_pos ⟨g8, Or.inr go⟩]
        have hS : aLb k D = dS D := by have := aLb_le k D; omega
        have hf : aFold D (aLb k D) (dS D) (dN D 10) = (0, dN D 10) := by
          rw [hS]
          generalize dS D = m
          cases m with
          | zero => rfl
          | succ m => unfold aFold; rw [if_pos (by omega)]
        rw [hf, if_pos (show (0, dN D 10).1 = (0 : Int) from rfl), if_pos g8] at p2
        exact p2
      · rw [if_neg (fun q => g8 q.1)]
        rw [if_neg g8] at p2
        exact p2
