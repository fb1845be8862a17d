/-! a step and a run, at the reference -/
theorem Pdd_pre {s t : xS} (f : fr Pdd s t) : fr Pre s t := fr_mono f (fun b j q => by unfold Pdd Pr at q; unfold Pre; omega)
theorem RV_end {B : aA} {t : xS} (hB : VA B) (ht : RV t B) : RV (sI t 230 9 0) (zR B 0) := by
  obtain ⟨q1, q2, q3, q4, q5, q6, q7, q8, q9, q10⟩ := ht
  have f : fr (fun b j => b = 230 ∧ j = 9) t (sI t 230 9 0) := fr_sI (fr_refl ..) ⟨rfl, rfl⟩
  have h4 := RVh_fr f (fun j w => by omega) (fun j w => by omega) (by omega) hB.2.1 q4
  exact ⟨RVd_fr f (fun j w => by omega) (fun j w => by omega) (by omega) hB.1.1 q1, RVf_fr f (by omega) q2, by show gI _ 230 9 = i3 0; rw [gI_sI, if_pos ⟨rfl, rfl⟩]; rfl, ⟨h4.1, h4.2.1, fun w => absurd w (by show ¬ (0 : Int) = 2; decide)⟩, RVp_fr f (fun j => by omega) q5, fun w => absurd rfl w, ⟨(f.1 _ _ (by omega)).1.trans q7.1, fun w => absurd w (by show ¬ (0 : Int) = 2; decide)⟩, RVl_fr f (fun j w => by omega) q8, RVt_fr f (by omega) (fun j => by omega) q9, RVo_fr f (by omega) (fun j => by omega) q10⟩
theorem VA_end {B : aA} (hB : VA B) : VA (zR B 0) := by
  obtain ⟨h1, h2, h3, h4, h5, h6⟩ := hB
  exact ⟨⟨h1.1, h1.2.1, h1.2.2.1, by show (0 : Int) ≤ 0 ∧ (0 : Int) ≤ 2; omega⟩, ⟨h2.1, h2.2.1, fun q => absurd q (by show ¬ (0 : Int) = 2; decide)⟩, h3, fun q => absurd rfl q, ⟨h5.1, fun q => absurd q (by show ¬ (0 : Int) = 2; decide)⟩, h6⟩
theorem RV_f {A : aA} {t : xS} {c : Int} (hA : VA A) (ht : RV t A) : RV (sI t 230 5 (i3 c)) (zF A c) := by
  obtain ⟨q1, q2, q3, q4, q5, q6, q7, q8, q9, q10⟩ := ht
  have f : fr (fun b j => b = 230 ∧ j = 5) t (sI t 230 5 (i3 c)) := fr_sI (fr_refl ..) ⟨rfl, rfl⟩
  exact ⟨RVd_fr f (fun j w => by omega) (fun j w => by omega) (by omega) hA.1.1 q1, by show gI _ 230 5 = i3 c; rw [gI_sI, if_pos ⟨rfl, rfl⟩], RVr_fr f (by omega) q3, RVh_fr f (fun j w => by omega) (fun j w => by omega) (by omega) hA.2.1 q4, RVp_fr f (fun j => by omega) q5, RVe_fr f (by omega) (by omega) (fun j => by omega) q6, RVs_fr f (fun j w => by omega) (fun b j w => by omega) q7, RVl_fr f (fun j w => by omega) q8, RVt_fr f (by omega) (fun j => by omega) q9, RVo_fr f (by omega) (fun j => by omega) q10⟩
theorem rstep {s : xS} {A : aA} (hA : VA A) (hr : qR A = 1 ∨ qR A = 2) (h : RV s A) : tm_step_ok s ∧ fr Pre s (tm_step s) ∧ RV (tm_step s) (aStep A) := by
  have hr0 : qR A ≠ 0 := by omega
  have hv := hA.1.1
  have hk := aCod_rng hA hr0
  obtain ⟨e1, e2, e3⟩ := hA.2.2.2.1 hr0
  obtain ⟨x1, x2, x3⟩ := h.2.2.2.2.2.1 hr0
  have q3 := h.2.2.1
  have hsr : qR (aStp A).2 = qR A := aStp_R A
  -- the end of a program
  have last : ∀ {B : aA} {t : xS}, VA B → qR B = qR A → RV t B → fr Pre s t → tm_step_59_ok t ∧ fr Pre s (tm_step_59 t) ∧ RV (tm_step_59 t) (if qR A = 1 then zR B 0 else aVal B) := by
    intro B t hB hb ht ft
    rw [tm_step_59_eq]
    unfold tm_step_59_ok tm_step_59_d
    have z : (gI t 230 9 = 1) = (qR A = 1) := by rw [ht.2.2.1, hb, i3_lit, i3_eq (by omega)]
    simp only [z]
    by_cases g : qR A = 1
    · rw [if_neg (show ¬ ¬ qR A = 1 from fun q => q g), if_pos g]
      exact ⟨fun q => absurd g q, fr_sI ft (Or.inl ⟨rfl, by omega⟩), RV_end hB ht⟩
    · rw [if_pos (show ¬ qR A = 1 from g), if_neg g]
      obtain ⟨u1, u2, u3⟩ := rval hB (by omega) ht
      exact ⟨fun _ => u1, fr_trans ft u2, u3⟩
  -- something that is done
  have deed : aCod A ≠ 0 → aCod A ≠ 153 → ¬ (aCod A = 152 ∧ qCg A = 0) → tm_step_80_ok s (i3 (aCod A)) ∧ fr Pre s (tm_step_80 s (i3 (aCod A))) ∧ RV (tm_step_80 s (i3 (aCod A))) (aStep A) := by
    intro n0 n3 n2
    rw [tm_step_80_eq]
    unfold tm_step_80_ok tm_step_80_d
    obtain ⟨p1, p2, p3⟩ := rcopy s (f := 0) (i := 6) (by omega) (by omega) (by omega)
    have p1' : tm_copy_ok s 0 6 := p1
    have p2' : fr (Pb 6) s (tm_copy s 0 6) := p2
    have p3' : rD (tm_copy s 0 6) 6 (qD A) := p3 _ hv h.1.1
    have nb : ∀ b j, ¬ ((b = 231 ∧ 480 ≤ j ∧ j < 560) ∨ (b = 232 ∧ 144 ≤ j ∧ j < 168)) → ¬ Pb 6 b j := fun b j w => by unfold Pb; omega
    have ht : RV (tm_copy s 0 6) A := by
      obtain ⟨q1, q2, q3, q4, q5, q6, q7, q8, q9, q10⟩ := h
      exact ⟨RVd_fr p2' (fun j w => nb _ _ (by omega)) (fun j w => nb _ _ (by omega)) (nb _ _ (by omega)) hv q1, RVf_fr p2' (nb _ _ (by omega)) q2, RVr_fr p2' (nb _ _ (by omega)) q3, RVh_fr p2' (fun j w => nb _ _ (by omega)) (fun j w => nb _ _ (by omega)) (nb _ _ (by omega)) hA.2.1 q4, RVp_fr p2' (fun j => nb _ _ (by omega)) q5, RVe_fr p2' (nb _ _ (by omega)) (nb _ _ (by omega)) (fun j => nb _ _ (by omega)) q6, RVs_fr p2' (fun j w => nb _ _ (by omega)) (fun b j w => nb _ _ (by omega)) q7, RVl_fr p2' (fun j w => nb _ _ (by omega)) q8, RVt_fr p2' (nb _ _ (by omega)) (fun j => nb _ _ (by omega)) q9, RVo_fr p2' (nb _ _ (by omega)) (fun j => nb _ _ (by omega)) q10⟩
    have ft : fr Pre s (tm_copy s 0 6) := fr_mono p2' (fun b j q => by unfold Pb at q; unfold Pre; omega)
    generalize tm_copy s 0 6 = t at *
    obtain ⟨d1, d2, d3, d4⟩ := rdeed hA hr0 ht n0 n3 n2
    have hc := aStp_c hv
    have nm : (aStp A).1 ≠ -1 := by
      unfold aStp
      rw [if_neg (show ¬ (aCod A = 0 ∨ aCod A = 153) by omega)]
      have kc := aKey_c (mdl := qM A) (k := aCod A) hv
      have n2' : ¬ (aCod A = 152 ∧ qCg A = 0) := n2
      repeat' split
      all_goals first
        | (dsimp only; omega)
        | (exfalso; omega)
    have z : ((tm_deed t (i3 (aCod A))).1 ≤ 0) = ((aStp A).1 = 0) := by rw [d3, i3_lit, i3_le (by omega)]; apply propext; omega
    simp only [z]
    by_cases g : (aStp A).1 = 0
    · rw [if_pos g]
      have hst : aStep A = (aStp A).2 := by unfold aStep; rw [if_pos g]
      rw [hst]
      exact ⟨⟨p1', d1, fun q => absurd g q⟩, fr_trans ft (Pdd_pre d2), d4 g⟩
    · rw [if_neg g, d3]
      generalize (tm_deed t (i3 (aCod A))).2 = u at *
      obtain ⟨c1, c2, c3⟩ := rcopy u (f := 6) (i := 0) (by omega) (by omega) (by omega)
      have c1' : tm_copy_ok u 6 0 := c1
      have c2' : fr (Pb 0) u (tm_copy u 6 0) := c2
      have c3' : rD (tm_copy u 6 0) 0 (qD A) := c3 _ hv (rD_fr d2 (fun m _ _ => Pdd_no (by omega)) (fun m _ _ => Pdd_no (by omega)) hv p3')
      have f2 : fr Pdd t (tm_copy u 6 0) := fr_trans d2 (fr_mono c2' (fun b j q => by unfold Pb at q; unfold Pdd Pr; omega))
      generalize tm_copy u 6 0 = v at *
      have hK := hA.2.1.1
      have hy : RVy v A := RVy_fr f2 (fun b j w => Pdd_no (by omega)) (RV_y ht)
      have hh : RVh v A := RVh_fr f2 (fun j w => Pdd_no (by omega)) (fun j w => Pdd_no (by omega)) (Pdd_no (by omega)) hA.2.1 ht.2.2.2.1
      have hR : gI v 230 9 = i3 (qR A) := (f2.1 _ _ (Pdd_no (by omega))).1.trans ht.2.2.1
      have hV : gI v 230 13 = i3 (qV A) := (f2.1 _ _ (Pdd_no (by omega))).1.trans ht.2.2.2.2.2.2.1.1
      have fv : fr Pre s v := fr_trans ft (Pdd_pre f2)
      by_cases g1 : qR A = 1
      · have hst : aStep A = zF (zR A 0) (aStp A).1 := by unfold aStep; rw [if_neg g, if_neg nm, if_pos g1]
        rw [hst, tm_fail_eq]
        unfold tm_fail_ok tm_fail_d
        have z2 : ¬ gI v 230 9 = 2 := by rw [hR, i3_lit, i3_eq (by omega)]; omega
        rw [if_pos (show ¬ gI v 230 9 = 2 from z2)]
        have f3 : fr (fun b j => b = 230 ∧ j = 9) v (sI v 230 9 0) := fr_sI (fr_refl ..) ⟨rfl, rfl⟩
        obtain ⟨y1, y2, y3, y4, y5, y6⟩ := RVy_fr f3 (fun b j w => by omega) hy
        have h4 := RVh_fr f3 (fun j w => by omega) (fun j w => by omega) (by omega) hA.2.1 hh
        have base : RV (sI v 230 9 0) (zR A 0) := ⟨⟨rD_fr f3 (fun m _ _ => by omega) (fun m _ _ => by omega) hv c3', y1⟩, y2, by show gI _ 230 9 = i3 0; rw [gI_sI, if_pos ⟨rfl, rfl⟩]; rfl, ⟨h4.1, h4.2.1, fun w => absurd w (by show ¬ (0 : Int) = 2; decide)⟩, y3, fun w => absurd rfl w, ⟨(f3.1 _ _ (by omega)).1.trans hV, fun w => absurd w (by show ¬ (0 : Int) = 2; decide)⟩, y4, y5, y6⟩
        exact ⟨⟨p1', d1, fun _ => ⟨c1', fun q => absurd q z2⟩⟩, fr_sI (fr_sI fv (Or.inl ⟨rfl, by omega⟩)) (Or.inl ⟨rfl, by omega⟩), RV_f (VA_end hA) base⟩
      · have g2 : qR A = 2 := by omega
        have hst : aStep A = aFl A (aStp A).1 := by unfold aStep; rw [if_neg g, if_neg nm, if_neg g1]
        rw [hst]
        obtain ⟨u1, u2, u3⟩ := rfl2 (c := (aStp A).1) hA g2 hy hh (by rw [hR, g2]) hV
        exact ⟨⟨p1', d1, fun _ => ⟨c1', u1⟩⟩, fr_trans fv u2, u3⟩
  have main : tm_step_22_ok s (i3 (aCod A)) ∧ fr Pre s (tm_step_22 s (i3 (aCod A))) ∧ RV (tm_step_22 s (i3 (aCod A))) (aStep A) := by
    rw [tm_step_22_eq]
    unfold tm_step_22_ok tm_step_22_d
    rw [tm_step_48_eq]
    unfold tm_step_48_ok tm_step_48_d
    have c0 : (i3 (aCod A) = 0) = (aCod A = 0) := by rw [i3_lit, i3_eq (by omega)]
    have c1 : (i3 (aCod A) = 153) = (aCod A = 153) := by rw [i3_lit, i3_eq (by omega)]
    have c2 : (i3 (aCod A) = 152) = (aCod A = 152) := by rw [i3_lit, i3_eq (by omega)]
    have c3 : (gI s 230 8 = 0) = (qCg A = 0) := by rw [x2, i3_lit, i3_eq (by omega)]; apply propext; omega
    simp only [c0, c1, c2, c3]
    by_cases g0 : aCod A = 0
    · rw [if_pos g0, if_pos (show ¬ aCod A = 152 by omega)]
      have hs : aStp A = (-1, A) := by unfold aStp; rw [if_pos (Or.inl g0)]
      have hst : aStep A = (if qR A = 1 then zR A 0 else aVal A) := by unfold aStep; rw [hs, if_neg (show ¬ (-1 : Int) = 0 by decide), if_pos (show (-1 : Int) = -1 from rfl)]
      rw [hst]
      obtain ⟨u1, u2⟩ := last hA rfl h (fr_refl ..)
      exact ⟨⟨fun _ => ⟨fun _ => u1, fun q => by omega⟩, fun q => absurd g0 q⟩, u2⟩
    · rw [if_neg g0]
      by_cases g1 : aCod A = 153
      · rw [if_pos g1, if_pos (show ¬ aCod A = 152 by omega)]
        have hs : aStp A = (-1, A) := by unfold aStp; rw [if_pos (Or.inr g1)]
        have hst : aStep A = (if qR A = 1 then zR A 0 else aVal A) := by unfold aStep; rw [hs, if_neg (show ¬ (-1 : Int) = 0 by decide), if_pos (show (-1 : Int) = -1 from rfl)]
        rw [hst]
        obtain ⟨u1, u2⟩ := last hA rfl h (fr_refl ..)
        exact ⟨⟨fun q => absurd q g0, fun _ => ⟨fun _ => ⟨fun _ => u1, fun q => by omega⟩, fun q => absurd g1 q⟩⟩, u2⟩
      · rw [if_neg g1]
        by_cases g2 : aCod A = 152
        · rw [if_neg (show ¬ ¬ aCod A = 152 from fun q => q g2)]
          by_cases g3 : qCg A = 0
          · rw [if_neg (show ¬ ¬ qCg A = 0 from fun q => q g3), if_neg (show ¬ ¬ aCod A = 152 from fun q => q g2)]
            have hs : aStp A = (-1, zD A (aEnd (qD A))) := by unfold aStp; rw [if_neg (by omega), if_neg (by omega), if_neg (by omega), if_neg (by omega), if_neg (by omega), if_pos g2, if_pos g3]
            have hst : aStep A = (if qR A = 1 then zR (zD A (aEnd (qD A))) 0 else aVal (zD A (aEnd (qD A)))) := by unfold aStep; rw [hs, if_neg (show ¬ (-1 : Int) = 0 by decide), if_pos (show (-1 : Int) = -1 from rfl)]
            rw [hst]
            obtain ⟨y1, y2⟩ := rend h.1.1 hv
            have hRV : RV (tm_end s) (zD A (aEnd (qD A))) := by
              have f := Pr_dd y1
              have n10 : ¬ Pdd 230 4 := Pdd_no (by omega)
              have nr : ∀ b j, ¬ ((b = 231 ∧ j < 80) ∨ (b = 232 ∧ j < 24) ∨ b = 242 ∨ (b = 230 ∧ 29 ≤ j ∧ j ≤ 31)) → ¬ Pr b j := fun b j w => by unfold Pr; omega
              obtain ⟨q1, q2, q3, q4, q5, q6, q7, q8, q9, q10⟩ := h
              exact ⟨⟨y2, (y1.1 _ _ (nr _ _ (by omega))).1.trans q1.2⟩, RVf_fr y1 (nr _ _ (by omega)) q2, RVr_fr y1 (nr _ _ (by omega)) q3, RVh_fr y1 (fun j w => nr _ _ (by omega)) (fun j w => nr _ _ (by omega)) (nr _ _ (by omega)) hA.2.1 q4, RVp_fr y1 (fun j => nr _ _ (by omega)) q5, RVe_fr y1 (nr _ _ (by omega)) (nr _ _ (by omega)) (fun j => nr _ _ (by omega)) q6, RVs_fr y1 (fun j w => nr _ _ (by omega)) (fun b j w => nr _ _ (by omega)) q7, RVl_fr y1 (fun j w => nr _ _ (by omega)) q8, RVt_fr y1 (nr _ _ (by omega)) (fun j => nr _ _ (by omega)) q9, RVo_fr y1 (nr _ _ (by omega)) (fun j => nr _ _ (by omega)) q10⟩
            have hA' : VA (zD A (aEnd (qD A))) := ⟨⟨vD_end hv, hA.1.2⟩, hA.2.1, hA.2.2.1, hA.2.2.2.1, hA.2.2.2.2.1, hA.2.2.2.2.2⟩
            obtain ⟨u1, u2⟩ := last hA' rfl hRV (Pdd_pre (Pr_dd y1))
            exact ⟨⟨fun q => absurd q g0, fun _ => ⟨fun q => absurd q g1, fun _ => ⟨fun q => absurd g2 q, fun _ => ⟨fun q => absurd g3 q, fun _ => ⟨fun q => absurd g2 q, fun _ => u1⟩⟩⟩⟩⟩, u2⟩
          · rw [if_pos (show ¬ qCg A = 0 from g3)]
            obtain ⟨u1, u2⟩ := deed g0 g1 (fun q => g3 q.2)
            exact ⟨⟨fun q => absurd q g0, fun _ => ⟨fun q => absurd q g1, fun _ => ⟨fun q => absurd g2 q, fun _ => ⟨fun _ => u1, fun q => absurd q g3⟩⟩⟩⟩, u2⟩
        · rw [if_pos (show ¬ aCod A = 152 from g2)]
          obtain ⟨u1, u2⟩ := deed g0 g1 (fun q => g2 q.1)
          exact ⟨⟨fun q => absurd q g0, fun _ => ⟨fun q => absurd q g1, fun _ => ⟨fun _ => u1, fun q => absurd q g2⟩⟩⟩, u2⟩
  rw [tm_step_eq]
  unfold tm_step_ok tm_step_d
  have c8 : (gI s 230 10 ≤ 99) = (qAt A < 100) := by rw [x1, i3_lit, i3_le (by omega)]; apply propext; omega
  simp only [c8]
  by_cases g : qAt A < 100
  · have hcd : aCod A = qC A (qAt A).toNat := by unfold aCod; rw [if_pos g]
    rw [if_pos g, x1, i3_nat (by omega), h.2.2.2.2.1 _ (by omega), ← hcd]
    exact ⟨⟨fun _ => ⟨by rw [i3_in (by omega)]; omega, main.1⟩, fun q => absurd g q⟩, main.2⟩
  · have hcd : aCod A = 0 := by unfold aCod; rw [if_neg g]
    rw [if_neg g]
    rw [hcd] at main
    exact ⟨⟨fun q => absurd q g, fun _ => main.1⟩, main.2⟩
theorem rrun_22 (m : Nat) (hm : m ≤ 500) : ∀ (n i : Nat) (s : xS) (A : aA), i ≤ m → m + 1 ≤ n + i → VA A → RV s A → gI s 230 0 = 0 → tm_run_22_ok n s (i3 m) (i3 i) ∧ fr Pre s (tm_run_22 n s (i3 m) (i3 i)).2 ∧ (tm_run_22 n s (i3 m) (i3 i)).1 = zb (!decide (qR (aRuns (m - i) A) = 0)) ∧ RV (tm_run_22 n s (i3 m) (i3 i)).2 (aRuns (m - i) A) ∧ VA (aRuns (m - i) A) := by
  intro n
  induction n with
  | zero => intro i s A h1 h2; omega
  | succ n ih =>
    intro i s A h1 h2 hA h h0
    unfold tm_run_22 tm_run_22_ok
    rw [tm_run_51_eq]
    unfold tm_run_51_d
    have hrr := hA.1.2.2.2
    have c1 : (i3 m ≤ i3 i) = (m ≤ i) := by rw [i3_le (by omega)]; apply propext; omega
    have e1 : i3 i + 1 = i3 (i + 1 : Nat) := by rw [i3_lit, i3_add]; rfl
    have c0 : (gI s 230 0 = 0) = True := eq_true h0
    have c00 : ((0 : Int32) < gI s 230 0) = False := by rw [h0]; exact eq_false (by decide)
    have c9 : (gI s 230 9 = 0) = (qR A = 0) := by rw [h.2.2.1, i3_lit, i3_eq (by omega)]
    have c91 : (gI s 230 9 ≤ 0) = (qR A = 0) := by rw [h.2.2.1, i3_lit, i3_le (by omega)]; apply propext; omega
    simp only [c1, e1, c0, c00, c9, c91, not_true_eq_false, if_false, decide_false, Bool.not_false, Bool.true_and]
    by_cases g : m ≤ i
    · rw [if_pos g, show m - i = 0 by omega]
      exact ⟨fun q => absurd g q, fr_refl .., rfl, h, hA⟩
    · rw [if_neg g]
      obtain ⟨k, hk⟩ : ∃ k, m - i = k + 1 := ⟨m - i - 1, by omega⟩
      have hk' : m - (i + 1) = k := by omega
      rw [hk]
      unfold aRuns
      by_cases g2 : qR A = 0
      · rw [if_pos g2, if_pos g2]
        exact ⟨fun _ _ q => absurd g2 q, fr_refl .., rfl, h, hA⟩
      · rw [if_neg g2, if_neg g2]
        have hr : qR A = 1 ∨ qR A = 2 := by omega
        obtain ⟨y1, y2, y3⟩ := rstep hA hr h
        obtain ⟨p1, p2, p3⟩ := ih (i + 1) (tm_step s) (aStep A) (by omega) (by omega) (VA_step hr hA) y3 ((y2.1 _ _ (by unfold Pre; omega)).1.trans h0)
        rw [hk'] at p3
        exact ⟨fun _ _ _ => ⟨y1, p1⟩, fr_trans y2 p2, p3⟩
