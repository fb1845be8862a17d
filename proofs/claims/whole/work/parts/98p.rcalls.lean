/-! THE CALLS, at the reference -/
def Prr (b _ : Nat) : Prop := 230 ≤ b ∧ b ≤ 242
theorem Pre_rr {s t : xS} (f : fr Pre s t) : fr Prr s t := fr_mono f (fun b j q => by unfold Pre at q; unfold Prr; omega)
theorem Pkr_rr {s t : xS} (f : fr Pkr s t) : fr Prr s t := fr_mono f (fun b j q => by unfold Pkr at q; unfold Prr; omega)
theorem RV_0 {s : xS} {A : aA} {v : Int32} (hA : VA A) (h : RV s A) : fr Prr s (sI s 230 0 v) ∧ RV (sI s 230 0 v) A ∧ gI (sI s 230 0 v) 230 0 = v := by
  have f : fr (fun b j => b = 230 ∧ j = 0) s (sI s 230 0 v) := fr_sI (fr_refl ..) ⟨rfl, rfl⟩
  exact ⟨fr_mono f (fun b j q => by unfold Prr; omega), RV_fr f (fun b j w w2 w3 => by omega) hA h, by rw [gI_sI, if_pos ⟨rfl, rfl⟩]⟩
theorem rmodel_40 {m : Int} : ∀ (n i : Nat) (s : xS) (D : aD), 10 ≤ i → i ≤ 15 → 16 ≤ n + i → vD D → rD s 0 D → tm_model_40_ok n s (i3 m) (i3 i) ∧ ∃ u D', tm_model_40 n s (i3 m) (i3 i) = sI (sI (sI (sI (sI (sI (sI u 231 56 0) 231 54 0) 231 55 0) 231 57 0) 230 3 0) 230 5 0) 230 4 (i3 m) ∧ fr (fun b j => (b = 231 ∧ j < 80) ∨ (b = 232 ∧ j < 24)) s u ∧ rD u 0 D' ∧ vD D' ∧ D'.2 = D.2 ∧ (∀ j, dN D' j = if i ≤ j ∧ j ≤ 14 then (0, 0) else dN D j) := by
  intro n
  induction n with
  | zero => intro i s D h1 h2 h3; omega
  | succ n ih =>
    intro i s D h1 h2 h3 hv h
    unfold tm_model_40 tm_model_40_ok
    have c1 : ((14 : Int32) < i3 i) = (14 < i) := by rw [i3_lit, i3_lt (by omega)]; apply propext; omega
    have e1 : i3 i + 1 = i3 (i + 1 : Nat) := by rw [i3_lit, i3_add]; rfl
    simp only [c1, e1]
    by_cases g : 14 < i
    · rw [if_pos g]
      exact ⟨fun q => absurd g q, s, D, rfl, fr_refl .., h, hv, rfl, fun j => by rw [if_neg (by omega)]⟩
    · rw [if_neg g]
      have z : vN ((0, 0) : Int × Int) := Or.inl ⟨rfl, rfl⟩
      have hz : rA 0 0 0 (((0, 0) : Int × Int)) := ⟨rfl, fun q => absurd rfl q⟩
      obtain ⟨p1, p2, p3⟩ := rset s (i := i) (by omega) hz (fun _ => rfl)
      obtain ⟨q1, u, D', q2, q3, q4, q5, q6, q7⟩ := ih (i + 1) (tm_set s (i3 i) 0 0 0) (sN D i (0, 0)) (by omega) (by omega) (by omega) (vD_sN hv z) (rD_num (by omega) p2 p3 hv h)
      refine ⟨fun _ => ⟨p1, q1⟩, u, D', q2, fr_trans (fr_mono p2 (fun b j q => by unfold Pn at q; omega)) q3, q4, q5, q6, fun j => ?_⟩
      rw [q7 j]
      show (if i + 1 ≤ j ∧ j ≤ 14 then (0, 0) else if j = i then (0, 0) else D.1 j) = _
      by_cases w1 : i + 1 ≤ j ∧ j ≤ 14
      · rw [if_pos w1, if_pos (by omega)]
      · rw [if_neg w1]
        by_cases w2 : j = i
        · rw [if_pos w2, if_pos (by omega)]
        · rw [if_neg w2, if_neg (by omega)]; rfl
theorem rmodel {s : xS} {A : aA} {m : Int} (hA : VA A) (hr : qR A = 0) (hm : m = 0 ∨ m = 1) (h : RV s A) : tm_model_ok s (i3 m) ∧ fr Prr s (tm_model s (i3 m)) ∧ RV (tm_model s (i3 m)) (aModel m A) ∧ gI (tm_model s (i3 m)) 230 0 = 0 := by
  have r0 : gI s 230 9 ≤ 0 := by rw [h.2.2.1, hr]; decide
  have c0 : ¬ i3 m < 0 := by rw [i3_lit, i3_lt (by omega)]; omega
  have c1 : i3 m ≤ 1 := by rw [i3_lit, i3_le (by omega)]; omega
  rw [tm_model_eq]
  unfold tm_model_ok tm_model_d
  have e : (if gI s 230 9 ≤ 0 then (if i3 m < 0 then (2 : Int32) else (if i3 m ≤ 1 then (0 : Int32) else 2)) else 1) = 0 := by rw [if_pos r0, if_neg c0, if_pos c1]
  rw [e, if_pos (show (0 : Int32) ≤ 0 by decide)]
  obtain ⟨f0, h0, z0⟩ := RV_0 (v := 0) hA h
  generalize sI s 230 0 0 = t at *
  have hv := hA.1.1
  obtain ⟨q1, u, D', q2, q3, q4, q5, q6, q7⟩ := rmodel_40 (m := m) xfu 10 t (qD A) (by omega) (by omega) (by rw [xfu_eq]; omega) hv h0.1.1
  have e10 : i3 ((10 : Nat) : Int) = 10 := rfl
  rw [e10] at q1 q2
  rw [q2]
  have hD' : D' = sN (sN (sN (sN (sN (qD A) 10 (0, 0)) 11 (0, 0)) 12 (0, 0)) 13 (0, 0)) 14 (0, 0) := by
    refine Prod.ext (funext fun j => ?_) q6
    refine Eq.trans (q7 j) ?_
    show _ = (if j = 14 then (0, 0) else if j = 13 then (0, 0) else if j = 12 then (0, 0) else if j = 11 then (0, 0) else if j = 10 then (0, 0) else (qD A).1 j)
    by_cases w : 10 ≤ j ∧ j ≤ 14
    · rw [if_pos w]
      have : j = 10 ∨ j = 11 ∨ j = 12 ∨ j = 13 ∨ j = 14 := by omega
      rcases this with w | w | w | w | w <;> subst w <;> rfl
    · rw [if_neg w, if_neg (by omega), if_neg (by omega), if_neg (by omega), if_neg (by omega), if_neg (by omega)]; rfl
  have d1 := rD_lift (b := false) q4 q5
  have v1 := vD_sLi (b := false) q5
  have d2 := rD_size (n := 0) (Nat.zero_le _) d1 v1
  have v2 := vD_size (n := 0) (Nat.zero_le _) v1
  have d3 := rD_place (v := 0) d2 v2
  have v3 := vD_sP (v := 0) v2 (by omega)
  have d4 := rD_shut d3 v3
  have hDe : sOn (sP (sSz (sLi D' false) 0) 0) false = aClr (qD A) := by rw [hD']; rfl
  rw [hDe] at d4
  have d4' : rD (sI (sI (sI (sI u 231 56 0) 231 54 0) 231 55 0) 231 57 0) 0 (aClr (qD A)) := d4
  have fu : fr (fun b j => (b = 231 ∧ j < 80) ∨ (b = 232 ∧ j < 24)) t (sI (sI (sI (sI u 231 56 0) 231 54 0) 231 55 0) 231 57 0) := fr_sI (fr_sI (fr_sI (fr_sI q3 (by omega)) (by omega)) (by omega)) (by omega)
  generalize sI (sI (sI (sI u 231 56 0) 231 54 0) 231 55 0) 231 57 0 = x at *
  have f1 : fr (fun b j => b = 230 ∧ (3 ≤ j ∧ j ≤ 5)) x (sI (sI (sI x 230 3 0) 230 5 0) 230 4 (i3 m)) := fr_sI (fr_sI (fr_sI (fr_refl ..) (by omega)) (by omega)) (by omega)
  have f : fr (fun b j => (b = 231 ∧ j < 80) ∨ (b = 232 ∧ j < 24) ∨ (b = 230 ∧ (3 ≤ j ∧ j ≤ 5))) t (sI (sI (sI x 230 3 0) 230 5 0) 230 4 (i3 m)) := fr_trans (fr_mono fu (fun b j q => by omega)) (fr_mono f1 (fun b j q => by omega))
  obtain ⟨p1, p2, p3, p4, p5, p6, p7, p8, p9, p10⟩ := h0
  refine ⟨fun _ => q1, fr_trans f0 (fr_mono f (fun b j q => by unfold Prr; omega)), ⟨⟨rD_fr f1 (fun m _ _ => by omega) (fun m _ _ => by omega) (aClr_v hv) d4', by rw [gI_sI, if_pos ⟨rfl, rfl⟩]; rfl⟩, ?_, RVr_fr f (by omega) p3, ⟨?_, fun j j1 j2 => by have : j ≤ 0 := j2; omega, fun w => by have : qR A = 2 := w; omega⟩, RVp_fr f (fun j => by omega) p5, fun w => absurd hr w, ⟨(f.1 _ _ (by omega)).1.trans p7.1, fun w => by have : qR A = 2 := w; omega⟩, RVl_fr f (fun j w => by omega) p8, RVt_fr f (by omega) (fun j => by omega) p9, RVo_fr f (by omega) (fun j => by omega) p10⟩, (f.1 _ _ (by omega)).1.trans z0⟩
  · show gI _ 230 5 = i3 0; rw [gI_sI, if_neg (by omega), gI_sI, if_pos ⟨rfl, rfl⟩]; rfl
  · show gI _ 230 3 = i3 0; rw [gI_sI, if_neg (by omega), gI_sI, if_neg (by omega), gI_sI, if_pos ⟨rfl, rfl⟩]; rfl
theorem rpress {s : xS} {A : aA} {b : Int64} (hA : VA A) (hr : qR A = 0) (h : RV s A) : tm_press_ok s b ∧ fr Prr s (tm_press s b).2 ∧ (tm_press s b).1 = i3 (aPrs b 8 0 A).1 ∧ RV (tm_press s b).2 (aPrs b 8 0 A).2 ∧ gI (tm_press s b).2 230 0 = 0 := by
  have r0 : gI s 230 9 ≤ 0 := by rw [h.2.2.1, hr]; decide
  rw [tm_press_eq]
  unfold tm_press_ok tm_press_d
  rw [decide_eq_true r0]
  have e : zb (!true) = 0 := rfl
  rw [e]
  obtain ⟨f0, h0, z0⟩ := RV_0 (v := 0) hA h
  generalize sI s 230 0 0 = t at *
  obtain ⟨p1, p2, p3, p4, p5⟩ := rpress_18 b xfu 0 t A (by omega) (by rw [xfu_eq]; omega) hr hA h0
  exact ⟨p1, fr_trans f0 (Pkr_rr p2), p3, p4, p5.trans z0⟩
theorem rrun {s : xS} {A : aA} {m : Nat} (hA : VA A) (hm : m ≤ 500) (h : RV s A) : tm_run_ok s (i3 m) ∧ fr Prr s (tm_run s (i3 m)).2 ∧ (tm_run s (i3 m)).1 = zb (!decide (qR (aRuns m A) = 0)) ∧ RV (tm_run s (i3 m)).2 (aRuns m A) ∧ gI (tm_run s (i3 m)).2 230 0 = 0 := by
  rw [tm_run_eq]
  unfold tm_run_ok tm_run_d
  have c0 : ¬ i3 (m : Int) < 0 := by rw [i3_lit, i3_lt (by omega)]; omega
  have c1 : i3 (m : Int) ≤ 500 := by rw [i3_lit, i3_le (by omega)]; omega
  rw [decide_eq_false c0, decide_eq_true c1]
  have e : zb (false || !true) = 0 := rfl
  rw [e]
  obtain ⟨f0, h0, z0⟩ := RV_0 (v := 0) hA h
  generalize sI s 230 0 0 = t at *
  obtain ⟨p1, p2, p3, p4, p5⟩ := rrun_22 m hm xfu 0 t A (by omega) (by rw [xfu_eq]; omega) hA h0 z0
  exact ⟨p1, fr_trans f0 (Pre_rr p2), p3, p4, (p2.1 _ _ (by unfold Pre; omega)).1.trans z0⟩
theorem RV_D {A : aA} {D : aD} {s t : xS} (f : fr (Pb 0) s t) (hA : VA A) (h : RV s A) (hd : rD t 0 D) : RV t (zD A D) := by
  have nb : ∀ b j, ¬ ((b = 231 ∧ j < 80) ∨ (b = 232 ∧ j < 24)) → ¬ Pb 0 b j := fun b j w => by unfold Pb; omega
  obtain ⟨q1, q2, q3, q4, q5, q6, q7, q8, q9, q10⟩ := h
  exact ⟨⟨hd, (f.1 _ _ (nb _ _ (by omega))).1.trans q1.2⟩, RVf_fr f (nb _ _ (by omega)) q2, RVr_fr f (nb _ _ (by omega)) q3, RVh_fr f (fun j w => nb _ _ (by omega)) (fun j w => nb _ _ (by omega)) (nb _ _ (by omega)) hA.2.1 q4, RVp_fr f (fun j => nb _ _ (by omega)) q5, RVe_fr f (nb _ _ (by omega)) (nb _ _ (by omega)) (fun j => nb _ _ (by omega)) q6, RVs_fr f (fun j w => nb _ _ (by omega)) (fun b j w => nb _ _ (by omega)) q7, RVl_fr f (fun j w => nb _ _ (by omega)) q8, RVt_fr f (nb _ _ (by omega)) (fun j => nb _ _ (by omega)) q9, RVo_fr f (nb _ _ (by omega)) (fun j => nb _ _ (by omega)) q10⟩
theorem rstop {s : xS} {A : aA} (hA : VA A) (h : RV s A) : tm_stop_ok s ∧ fr Prr s (tm_stop s).2 ∧ (tm_stop s).1 = (!decide (qR A = 0)) ∧ RV (tm_stop s).2 (aStop A) := by
  have hrr := hA.1.2.2.2
  have c0 : (gI s 230 9 = 0) = (qR A = 0) := by rw [h.2.2.1, i3_lit, i3_eq (by omega)]
  have c2 : (gI s 230 9 = 2) = (qR A = 2) := by rw [h.2.2.1, i3_lit, i3_eq (by omega)]
  rw [tm_stop_eq]
  unfold tm_stop_ok tm_stop_d aStop
  simp only [c0, c2]
  obtain ⟨f0, h0, z0⟩ := RV_0 (v := 0) hA h
  generalize sI s 230 0 0 = t at *
  by_cases g0 : qR A = 0
  · rw [if_neg (show ¬ ¬ qR A = 0 from fun q => q g0), if_neg (show ¬ qR A = 2 by omega), decide_eq_true g0]
    refine ⟨fun q => absurd g0 q, f0, rfl, ?_⟩
    have : zR A 0 = A := by
      have e : A.2.1.2.2 = 0 := g0
      obtain ⟨D, ⟨m, f, r⟩, R⟩ := A
      have e' : r = 0 := e
      subst e'; rfl
    rw [this]; exact h0
  · rw [if_pos (show ¬ qR A = 0 from g0), decide_eq_false g0]
    by_cases g : qR A = 2
    · rw [if_neg (show ¬ ¬ qR A = 2 from fun q => q g), if_pos g]
      have vS := hA.2.1.2.2 g
      obtain ⟨p1, p2, p3⟩ := rcopy t (f := 7) (i := 0) (by omega) (by omega) (by omega)
      have p1' : tm_copy_ok t 7 0 := p1
      have p2' : fr (Pb 0) t (tm_copy t 7 0) := p2
      have p3' : rD (tm_copy t 7 0) 0 (qS A) := p3 _ vS (h0.2.2.2.1.2.2 g)
      have hA' : VA (zD A (qS A)) := ⟨⟨vS, hA.1.2⟩, hA.2.1, hA.2.2.1, hA.2.2.2.1, hA.2.2.2.2.1, hA.2.2.2.2.2⟩
      exact ⟨fun _ _ => p1', fr_sI (fr_trans f0 (fr_mono p2' (fun b j q => by unfold Pb at q; unfold Prr; omega))) (by unfold Prr; omega), rfl, RV_end hA' (RV_D p2' hA h0 p3')⟩
    · rw [if_pos (show ¬ qR A = 2 from g), if_neg g]
      exact ⟨fun _ q => absurd q g, fr_sI f0 (by unfold Prr; omega), rfl, RV_end hA h0⟩
theorem rsolve {s : xS} {A : aA} {k : Int} (hA : VA A) (hr : qR A = 0) (hm : qM A = 0) (hk : 0 ≤ k ∧ k ≤ 7) (h : RV s A) : tm_solve_ok s (i3 k) ∧ fr Prr s (tm_solve s (i3 k)).2 ∧ (tm_solve s (i3 k)).1 = i3 (aSolve k A).1 ∧ RV (tm_solve s (i3 k)).2 (aSolve k A).2 ∧ gI (tm_solve s (i3 k)).2 230 0 = 0 := by
  have hv := hA.1.1
  have r0 : gI s 230 9 ≤ 0 := by rw [h.2.2.1, hr]; decide
  have m0 : ¬ gI s 230 4 = 1 := by rw [h.1.2, hm]; decide
  have c0 : ¬ i3 k < 0 := by rw [i3_lit, i3_lt (by omega)]; omega
  have c7 : i3 k ≤ 7 := by rw [i3_lit, i3_le (by omega)]; omega
  rw [tm_solve_eq]
  unfold tm_solve_ok tm_solve_d aSolve
  have e : (if gI s 230 9 ≤ 0 then (if gI s 230 4 = 1 then (2 : Int32) else (if i3 k < 0 then (3 : Int32) else (if i3 k ≤ 7 then (0 : Int32) else 3))) else 1) = 0 := by rw [if_pos r0, if_neg m0, if_neg c0, if_pos c7]
  rw [e, if_pos (show (0 : Int32) ≤ 0 by decide)]
  obtain ⟨f0, h0, z0⟩ := RV_0 (v := 0) hA h
  generalize sI s 230 0 0 = t at *
  obtain ⟨l1, l2⟩ := rlab (k := k) (s := t) h0.2.2.2.2.1 hA.2.2.1 (by omega)
  have lr := aLab_rng (qC A) k
  rw [l2]
  have cl : ((0 : Int32) ≤ i3 (aLab (qC A) k)) = (¬ aLab (qC A) k < 0) := by rw [i3_lit, i3_le (by omega)]; apply propext; omega
  simp only [cl]
  by_cases g : aLab (qC A) k < 0
  · rw [if_neg (show ¬ ¬ _ from fun q => q g), if_pos g]
    exact ⟨fun _ => ⟨l1, fun q => absurd g q⟩, fr_sI f0 (by unfold Prr; omega), rfl, RV_f hA h0, by rw [gI_sI, if_neg (by omega)]; exact z0⟩
  · rw [if_pos (show ¬ _ from g), if_neg g]
    obtain ⟨p1, p2, p3⟩ := rcopy t (f := 0) (i := 7) (by omega) (by omega) (by omega)
    have p1' : tm_copy_ok t 0 7 := p1
    have p2' : fr (fun b j => (b = 231 ∧ 560 ≤ j ∧ j < 640) ∨ (b = 232 ∧ 168 ≤ j ∧ j < 192)) t (tm_copy t 0 7) := fr_mono p2 (fun b j q => by unfold Pb at q; omega)
    have p3' : rD (tm_copy t 0 7) 7 (qD A) := p3 _ hv h0.1.1
    generalize tm_copy t 0 7 = u at *
    have f1 : fr (fun b j => b = 230 ∧ (j = 5 ∨ j = 9 ∨ j = 11 ∨ j = 13)) u (sI (sI (sI (sI u 230 5 0) 230 9 2) 230 11 (i3 k)) 230 13 0) := fr_sI (fr_sI (fr_sI (fr_sI (fr_refl ..) (by omega)) (by omega)) (by omega)) (by omega)
    have e5 : gI (sI (sI (sI (sI u 230 5 0) 230 9 2) 230 11 (i3 k)) 230 13 0) 230 5 = 0 := by rw [gI_sI, if_neg (by omega), gI_sI, if_neg (by omega), gI_sI, if_neg (by omega), gI_sI, if_pos ⟨rfl, rfl⟩]
    have e9 : gI (sI (sI (sI (sI u 230 5 0) 230 9 2) 230 11 (i3 k)) 230 13 0) 230 9 = 2 := by rw [gI_sI, if_neg (by omega), gI_sI, if_neg (by omega), gI_sI, if_pos ⟨rfl, rfl⟩]
    have e11 : gI (sI (sI (sI (sI u 230 5 0) 230 9 2) 230 11 (i3 k)) 230 13 0) 230 11 = i3 k := by rw [gI_sI, if_neg (by omega), gI_sI, if_pos ⟨rfl, rfl⟩]
    have e13 : gI (sI (sI (sI (sI u 230 5 0) 230 9 2) 230 11 (i3 k)) 230 13 0) 230 13 = 0 := by rw [gI_sI, if_pos ⟨rfl, rfl⟩]
    have f2 : fr (fun b j => (b = 231 ∧ 560 ≤ j ∧ j < 640) ∨ (b = 232 ∧ 168 ≤ j ∧ j < 192) ∨ (b = 230 ∧ (j = 5 ∨ j = 9 ∨ j = 11 ∨ j = 13))) t (sI (sI (sI (sI u 230 5 0) 230 9 2) 230 11 (i3 k)) 230 13 0) := fr_trans (fr_mono p2' (fun b j q => by omega)) (fr_mono f1 (fun b j q => by omega))
    have d7 : rD (sI (sI (sI (sI u 230 5 0) 230 9 2) 230 11 (i3 k)) 230 13 0) 7 (qD A) := rD_fr f1 (fun m _ _ => by omega) (fun m _ _ => by omega) hv p3'
    generalize sI (sI (sI (sI u 230 5 0) 230 9 2) 230 11 (i3 k)) 230 13 0 = v at *
    have d0 : rD v 0 (qD A) := rD_fr f2 (fun m _ _ => by omega) (fun m _ _ => by omega) hv h0.1.1
    obtain ⟨n1, n2, n3⟩ := rnote (i := 11) (k := 0) (by omega) (by omega) (d0.1 11 (by omega))
    have n1' : tm_note_ok v 11 0 := n1
    have n2' : fr (fun b j => (235 ≤ b ∧ b ≤ 237) ∧ j = 0) v (tm_note v 11 0) := n2
    have n3' : rW (tm_note v 11 0) 0 (dN (qD A) 11) := n3
    generalize tm_note v 11 0 = x at *
    have d0x : rD x 0 (qD A) := rD_fr n2' (fun m _ _ => by omega) (fun m _ _ => by omega) hv d0
    obtain ⟨o1, o2, o3⟩ := rnote (i := 10) (k := 1) (by omega) (by omega) (d0x.1 10 (by omega))
    have o1' : tm_note_ok x 10 1 := o1
    have o2' : fr (fun b j => (235 ≤ b ∧ b ≤ 237) ∧ j = 1) x (tm_note x 10 1) := o2
    have o3' : rW (tm_note x 10 1) 1 (dN (qD A) 10) := o3
    generalize tm_note x 10 1 = y at *
    have w0 : rW y 0 (dN (qD A) 11) := ⟨(o2'.1 _ _ (by omega)).1.trans n3'.1, (o2'.1 _ _ (by omega)).2.trans n3'.2.1, (o2'.1 _ _ (by omega)).1.trans n3'.2.2⟩
    have fvy : fr (fun b j => 235 ≤ b ∧ b ≤ 237) v y := fr_trans (fr_mono n2' (fun b j q => q.1)) (fr_mono o2' (fun b j q => q.1))
    have fty : fr (fun b j => (b = 231 ∧ 560 ≤ j ∧ j < 640) ∨ (b = 232 ∧ 168 ≤ j ∧ j < 192) ∨ (b = 230 ∧ (j = 5 ∨ j = 9 ∨ j = 11 ∨ j = 13)) ∨ (235 ≤ b ∧ b ≤ 237)) t y := fr_trans (fr_mono f2 (fun b j q => by omega)) (fr_mono fvy (fun b j q => by omega))
    obtain ⟨q1, q2, q3, q4, q5, q6, q7, q8, q9, q10⟩ := h0
    have hK := hA.2.1.1
    obtain ⟨t1, t2, t3⟩ := rtk (s := y) (A := zR (zS (zF (zW A 0 k (qW A)) 0) (qD A)) 2) (k := 0) (n := dN (qD A) 11) (w := aSw A) hv ⟨hA.2.1.1, hA.2.1.2.1, fun _ => hv⟩ hA.2.2.1 hk rfl (by omega) ⟨(fty.1 _ _ (by omega)).1.trans q1.2, (fvy.1 _ _ (by omega)).1.trans e5, RVp_fr fty (fun j => by omega) q5, RVl_fr fty (fun j w => by omega) q8, RVt_fr fty (by omega) (fun j => by omega) q9, RVo_fr fty (by omega) (fun j => by omega) q10⟩ ⟨(fty.1 _ _ (by omega)).1.trans q4.1, fun j j1 j2 => rD_fr fty (fun m _ _ => by have : j ≤ qK A := j2; omega) (fun m _ _ => by have : j ≤ qK A := j2; omega) (hA.2.1.2.1 j j1 j2) (q4.2.1 j j1 j2), fun _ => rD_fr fvy (fun m _ _ => by omega) (fun m _ _ => by omega) hv d7⟩ ((fvy.1 _ _ (by omega)).1.trans e9) (rD_fr fvy (fun m _ _ => by omega) (fun m _ _ => by omega) hv d0) ((fvy.1 _ _ (by omega)).1.trans e13) ((fvy.1 _ _ (by omega)).1.trans e11) (hv.1 11 (by omega)) w0 w0 o3' (fun q => absurd q (by show ¬ 2 ≤ 0; omega)) (fun q => absurd q (by show ¬ 1 ≤ 0; omega)) (fun q => absurd q (by show ¬ 2 ≤ 0; omega)) rfl
    have t1' : tm_take_ok y 0 := t1
    have t2' : fr Pre y (tm_take y 0) := t2
    exact ⟨fun _ => ⟨l1, fun _ => ⟨p1', n1', o1', t1'⟩⟩, fr_trans f0 (fr_trans (fr_mono fty (fun b j q => by unfold Prr; omega)) (Pre_rr t2')), rfl, t3, ((t2'.1 _ _ (by unfold Pre; omega)).1.trans (fty.1 _ _ (by omega)).1).trans z0⟩
theorem rdigits {s : xS} {A : aA} {w : Nat} (hA : VA A) (hw : w < 15) (h : RV s A) : tm_digits_ok s (i3 w) ∧ fr Prr s (tm_digits s (i3 w)).2 ∧ (tm_digits s (i3 w)).1 = j6 (dN (qD A) w).1 ∧ RV (tm_digits s (i3 w)).2 A ∧ gI (tm_digits s (i3 w)).2 230 0 = 0 := by
  rw [tm_digits_eq]
  unfold tm_digits_ok tm_digits_d tm_noNumber
  have c0 : ¬ i3 (w : Int) < 0 := by rw [i3_lit, i3_lt (by omega)]; omega
  have c1 : i3 (w : Int) ≤ 14 := by rw [i3_lit, i3_le (by omega)]; omega
  rw [decide_eq_false c0, decide_eq_true c1]
  have e : zb (false || !true) = 0 := rfl
  rw [e, if_pos (show (0 : Int32) ≤ 0 by decide), i3_natN (by omega)]
  obtain ⟨f0, h0, z0⟩ := RV_0 (v := 0) hA h
  obtain ⟨b1, b2, b3⟩ := rN_rB (h.1.1.1 w hw)
  refine ⟨fun _ => ⟨by rw [i3_inN (by omega)]; omega, by rw [i3_inN (by omega)]; omega⟩, f0, ?_, h0, z0⟩
  have hs := sgn_rng (dN (qD A) w).1
  have b1' : gI s 231 w = i3 (dN (qD A) w).1.sign := b1
  have b2' : gJ s 232 w = j6 (dN (qD A) w).1.natAbs := b2
  dsimp only
  rw [b1', b2', i3_long (by omega), j6_mul]
  exact congrArg j6 (sgn_abs _).symm
theorem rexponent {s : xS} {A : aA} {w : Nat} (hA : VA A) (hw : w < 15) (h : RV s A) : tm_exponent_ok s (i3 w) ∧ fr Prr s (tm_exponent s (i3 w)).2 ∧ (tm_exponent s (i3 w)).1 = i3 (dN (qD A) w).2 ∧ RV (tm_exponent s (i3 w)).2 A ∧ gI (tm_exponent s (i3 w)).2 230 0 = 0 := by
  rw [tm_exponent_eq]
  unfold tm_exponent_ok tm_exponent_d tm_noNumber
  have c0 : ¬ i3 (w : Int) < 0 := by rw [i3_lit, i3_lt (by omega)]; omega
  have c1 : i3 (w : Int) ≤ 14 := by rw [i3_lit, i3_le (by omega)]; omega
  rw [decide_eq_false c0, decide_eq_true c1]
  have e : zb (false || !true) = 0 := rfl
  have e2 : (23 : Int32) + i3 w = i3 (23 + w : Nat) := by rw [i3_lit, i3_add]; rfl
  rw [e, if_pos (show (0 : Int32) ≤ 0 by decide), e2, i3_natN (by omega)]
  obtain ⟨f0, h0, z0⟩ := RV_0 (v := 0) hA h
  obtain ⟨b1, b2, b3⟩ := rN_rB (h.1.1.1 w hw)
  exact ⟨fun _ => by rw [i3_inN (by omega)]; omega, f0, b3, h0, z0⟩
theorem rmode {s : xS} {A : aA} {k m : Int} (hA : VA A) (hk : 0 ≤ k ∧ k ≤ 1) (hm : 0 ≤ m ∧ m ≤ 9) (h : RV s A) : fr Prr s (tm_mode s (i3 k) (i3 m)) ∧ RV (tm_mode s (i3 k) (i3 m)) (aMode k m A) ∧ gI (tm_mode s (i3 k) (i3 m)) 230 0 = 0 := by
  rw [tm_mode_eq]
  unfold tm_mode_d
  have c0 : ¬ i3 k < 0 := by rw [i3_lit, i3_lt (by omega)]; omega
  have c1 : ¬ (1 : Int32) < i3 k := by rw [i3_lit, i3_lt (by omega)]; omega
  have c2 : ¬ i3 m < 0 := by rw [i3_lit, i3_lt (by omega)]; omega
  have c3 : i3 m ≤ 9 := by rw [i3_lit, i3_le (by omega)]; omega
  rw [decide_eq_false c0, decide_eq_false c1, decide_eq_false c2, decide_eq_true c3]
  have e : zb (false || (false || (false || !true))) = 0 := rfl
  rw [e, if_neg (show ¬ ¬ (0 : Int32) = 0 from fun q => q rfl)]
  obtain ⟨f0, h0, z0⟩ := RV_0 (v := 0) hA h
  generalize sI s 230 0 0 = t at *
  obtain ⟨q1, q2, q3, q4, q5, q6, q7, q8, q9, q10⟩ := h0
  have f : fr (fun b j => b = 230 ∧ (j = 17 ∨ j = 18)) t (sI (sI t 230 17 (i3 k)) 230 18 (i3 m)) := fr_sI (fr_sI (fr_refl ..) (by omega)) (by omega)
  refine ⟨fr_trans f0 (fr_mono f (fun b j q => by unfold Prr; omega)), ⟨RVd_fr f (fun j w => by omega) (fun j w => by omega) (by omega) hA.1.1 q1, RVf_fr f (by omega) q2, RVr_fr f (by omega) q3, RVh_fr f (fun j w => by omega) (fun j w => by omega) (by omega) hA.2.1 q4, RVp_fr f (fun j => by omega) q5, RVe_fr f (by omega) (by omega) (fun j => by omega) q6, RVs_fr f (fun j w => by omega) (fun b j w => by omega) q7, ⟨?_, by rw [gI_sI, if_pos ⟨rfl, rfl⟩]; rfl⟩, RVt_fr f (by omega) (fun j => by omega) q9, RVo_fr f (by omega) (fun j => by omega) q10⟩, (f.1 _ _ (by omega)).1.trans z0⟩
  rw [gI_sI, if_neg (by omega), gI_sI, if_pos ⟨rfl, rfl⟩]
  show i3 k = zb (decide (k = 1))
  rw [zb_dec]
  by_cases g : k = 1
  · rw [if_pos g, g]
  · rw [if_neg g, show k = 0 by omega]
theorem rstore_33 {c : Nat → Int} {p : Nat} (b : Int64) (hp : p ≤ 92) : ∀ (n i : Nat) (s : xS), i ≤ 8 → 9 ≤ n + i → gI s 230 0 = 0 → (∀ j, j < 100 → gI s 233 j = i3 (aSto c p b i j)) → tm_store_33_ok n s (i3 p) b (i3 i) ∧ fr (fun x _ => x = 233) s (tm_store_33 n s (i3 p) b (i3 i)) ∧ (∀ j, j < 100 → gI (tm_store_33 n s (i3 p) b (i3 i)) 233 j = i3 (aSto c p b 8 j)) := by
  intro n
  induction n with
  | zero => intro i s h1 h2; omega
  | succ n ih =>
    intro i s h1 h2 h0 h
    unfold tm_store_33 tm_store_33_ok
    have c1 : ((8 : Int32) ≤ i3 i) = (8 ≤ i) := by rw [i3_lit, i3_le (by omega)]; apply propext; omega
    have e1 : i3 i + 1 = i3 (i + 1 : Nat) := by rw [i3_lit, i3_add]; rfl
    have e2 : i3 p + i3 i = i3 (p + i : Nat) := by rw [i3_add]; rfl
    have e3 : (8 : Int32) * i3 i = i3 (8 * i : Nat) := by rw [i3_lit, i3_mul]; rfl
    have cz : (gI s 230 0 = 0) = True := eq_true h0
    simp only [c1, e1, e2, e3, cz, not_true_eq_false, if_false]
    by_cases g : 8 ≤ i
    · rw [if_pos g]
      have : i = 8 := by omega
      subst this
      exact ⟨fun q => absurd g q, fr_refl .., h⟩
    · rw [if_neg g, i3_natN (by omega), rbyte b (by omega)]
      obtain ⟨p1, p2, p3⟩ := ih (i + 1) (sI s 233 (p + i) (i3 (byt b i : Nat))) (by omega) (by omega) (by rw [gI_sI, if_neg (by omega)]; exact h0) (fun j hj => by
        rw [gI_sI, aSto_step]
        by_cases w : j = p + i
        · rw [if_pos ⟨rfl, w⟩, if_pos w]
        · rw [if_neg (fun q => w q.2), if_neg w]; exact h j hj)
      exact ⟨fun _ _ => ⟨by rw [i3_inN (by omega)]; omega, p1⟩, fr_trans (fr_sI (fr_refl ..) rfl) p2, p3⟩
theorem rstore {s : xS} {A : aA} {p : Nat} {b : Int64} (hA : VA A) (hr : qR A = 0) (hp : p ≤ 92) (h : RV s A) : tm_store_ok s (i3 p) b ∧ fr Prr s (tm_store s (i3 p) b) ∧ RV (tm_store s (i3 p) b) (aStore p b A) ∧ gI (tm_store s (i3 p) b) 230 0 = 0 := by
  have r0 : gI s 230 9 ≤ 0 := by rw [h.2.2.1, hr]; decide
  rw [tm_store_eq]
  unfold tm_store_ok tm_store_d
  have c0 : ¬ i3 (p : Int) < 0 := by rw [i3_lit, i3_lt (by omega)]; omega
  have c1 : i3 (p : Int) ≤ 92 := by rw [i3_lit, i3_le (by omega)]; omega
  rw [if_pos r0, if_neg c0, if_pos c1]
  obtain ⟨f0, h0, z0⟩ := RV_0 (v := 0) hA h
  generalize sI s 230 0 0 = t at *
  obtain ⟨q1, q2, q3, q4, q5, q6, q7, q8, q9, q10⟩ := h0
  obtain ⟨p1, f, p3⟩ := rstore_33 (c := qC A) b hp xfu 0 t (by omega) (by rw [xfu_eq]; omega) z0 (fun j hj => by
    have : aSto (qC A) p b 0 j = qC A j := by unfold aSto; rw [if_neg (by omega)]
    rw [this]; exact q5 j hj)
  have f' : fr (fun x _ => x = 233) t (tm_store_33 xfu t (i3 p) b 0) := f
  exact ⟨p1, fr_trans f0 (fr_mono f' (fun b j q => by unfold Prr; omega)), ⟨RVd_fr f' (fun j w => by omega) (fun j w => by omega) (by omega) hA.1.1 q1, RVf_fr f' (by omega) q2, RVr_fr f' (by omega) q3, RVh_fr f' (fun j w => by omega) (fun j w => by omega) (by omega) hA.2.1 q4, p3, RVe_fr f' (by omega) (by omega) (fun j => by omega) q6, ⟨(f'.1 _ _ (by omega)).1.trans q7.1, fun w => by have : qR A = 2 := w; omega⟩, RVl_fr f' (fun j w => by omega) q8, RVt_fr f' (by omega) (fun j => by omega) q9, RVo_fr f' (by omega) (fun j => by omega) q10⟩, (f'.1 _ _ (by omega)).1.trans z0⟩
theorem rcode {s : xS} {A : aA} {p : Nat} (hA : VA A) (hp : p < 100) (h : RV s A) : tm_code_ok s (i3 p) ∧ fr Prr s (tm_code s (i3 p)).2 ∧ (tm_code s (i3 p)).1 = i3 (qC A p) ∧ RV (tm_code s (i3 p)).2 A ∧ gI (tm_code s (i3 p)).2 230 0 = 0 := by
  rw [tm_code_eq]
  unfold tm_code_ok tm_code_d
  have c0 : ¬ i3 (p : Int) < 0 := by rw [i3_lit, i3_lt (by omega)]; omega
  have c1 : i3 (p : Int) ≤ 99 := by rw [i3_lit, i3_le (by omega)]; omega
  rw [decide_eq_false c0, decide_eq_true c1]
  have e : zb (false || !true) = 0 := rfl
  rw [e, if_pos (show (0 : Int32) ≤ 0 by decide), i3_natN (by omega)]
  obtain ⟨f0, h0, z0⟩ := RV_0 (v := 0) hA h
  exact ⟨fun _ => by rw [i3_inN (by omega)]; omega, f0, h.2.2.2.2.1 p hp, h0, z0⟩
theorem rwipe {s : xS} {A : aA} (hA : VA A) (h : RV s A) : fr Prr s (tm_wipe s).2 ∧ (tm_wipe s).1 = i3 (qTn A) ∧ RV (tm_wipe s).2 (aWipe A) := by
  rw [tm_wipe_eq]
  unfold tm_wipe_d
  have e9 := h.2.2.2.2.2.2.2.2.1.1
  obtain ⟨f0, h0, z0⟩ := RV_0 (v := 0) hA h
  generalize sI s 230 0 0 = t at *
  obtain ⟨q1, q2, q3, q4, q5, q6, q7, q8, q9, q10⟩ := h0
  have f : fr (fun b j => b = 230 ∧ j = 22) t (sI t 230 22 0) := fr_sI (fr_refl ..) ⟨rfl, rfl⟩
  exact ⟨fr_trans f0 (fr_mono f (fun b j q => by unfold Prr; omega)), e9, RVd_fr f (fun j w => by omega) (fun j w => by omega) (by omega) hA.1.1 q1, RVf_fr f (by omega) q2, RVr_fr f (by omega) q3, RVh_fr f (fun j w => by omega) (fun j w => by omega) (by omega) hA.2.1 q4, RVp_fr f (fun j => by omega) q5, RVe_fr f (by omega) (by omega) (fun j => by omega) q6, RVs_fr f (fun j w => by omega) (fun b j w => by omega) q7, RVl_fr f (fun j w => by omega) q8, ⟨by show gI _ 230 22 = i3 0; rw [gI_sI, if_pos ⟨rfl, rfl⟩]; rfl, fun i hi => absurd hi (Nat.not_lt_zero i)⟩, RVo_fr f (by omega) (fun j => by omega) q10⟩
theorem rundo {s : xS} {A : aA} (hA : VA A) (hr : qR A = 0) (h : RV s A) : tm_undo_ok s ∧ fr Prr s (tm_undo s).2 ∧ (tm_undo s).1 = (aUndo A).1 ∧ RV (tm_undo s).2 (aUndo A).2 ∧ gI (tm_undo s).2 230 0 = 0 := by
  have r0 : gI s 230 9 ≤ 0 := by rw [h.2.2.1, hr]; decide
  have hK := hA.2.1.1
  rw [tm_undo_eq]
  unfold tm_undo_ok tm_undo_d aUndo
  rw [decide_eq_true r0]
  have e : zb (!true) = 0 := rfl
  have c0 : (gI s 230 3 = 0) = (qK A = 0) := by rw [h.2.2.2.1.1, i3_lit, i3_eq (by omega)]; apply propext; omega
  simp only [c0]
  rw [e, if_neg (show ¬ (0 : Int32) < 0 by decide), h.2.2.2.1.1]
  obtain ⟨f0, h0, z0⟩ := RV_0 (v := 0) hA h
  generalize sI s 230 0 0 = t at *
  by_cases g : qK A = 0
  · rw [if_neg (show ¬ ¬ _ from fun q => q g), if_pos g]
    exact ⟨fun _ q => absurd g q, f0, rfl, h0, z0⟩
  · rw [if_pos (show ¬ _ from g), if_neg g]
    obtain ⟨p1, p2, p3⟩ := rcopy t (f := qK A) (i := 0) (by omega) (by omega) (by omega)
    have p1' : tm_copy_ok t (i3 (qK A)) 0 := p1
    have p2' : fr (Pb 0) t (tm_copy t (i3 (qK A)) 0) := p2
    have vD' := hA.2.1.2.1 (qK A) (by omega) (by omega)
    have p3' : rD (tm_copy t (i3 (qK A)) 0) 0 (qH A (qK A)) := p3 _ vD' (h0.2.2.2.1.2.1 (qK A) (by omega) (by omega))
    have h1 := RV_D p2' hA h0 p3'
    have z1 := (p2'.1 230 0 (by unfold Pb; omega)).1.trans z0
    generalize tm_copy t (i3 (qK A)) 0 = u at *
    obtain ⟨q1, q2, q3, q4, q5, q6, q7, q8, q9, q10⟩ := h1
    have e3 : gI u 230 3 - 1 = i3 (qK A - 1 : Nat) := by
      rw [q4.1, i3_lit, i3_sub]; exact congrArg i3 (by show ((qK A : Nat) : Int) - 1 = _; omega)
    rw [e3]
    have f : fr (fun b j => b = 230 ∧ (j = 3 ∨ j = 5)) u (sI (sI u 230 3 (i3 (qK A - 1 : Nat))) 230 5 0) := fr_sI (fr_sI (fr_refl ..) (by omega)) (by omega)
    refine ⟨fun _ _ => p1', fr_trans f0 (fr_trans (fr_mono p2' (fun b j q => by unfold Pb at q; unfold Prr; omega)) (fr_mono f (fun b j q => by unfold Prr; omega))), rfl, ⟨RVd_fr f (fun j w => by omega) (fun j w => by omega) (by omega) vD' q1, by show gI _ 230 5 = i3 0; rw [gI_sI, if_pos ⟨rfl, rfl⟩]; rfl, RVr_fr f (by omega) q3, ⟨?_, fun j j1 j2 => ?_, fun w => by have : qR A = 2 := w; omega⟩, RVp_fr f (fun j => by omega) q5, RVe_fr f (by omega) (by omega) (fun j => by omega) q6, RVs_fr f (fun j w => by omega) (fun b j w => by omega) q7, RVl_fr f (fun j w => by omega) q8, RVt_fr f (by omega) (fun j => by omega) q9, RVo_fr f (by omega) (fun j => by omega) q10⟩, (f.1 _ _ (by omega)).1.trans z1⟩
    · show gI _ 230 3 = i3 (qK A - 1 : Nat)
      rw [gI_sI, if_neg (by omega), gI_sI, if_pos ⟨rfl, rfl⟩]
    · have hj : j ≤ qK A - 1 := j2
      exact rD_fr f (fun m _ _ => by omega) (fun m _ _ => by omega) (hA.2.1.2.1 j j1 (by omega)) (q4.2.1 j j1 (by show j ≤ qK A; omega))
theorem rstate {s : xS} {A : aA} {w : Int} (hw : -2147483648 ≤ w ∧ w < 2147483648) (hA : VA A) (h : RV s A) : fr Prr s (tm_state s (i3 w)).2 ∧ (tm_state s (i3 w)).1 = i3 (aState w A) ∧ RV (tm_state s (i3 w)).2 A := by
  have e : ∀ n : Nat, n < 100 → (i3 w = (OfNat.ofNat n : Int32)) = (w = (OfNat.ofNat n : Int)) := fun n hn => by rw [i3_lit, i3_eq (by show _ ∧ _ ∧ (-2147483648 : Int) ≤ (n : Int) ∧ (n : Int) < 2147483648; omega)]
  have e0 : (i3 w = 0) = (w = 0) := e 0 (by omega)
  have e1 : (i3 w = 1) = (w = 1) := e 1 (by omega)
  have e2 : (i3 w = 2) = (w = 2) := e 2 (by omega)
  have e3 : (i3 w = 3) = (w = 3) := e 3 (by omega)
  have e4 : (i3 w = 4) = (w = 4) := e 4 (by omega)
  have e5 : (i3 w = 5) = (w = 5) := e 5 (by omega)
  have e6 : (i3 w = 6) = (w = 6) := e 6 (by omega)
  have e7 : (i3 w = 7) = (w = 7) := e 7 (by omega)
  have e8 : (i3 w = 8) = (w = 8) := e 8 (by omega)
  have e9 : (i3 w = 9) = (w = 9) := e 9 (by omega)
  have e10 : (i3 w = 10) = (w = 10) := e 10 (by omega)
  have hrr := hA.1.2.2.2
  have r0 : (gI s 230 9 = 0) = (qR A = 0) := by rw [h.2.2.1, i3_lit, i3_eq (by omega)]
  have r1 : (gI s 230 9 ≤ 0) = (qR A = 0) := by rw [h.2.2.1, i3_lit, i3_le (by omega)]; apply propext; omega
  obtain ⟨f0, h0, z0⟩ := RV_0 (v := 0) hA h
  obtain ⟨q1, q2, q3, q4, q5, q6, q7, q8, q9, q10⟩ := h
  rw [tm_state_eq]
  unfold tm_state_d aState
  simp only [e0, e1, e2, e3, e4, e5, e6, e7, e8, e9, e10, r0, r1]
  have ok : ∀ {v : Int32} {c : Int}, v = i3 c → fr Prr s (v, sI s 230 0 0).2 ∧ (v, sI s 230 0 0).1 = i3 c ∧ RV (v, sI s 230 0 0).2 A := fun hv => ⟨f0, hv, h0⟩
  by_cases g0 : w = 0
  · rw [if_pos g0, if_pos g0]; exact ok q1.2
  · rw [if_neg g0, if_neg g0]
    by_cases g1 : w = 1
    · rw [if_pos g1, if_pos g1]; exact ok q2
    · rw [if_neg g1, if_neg g1]
      by_cases g2 : w = 2
      · rw [if_pos g2, if_pos g2]; exact ok q3
      · rw [if_neg g2, if_neg g2]
        by_cases g3 : w = 3
        · rw [if_pos g3, if_pos g3]
          refine ok ?_
          by_cases gr : qR A = 0
          · rw [if_pos gr, if_pos gr]; rfl
          · rw [if_neg gr, if_neg gr, (q6 gr).1]
            obtain ⟨a1, a2, a3⟩ := hA.2.2.2.1 gr
            have c : (i3 (qAt A) ≤ 100) = (qAt A ≤ 100) := by rw [i3_lit, i3_le (by omega)]
            simp only [c]
            by_cases ga : qAt A ≤ 100
            · rw [if_pos ga, if_pos ga]
            · rw [if_neg ga, if_neg ga]; rfl
        · rw [if_neg g3, if_neg g3]
          by_cases g4 : w = 4
          · rw [if_pos g4, if_pos g4]
            refine ok ?_
            by_cases gr : qR A = 0
            · rw [if_pos gr, if_pos gr]; rfl
            · rw [if_neg gr, if_neg gr]; exact (q6 gr).2.1
          · rw [if_neg g4, if_neg g4]
            by_cases g5 : w = 5
            · rw [if_pos g5, if_pos g5]; exact ok q1.1.2.2.2.1.1
            · rw [if_neg g5, if_neg g5]
              by_cases g6 : w = 6
              · rw [if_pos g6, if_pos g6]; exact ok q1.1.2.2.2.1.2
              · rw [if_neg g6, if_neg g6]
                have zz : ∀ {v : Int32} {b : Bool}, v = zb b → v = i3 (bif b then 1 else 0) := by
                  intro v b hv; rw [hv]; cases b <;> rfl
                by_cases g7 : w = 7
                · rw [if_pos g7, if_pos g7]; exact ok (zz q1.1.2.2.2.2.2.1)
                · rw [if_neg g7, if_neg g7]
                  by_cases g8 : w = 8
                  · rw [if_pos g8, if_pos g8]; exact ok (zz q1.1.2.2.2.2.1)
                  · rw [if_neg g8, if_neg g8]
                    by_cases g9 : w = 9
                    · rw [if_pos g9, if_pos g9]; exact ok q4.1
                    · rw [if_neg g9, if_neg g9]
                      by_cases g10 : w = 10
                      · rw [if_pos g10, if_pos g10]; exact ok q7.1
                      · rw [if_neg g10, if_neg g10]; exact ok rfl
