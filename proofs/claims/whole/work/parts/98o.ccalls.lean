/-! THE CALLS: what they do -/
def aClr (D : aD) : aD := sLi (sOn (sP (sSz (sN (sN (sN (sN (sN D 10 (0, 0)) 11 (0, 0)) 12 (0, 0)) 13 (0, 0)) 14 (0, 0)) 0) 0) false) false
def aModel (m : Int) (A : aA) : aA := zM (zF (zH (zD A (aClr (qD A))) 0 (qH A)) 0) m
def aStop (A : aA) : aA := zR (if qR A = 2 then zD A (qS A) else A) 0
def aSw (A : aA) : Nat → Int × Int := fun i => if i = 0 then dN (qD A) 11 else if i = 1 then dN (qD A) 10 else qW A i
def aSolve (k : Int) (A : aA) : Int × aA := if aLab (qC A) k < 0 then (7, zF A 7) else (0, aTk (zR (zS (zF (zW A 0 k (qW A)) 0) (qD A)) 2) (dN (qD A) 11) (aSw A))
def aMode (k m : Int) (A : aA) : aA := zL A (decide (k = 1)) m
def aSto (c : Nat → Int) (p : Nat) (b : Int64) (n : Nat) : Nat → Int := fun j => if p ≤ j ∧ j < p + n then (byt b (j - p) : Int) else c j
def aStore (p : Nat) (b : Int64) (A : aA) : aA := zC A (aSto (qC A) p b 8)
def aWipe (A : aA) : aA := zT A 0 (qTx A)
def aUndo (A : aA) : Bool × aA := if qK A = 0 then (false, A) else (true, zF (zH (zD A (qH A (qK A))) (qK A - 1) (qH A)) 0)
def aState (w : Int) (A : aA) : Int :=
  if w = 0 then qM A else if w = 1 then qF A else if w = 2 then qR A
  else if w = 3 then (if qR A = 0 then -1 else if qAt A ≤ 100 then qAt A else 100)
  else if w = 4 then (if qR A = 0 then 0 else qCg A)
  else if w = 5 then dS (qD A) else if w = 6 then dP (qD A)
  else if w = 7 then (bif dOn (qD A) then 1 else 0) else if w = 8 then (bif dLi (qD A) then 1 else 0)
  else if w = 9 then qK A else if w = 10 then qV A else -1
theorem aClr_v {D : aD} (h : vD D) : vD (aClr D) := by
  have z : vN ((0, 0) : Int × Int) := Or.inl ⟨rfl, rfl⟩
  have h1 := vD_sN (i := 14) (vD_sN (i := 13) (vD_sN (i := 12) (vD_sN (i := 11) (vD_sN (i := 10) h z) z) z) z) z
  exact vD_sLi (vD_shut (vD_sP (vD_size (n := 0) (Nat.zero_le _) h1) (by omega)))
theorem VA_model {A : aA} {m : Int} (hA : VA A) (hr : qR A = 0) (hm : m = 0 ∨ m = 1) : VA (aModel m A) := by
  obtain ⟨h1, h2, h3, h4, h5, h6⟩ := hA
  exact ⟨⟨aClr_v h1.1, hm, by show (0 : Int) ≤ 0 ∧ (0 : Int) ≤ 9; omega, h1.2.2.2⟩, ⟨by show 0 ≤ 5; omega, fun j j1 j2 => by have : j ≤ 0 := j2; omega, fun q => by have : qR A = 2 := q; omega⟩, h3, fun q => absurd hr q, ⟨h5.1, fun q => by have : qR A = 2 := q; omega⟩, h6⟩
theorem VA_stop {A : aA} (hA : VA A) : VA (aStop A) := by
  unfold aStop
  by_cases g : qR A = 2
  · rw [if_pos g]
    exact VA_end (B := zD A (qS A)) ⟨⟨hA.2.1.2.2 g, hA.1.2⟩, hA.2.1, hA.2.2.1, hA.2.2.2.1, hA.2.2.2.2.1, hA.2.2.2.2.2⟩
  · rw [if_neg g]; exact VA_end hA
theorem VA_F {A : aA} {c : Int} (hA : VA A) (hc : 0 ≤ c ∧ c ≤ 9) : VA (zF A c) := by
  obtain ⟨h1, h2, h3, h4, h5, h6⟩ := hA
  exact ⟨⟨h1.1, h1.2.1, hc, h1.2.2.2⟩, h2, h3, h4, h5, h6⟩
theorem VA_solve {A : aA} {k : Int} (hA : VA A) (hr : qR A = 0) (hm : qM A = 0) (hk : 0 ≤ k ∧ k ≤ 7) : VA (aSolve k A).2 := by
  unfold aSolve
  by_cases g : aLab (qC A) k < 0
  · rw [if_pos g]; exact VA_F hA (by omega)
  · rw [if_neg g]
    obtain ⟨h1, h2, h3, h4, h5, h6⟩ := hA
    have v0 := h1.1.1 11 (by omega)
    have v1 := h1.1.1 10 (by omega)
    have hl := aLab_rng (qC A) k
    refine ⟨⟨aFil_v h1.1 v0, h1.2.1, by show (0 : Int) ≤ 0 ∧ (0 : Int) ≤ 9; omega, by show (0 : Int) ≤ 2 ∧ (2 : Int) ≤ 2; omega⟩, ⟨h2.1, h2.2.1, fun _ => h1.1⟩, h3, fun _ => ⟨?_, ?_, fun i hi => absurd hi (Nat.not_lt_zero i)⟩, ⟨by show 0 + 1 ≤ 100; omega, fun _ => ⟨by show 1 ≤ 0 + 1; omega, hm, hk, by show 0 ≤ aLab (qC A) k; omega, v0, v1, fun q => absurd q (by show ¬ 3 ≤ 0 + 1; omega), fun q => absurd q (by show ¬ 2 ≤ 0 + 1; omega), fun q => absurd q (by show ¬ 3 ≤ 0 + 1; omega)⟩⟩, h6⟩
    · show 0 ≤ aLab (qC A) k + 1 ∧ aLab (qC A) k + 1 ≤ 101; omega
    · show 0 ≤ 4; omega
theorem VA_mode {A : aA} {k m : Int} (hA : VA A) (hm : 0 ≤ m ∧ m ≤ 9) : VA (aMode k m A) := by
  obtain ⟨h1, h2, h3, h4, h5, h6⟩ := hA
  exact ⟨h1, h2, h3, h4, h5, hm, h6.2⟩
theorem VA_store {A : aA} {p : Nat} {b : Int64} (hA : VA A) (hr : qR A = 0) : VA (aStore p b A) := by
  obtain ⟨h1, h2, h3, h4, h5, h6⟩ := hA
  refine ⟨h1, h2, fun i hi => ?_, h4, ⟨h5.1, fun q => by have : qR A = 2 := q; omega⟩, h6⟩
  show 0 ≤ aSto (qC A) p b 8 i ∧ aSto (qC A) p b 8 i ≤ 255
  unfold aSto
  have := byt_lt b (i - p)
  have := h3 i hi
  split <;> omega
theorem VA_wipe {A : aA} (hA : VA A) : VA (aWipe A) := by
  obtain ⟨h1, h2, h3, h4, h5, h6⟩ := hA
  exact ⟨h1, h2, h3, h4, h5, h6.1, by show 0 ≤ 40; omega, fun i hi => absurd hi (Nat.not_lt_zero i), h6.2.2.2⟩
theorem VA_undo {A : aA} (hA : VA A) (hr : qR A = 0) : VA (aUndo A).2 := by
  unfold aUndo
  by_cases g : qK A = 0
  · rw [if_pos g]; exact hA
  · rw [if_neg g]
    obtain ⟨h1, h2, h3, h4, h5, h6⟩ := hA
    exact ⟨⟨h2.2.1 _ (by omega) (by omega), h1.2.1, by show (0 : Int) ≤ 0 ∧ (0 : Int) ≤ 9; omega, h1.2.2.2⟩, ⟨by show qK A - 1 ≤ 5; have := h2.1; omega, fun j j1 j2 => h2.2.1 j j1 (by have : j ≤ qK A - 1 := j2; omega), fun q => by have : qR A = 2 := q; omega⟩, h3, h4, h5, h6⟩
/-! the class -/
theorem cmodel {s : xS} {A : aA} {m : Int} (hA : VA A) (hr : qR A = 0) (hm : m = 0 ∨ m = 1) (h : CV s A) : te_model_ok s (i3 m) ∧ fr Pcl s (te_model s (i3 m)) ∧ CV (te_model s (i3 m)) (aModel m A) := by
  obtain ⟨q1, q2, q3, ⟨nx, q4⟩, q5, q6, q7, q8, q9, q10⟩ := h
  have r0 : gI s 0 6 = 0 := by rw [q3, hr]; rfl
  have hv := hA.1.1
  have core : te_model_32_ok s (i3 m) ∧ fr Pcl s (te_model_32 s (i3 m)) ∧ CV (te_model_32 s (i3 m)) (aModel m A) := by
    rw [te_model_32_eq]
    unfold te_model_32_ok te_model_32_d
    have f0 : fr (fun b j => b = 1 ∧ (j = 2 ∨ j = 3)) s (sI (sI s 1 2 (i3 m)) 1 3 0) := fr_sI (fr_sI (fr_refl ..) ⟨rfl, Or.inl rfl⟩) ⟨rfl, Or.inr rfl⟩
    have d0 : cD (sI (sI s 1 2 (i3 m)) 1 3 0) 2 (qD A) := cD_fr f0 (fun b j _ _ => by omega) q1.1 hv.2.2.2.1
    have e2 : gI (sI (sI s 1 2 (i3 m)) 1 3 0) 1 2 = i3 m := by rw [gI_sI, if_neg (by omega), gI_sI, if_pos ⟨rfl, rfl⟩]
    have e3 : gI (sI (sI s 1 2 (i3 m)) 1 3 0) 1 3 = 0 := by rw [gI_sI, if_pos ⟨rfl, rfl⟩]
    generalize sI (sI s 1 2 (i3 m)) 1 3 0 = t at *
    obtain ⟨y1, y2, y3⟩ := cclear hv d0
    rw [hi_forget_eq]
    unfold hi_forget_d
    generalize dk_clear t = u at *
    have f1 : fr (fun b j => b = 47 ∧ j = 0) u (sI u 47 0 0) := fr_sI (fr_refl ..) ⟨rfl, rfl⟩
    have f : fr (fun b j => (b = 1 ∧ (j = 2 ∨ j = 3)) ∨ Pc b j ∨ (b = 47 ∧ j = 0)) s (sI u 47 0 0) := fr_trans (fr_mono f0 (fun b j q => Or.inl q)) (fr_trans (fr_mono y2 (fun b j q => Or.inr (Or.inl q))) (fr_mono f1 (fun b j q => Or.inr (Or.inr q))))
    refine ⟨y1, fr_mono f (fun b j q => by unfold Pc at q; unfold Pcl; omega), ⟨cD_fr f1 (fun b j _ _ => by omega) y3 (aClr_v hv).2.2.2.1, ?_, cN_fr f (by unfold Pc; omega) (by unfold Pc; omega) q1.2.2.1, cN_fr f (by unfold Pc; omega) (by unfold Pc; omega) q1.2.2.2⟩, ?_, CVr_fr f (by unfold Pc; omega) q3, ⟨nx, q4.1, ?_, ?_, fun j j1 j2 => by have : j ≤ 0 := j2; omega, fun w => by have : qR A = 2 := w; omega⟩, CVp_fr f (fun j => by unfold Pc; omega) q5, fun w => absurd hr w, ⟨(f.1 _ _ (by unfold Pc; omega)).1.trans q7.1, fun w => by have : qR A = 2 := w; omega⟩, CVl_fr f (fun j w => by unfold Pc; omega) q8, CVt_fr f (by unfold Pc; omega) (fun j => by unfold Pc; omega) q9, CVo_fr f (by unfold Pc; omega) (fun j => by unfold Pc; omega) q10⟩
    · rw [(f1.1 _ _ (by omega)).1, (y2.1 _ _ (by unfold Pc; omega)).1]; exact e2
    · show gI _ 1 3 = i3 0
      rw [(f1.1 _ _ (by omega)).1, (y2.1 _ _ (by unfold Pc; omega)).1]; exact e3
    · show gI _ 47 0 = i3 0
      rw [gI_sI, if_pos ⟨rfl, rfl⟩]; rfl
    · exact (f.1 _ _ (by unfold Pc; omega)).1.trans q4.2.2.1
  rw [te_model_eq]
  unfold te_model_ok te_model_d
  rw [if_pos r0]
  have c0 : (i3 m = 0) = (m = 0) := by rw [i3_lit, i3_eq (by omega)]
  have c1 : (i3 m = 1) = (m = 1) := by rw [i3_lit, i3_eq (by omega)]
  simp only [c0, c1]
  by_cases g : m = 0
  · rw [if_pos g]
    exact ⟨⟨fun _ => ⟨fun _ => core.1, fun q => absurd g q⟩, fun q => absurd r0 q⟩, core.2⟩
  · rw [if_neg g, if_pos (show m = 1 by omega)]
    exact ⟨⟨fun _ => ⟨fun q => absurd q g, fun _ => ⟨fun _ => core.1, fun q => absurd (show m = 1 by omega) q⟩⟩, fun q => absurd r0 q⟩, core.2⟩
theorem cpress {s : xS} {A : aA} {b : Int64} (hA : VA A) (hr : qR A = 0) (h : CV s A) : te_press_ok s b ∧ fr Pcl s (te_press s b).2 ∧ (te_press s b).1 = i3 (aPrs b 8 0 A).1 ∧ CV (te_press s b).2 (aPrs b 8 0 A).2 ∧ VA (aPrs b 8 0 A).2 := by
  have r0 : gI s 0 6 = 0 := by rw [h.2.2.1, hr]; rfl
  rw [te_press_eq]
  unfold te_press_ok te_press_d
  rw [if_pos r0]
  obtain ⟨p1, p2⟩ := cpress_17 b xfu 0 s A (by omega) (by rw [xfu_eq]; omega) hr hA h
  exact ⟨⟨fun _ => p1, fun q => absurd r0 q⟩, p2⟩
theorem crun {s : xS} {A : aA} {m : Nat} (hA : VA A) (hm : m ≤ 500) (h : CV s A) : te_run_ok s (i3 m) ∧ fr Pcl s (te_run s (i3 m)).2 ∧ (te_run s (i3 m)).1 = zb (!decide (qR (aRuns m A) = 0)) ∧ CV (te_run s (i3 m)).2 (aRuns m A) ∧ VA (aRuns m A) := by
  rw [te_run_eq]
  unfold te_run_ok te_run_d
  have c0 : ¬ i3 (m : Int) < 0 := by rw [i3_lit, i3_lt (by omega)]; omega
  have c1 : i3 (m : Int) ≤ 500 := by rw [i3_lit, i3_le (by omega)]; omega
  rw [if_neg c0, if_pos c1]
  obtain ⟨p1, p2⟩ := crun_21 xfu m 0 s A (by omega) hm (by rw [xfu_eq]; omega) hA h
  exact ⟨⟨fun q => absurd q c0, fun _ => ⟨fun _ => p1, fun q => absurd c1 q⟩⟩, p2⟩
theorem CV_end {B : aA} {t : xS} (hB : VA B) (ht : CV t B) : CV (sI t 0 6 0) (zR B 0) := by
  obtain ⟨q1, q2, q3, ⟨nx, q4⟩, q5, q6, q7, q8, q9, q10⟩ := ht
  have f : fr (fun b j => b = 0 ∧ j = 6) t (sI t 0 6 0) := fr_sI (fr_refl ..) ⟨rfl, rfl⟩
  have h4 := CVh_fr f (fun b j w => by omega) hB.2.1 q4
  exact ⟨CVd_fr f (fun b j w => by omega) hB.1.1 q1, CVf_fr f (by omega) q2, by show gI _ 0 6 = i3 0; rw [gI_sI, if_pos ⟨rfl, rfl⟩]; rfl, ⟨nx, ⟨h4.1, h4.2.1, h4.2.2.1, h4.2.2.2.1, fun w => absurd w (by show ¬ (0 : Int) = 2; decide)⟩⟩, CVp_fr f (fun j => by omega) q5, fun w => absurd rfl w, ⟨(f.1 _ _ (by omega)).1.trans q7.1, fun w => absurd w (by show ¬ (0 : Int) = 2; decide)⟩, CVl_fr f (fun j w => by omega) q8, CVt_fr f (by omega) (fun j => by omega) q9, CVo_fr f (by omega) (fun j => by omega) q10⟩
theorem CV_D {A : aA} {D : aD} {s t : xS} (f : fr (Pd 2) s t) (hA : VA A) (h : CV s A) (hd : cD t 2 D) : CV t (zD A D) := by
  obtain ⟨q1, q2, q3, ⟨nx, q4⟩, q5, q6, q7, q8, q9, q10⟩ := h
  exact ⟨⟨hd, (f.1 _ _ (by unfold Pd; omega)).1.trans q1.2.1, cN_fr f (by unfold Pd; omega) (by unfold Pd; omega) q1.2.2.1, cN_fr f (by unfold Pd; omega) (by unfold Pd; omega) q1.2.2.2⟩, CVf_fr f (by unfold Pd; omega) q2, CVr_fr f (by unfold Pd; omega) q3, ⟨nx, CVh_fr f (fun b j w => by unfold Pd; omega) hA.2.1 q4⟩, CVp_fr f (fun j => by unfold Pd; omega) q5, CVe_fr f (fun b j w => by unfold Pd; omega) q6, CVs_fr f (fun b j w => by unfold Pd; omega) q7, CVl_fr f (fun j w => by unfold Pd; omega) q8, CVt_fr f (by unfold Pd; omega) (fun j => by unfold Pd; omega) q9, CVo_fr f (by unfold Pd; omega) (fun j => by unfold Pd; omega) q10⟩
theorem cstop {s : xS} {A : aA} (hA : VA A) (h : CV s A) : te_stop_ok s ∧ fr Pcl s (te_stop s).2 ∧ (te_stop s).1 = (!decide (qR A = 0)) ∧ CV (te_stop s).2 (aStop A) := by
  have hrr := hA.1.2.2.2
  have c0 : (gI s 0 6 = 0) = (qR A = 0) := by rw [h.2.2.1, i3_lit, i3_eq (by omega)]
  have c2 : (gI s 0 6 = 2) = (qR A = 2) := by rw [h.2.2.1, i3_lit, i3_eq (by omega)]
  rw [te_stop_eq]
  unfold te_stop_ok te_stop_d aStop
  simp only [c0, c2]
  by_cases g : qR A = 2
  · rw [if_neg (show ¬ ¬ qR A = 2 from fun q => q g), if_pos g]
    obtain ⟨nx, h1, h2, h3, h4, h5⟩ := h.2.2.2.1
    obtain ⟨x1, x2, x3⟩ := R0_48 h1
    have vS := hA.2.1.2.2 g
    unfold hi_prepared hi_prepared_ok
    rw [h3, i3_natN (by omega), x1]
    obtain ⟨p1, p2, p3⟩ := ccopy xDn_2 x3 (by omega) vS (h5 g)
    have hA' : VA (zD A (qS A)) := ⟨⟨vS, hA.1.2⟩, hA.2.1, hA.2.2.1, hA.2.2.2.1, hA.2.2.2.2.1, hA.2.2.2.2.2⟩
    exact ⟨fun _ => ⟨⟨by rw [i3_inN (by omega)]; omega, x2⟩, xDn_2.1, x3.1, p1⟩, fr_sI (fr_mono p2 (fun b j q => by unfold Pd at q; unfold Pcl; omega)) (by unfold Pcl; omega), rfl, CV_end hA' (CV_D p2 hA h p3)⟩
  · rw [if_pos (show ¬ qR A = 2 from g), if_neg g]
    exact ⟨fun q => absurd q g, fr_sI (fr_refl ..) (by unfold Pcl; omega), rfl, CV_end hA h⟩
theorem CV_F {A : aA} {t : xS} {c : Int} (hA : VA A) (ht : CV t A) : CV (sI t 1 3 (i3 c)) (zF A c) := by
  obtain ⟨q1, q2, q3, ⟨nx, q4⟩, q5, q6, q7, q8, q9, q10⟩ := ht
  have f : fr (fun b j => b = 1 ∧ j = 3) t (sI t 1 3 (i3 c)) := fr_sI (fr_refl ..) ⟨rfl, rfl⟩
  exact ⟨CVd_fr f (fun b j w => by omega) hA.1.1 q1, by show gI _ 1 3 = i3 c; rw [gI_sI, if_pos ⟨rfl, rfl⟩], CVr_fr f (by omega) q3, ⟨nx, CVh_fr f (fun b j w => by omega) hA.2.1 q4⟩, CVp_fr f (fun j => by omega) q5, CVe_fr f (fun b j w => by omega) q6, CVs_fr f (fun b j w => by omega) q7, CVl_fr f (fun j w => by omega) q8, CVt_fr f (by omega) (fun j => by omega) q9, CVo_fr f (by omega) (fun j => by omega) q10⟩
theorem csolve {s : xS} {A : aA} {k : Int} (hA : VA A) (hr : qR A = 0) (hm : qM A = 0) (hk : 0 ≤ k ∧ k ≤ 7) (h : CV s A) : te_solve_ok s (i3 k) ∧ fr Pcl s (te_solve s (i3 k)).2 ∧ (te_solve s (i3 k)).1 = i3 (aSolve k A).1 ∧ CV (te_solve s (i3 k)).2 (aSolve k A).2 := by
  have hv := hA.1.1
  have r0 : gI s 0 6 = 0 := by rw [h.2.2.1, hr]; rfl
  have m0 : ¬ gI s 1 2 = 1 := by rw [h.1.2.1, hm]; decide
  have c0 : ¬ i3 k < 0 := by rw [i3_lit, i3_lt (by omega)]; omega
  have c8 : i3 k < 8 := by rw [i3_lit, i3_lt (by omega)]; omega
  obtain ⟨l1, l2⟩ := clab (k := k) (s := s) h.2.2.2.2.1 hA.2.2.1 (by omega)
  have lr := aLab_rng (qC A) k
  rw [te_solve_eq]
  unfold te_solve_ok te_solve_d aSolve
  rw [if_pos r0, if_pos (show ¬ gI s 1 2 = 1 from m0), if_neg c0, if_pos c8, l2]
  have cl : ((0 : Int32) ≤ i3 (aLab (qC A) k)) = (¬ aLab (qC A) k < 0) := by rw [i3_lit, i3_le (by omega)]; apply propext; omega
  simp only [cl]
  by_cases g : aLab (qC A) k < 0
  · rw [if_neg (show ¬ ¬ _ from fun q => q g), if_pos g]
    exact ⟨⟨fun _ => ⟨fun _ => ⟨fun q => absurd q c0, fun _ => ⟨fun _ => ⟨l1, fun q => absurd g q⟩, fun q => absurd c8 q⟩⟩, fun q => absurd q m0⟩, fun q => absurd r0 q⟩, fr_sI (fr_refl ..) (by unfold Pcl; omega), rfl, CV_F hA h⟩
  · rw [if_pos (show ¬ _ from g), if_neg g]
    have h7 := CV_F (c := 0) hA h
    have e7 : sI s 1 3 (i3 0) = sI s 1 3 0 := rfl
    rw [e7] at h7
    have fz : fr Pcl s (sI s 1 3 0) := fr_sI (fr_refl ..) (by unfold Pcl; omega)
    generalize sI s 1 3 0 = s1 at *
    obtain ⟨q1, q2, q3, ⟨nx, q4⟩, q5, q6, q7, q8, q9, q10⟩ := h7
    have hnx := q4.1
    obtain ⟨p1, p2, p3⟩ := cprep (A := zF A 0) hv q1.1 q4
    have p2' : fr (fun b _ => 49 + 29 * nx ≤ b ∧ b ≤ 77 + 29 * nx) s1 (hi_prepare s1) := fr_mono p2 (fun b j q => by unfold Pd at q; omega)
    generalize hi_prepare s1 = t at *
    rw [so_begin_eq]
    unfold so_begin_d
    have ea : i3 (aLab (qC A) k) + 1 = i3 (aLab (qC A) k + 1) := by rw [i3_lit, i3_add]
    rw [ea]
    have f1 : fr (fun b j => b = 38) t (sI (sI t 38 1 (i3 (aLab (qC A) k + 1))) 38 0 0) := fr_sI (fr_sI (fr_refl ..) rfl) rfl
    have d1 : cD (sI (sI t 38 1 (i3 (aLab (qC A) k + 1))) 38 0 0) 2 (qD A) := cD_fr f1 (fun b j _ _ => by omega) (cD_fr p2' (fun b j _ _ => by omega) q1.1 hv.2.2.2.1) hv.2.2.2.1
    have e381 : gI (sI (sI t 38 1 (i3 (aLab (qC A) k + 1))) 38 0 0) 38 1 = i3 (aLab (qC A) k + 1) := by rw [gI_sI, if_neg (by omega), gI_sI, if_pos ⟨rfl, rfl⟩]
    have e380 : gI (sI (sI t 38 1 (i3 (aLab (qC A) k + 1))) 38 0 0) 38 0 = 0 := by rw [gI_sI, if_pos ⟨rfl, rfl⟩]
    generalize sI (sI t 38 1 (i3 (aLab (qC A) k + 1))) 38 0 0 = u at *
    have n19 : cN u 19 (dN (qD A) 11) := d1.1 11 (by omega)
    rw [de_set_put n19]
    have n18 : cN (cput1 u 39 (dN (qD A) 11)) 18 (dN (qD A) 10) := cN_put (by omega) (d1.1 10 (by omega))
    rw [de_set_put n18]
    have f2 : fr (fun b _ => b = 39 ∨ b = 40) u (cput1 (cput1 u 39 (dN (qD A) 11)) 40 (dN (qD A) 10)) := fr_trans (fr_mono (cput1_fr ..) (fun b j q => Or.inl q)) (fr_mono (cput1_fr ..) (fun b j q => Or.inr q))
    have w0 : cN (cput1 (cput1 u 39 (dN (qD A) 11)) 40 (dN (qD A) 10)) 39 (dN (qD A) 11) := cN_put (by omega) (cput1_cN ..)
    have w1 : cN (cput1 (cput1 u 39 (dN (qD A) 11)) 40 (dN (qD A) 10)) 40 (dN (qD A) 10) := cput1_cN ..
    have d2 : cD (cput1 (cput1 u 39 (dN (qD A) 11)) 40 (dN (qD A) 10)) 2 (qD A) := cD_fr f2 (fun b j _ _ => by omega) d1 hv.2.2.2.1
    have e382 := (f2.1 38 1 (by omega)).1.trans e381
    have e383 := (f2.1 38 0 (by omega)).1.trans e380
    have fa : fr (fun b _ => (49 + 29 * nx ≤ b ∧ b ≤ 77 + 29 * nx) ∨ (38 ≤ b ∧ b ≤ 40)) s1 (cput1 (cput1 u 39 (dN (qD A) 11)) 40 (dN (qD A) 10)) := fr_trans (fr_mono p2' (fun b j q => Or.inl q)) (fr_trans (fr_mono f1 (fun b j q => by omega)) (fr_mono f2 (fun b j q => by omega)))
    have pp : cD (cput1 (cput1 u 39 (dN (qD A) 11)) 40 (dN (qD A) 10)) (49 + 29 * nx) (qD A) := cD_fr f2 (fun b j _ _ => by omega) (cD_fr f1 (fun b j _ _ => by omega) p3 hv.2.2.2.1) hv.2.2.2.1
    generalize cput1 (cput1 u 39 (dN (qD A) 11)) 40 (dN (qD A) 10) = v at *
    -- the first value is taken
    have vn := hv.1 11 (by omega)
    rw [so_takeValueOf_eq]
    unfold so_takeValueOf_d
    have e1 : gI v 38 0 + 1 = i3 (0 + 1 : Nat) := by rw [e383]; rfl
    rw [if_pos (show gI v 38 0 < 100 by rw [e383]; decide), e1]
    have g0 : fr (fun b j => b = 38 ∧ j = 0) v (sI v 38 0 (i3 (0 + 1 : Nat))) := fr_sI (fr_refl ..) ⟨rfl, rfl⟩
    have n0 : cN (sI v 38 0 (i3 (0 + 1 : Nat))) 39 (dN (qD A) 11) := cN_fr g0 (by omega) (by omega) w0
    rw [de_set_put n0]
    have g1 := cput1_fr (sI v 38 0 (i3 (0 + 1 : Nat))) 43 (dN (qD A) 11)
    have n1 : cN (cput1 (sI v 38 0 (i3 (0 + 1 : Nat))) 43 (dN (qD A) 11)) 39 (dN (qD A) 11) := cN_put (by omega) n0
    have d3 : cD (cput1 (sI v 38 0 (i3 (0 + 1 : Nat))) 43 (dN (qD A) 11)) 2 (qD A) := cD_fr g1 (fun b j _ _ => by omega) (cD_fr g0 (fun b j _ _ => by omega) d2 hv.2.2.2.1) hv.2.2.2.1
    obtain ⟨y1, y2⟩ := cfill (a := 39) (by omega) (by omega) n1 vn hv d3
    have c43 : cN (dk_fill (cput1 (sI v 38 0 (i3 (0 + 1 : Nat))) 43 (dN (qD A) 11)) 39) 43 (dN (qD A) 11) := cN_fr y1 (by unfold Pc; omega) (by unfold Pc; omega) (cput1_cN ..)
    have v38 : gI (dk_fill (cput1 (sI v 38 0 (i3 (0 + 1 : Nat))) 43 (dN (qD A) 11)) 39) 38 0 = i3 (0 + 1 : Nat) := by rw [(y1.1 _ _ (by unfold Pc; omega)).1, (g1.1 _ _ (by omega)).1, gI_sI, if_pos ⟨rfl, rfl⟩]
    have fu : fr (fun b j => (2 ≤ b ∧ b ≤ 34 ∧ b ≠ 33) ∨ (b = 38 ∧ j = 0) ∨ b = 43) v (dk_fill (cput1 (sI v 38 0 (i3 (0 + 1 : Nat))) 43 (dN (qD A) 11)) 39) := fr_trans (fr_mono g0 (fun b j q => Or.inr (Or.inl q))) (fr_trans (fr_mono g1 (fun b j q => Or.inr (Or.inr q))) (fr_mono y1 (fun b j q => Or.inl q)))
    generalize dk_fill (cput1 (sI v 38 0 (i3 (0 + 1 : Nat))) 43 (dN (qD A) 11)) 39 = x at *
    have e38 : gI x 38 1 = i3 (aLab (qC A) k + 1) := (fu.1 _ _ (by omega)).1.trans e382
    rw [e38, pr_begin_eq]
    unfold pr_begin_d
    have fb : fr (fun b j => b = 35 ∨ b = 0 ∧ j = 6) x (sI (sI (sI x 35 1 (i3 (aLab (qC A) k + 1))) 35 2 0) 0 6 2) := fr_sI (fr_sI (fr_sI (fr_refl ..) (Or.inl rfl)) (Or.inl rfl)) (Or.inr ⟨rfl, rfl⟩)
    have ft : fr (fun b j => (2 ≤ b ∧ b ≤ 34 ∧ b ≠ 33) ∨ (b = 38 ∧ j = 0) ∨ b = 43 ∨ b = 35 ∨ (b = 0 ∧ j = 6)) v (sI (sI (sI x 35 1 (i3 (aLab (qC A) k + 1))) 35 2 0) 0 6 2) := fr_trans (fr_mono fu (fun b j q => by omega)) (fr_mono fb (fun b j q => by omega))
    have fs : fr (fun b j => (49 + 29 * nx ≤ b ∧ b ≤ 77 + 29 * nx) ∨ (38 ≤ b ∧ b ≤ 40) ∨ (2 ≤ b ∧ b ≤ 34 ∧ b ≠ 33) ∨ b = 43 ∨ b = 35 ∨ (b = 0 ∧ j = 6)) s1 (sI (sI (sI x 35 1 (i3 (aLab (qC A) k + 1))) 35 2 0) 0 6 2) := fr_trans (fr_mono fa (fun b j q => by omega)) (fr_mono ft (fun b j q => by omega))
    have vf := aFil_v hv vn
    have hK := hA.2.1.1
    refine ⟨⟨fun _ => ⟨fun _ => ⟨fun q => absurd q c0, fun _ => ⟨fun _ => ⟨l1, fun _ => p1⟩, fun q => absurd c8 q⟩⟩, fun q => absurd q m0⟩, fun q => absurd r0 q⟩, fr_trans fz (fr_mono fs (fun b j q => by unfold Pcl; omega)), rfl, ⟨cD_fr fb (fun b j _ _ => by omega) y2 vf.2.2.2.1, (fs.1 _ _ (by omega)).1.trans q1.2.1, cN_fr fs (by omega) (by omega) q1.2.2.1, cN_fr fs (by omega) (by omega) q1.2.2.2⟩, (fs.1 _ _ (by omega)).1.trans q2, ?_, ⟨nx, hnx, (fs.1 _ _ (by omega)).1.trans q4.2.1, (fs.1 _ _ (by omega)).1.trans q4.2.2.1, ?_, fun _ => ?_⟩, CVp_fr fs (fun j => by omega) q5, fun _ => ⟨?_, ?_, fun i hi => absurd hi (Nat.not_lt_zero i)⟩, ⟨?_, fun _ => ⟨?_, ?_, ?_, ?_, fun q => absurd q (by show ¬ 2 ≤ 0 + 1; omega), fun q => absurd q (by show ¬ 3 ≤ 0 + 1; omega)⟩⟩, CVl_fr fs (fun j w => by omega) q8, CVt_fr fs (by omega) (fun j => by omega) q9, CVo_fr fs (by omega) (fun j => by omega) q10⟩
    · show gI _ 0 6 = i3 2
      rw [gI_sI, if_pos ⟨rfl, rfl⟩]; rfl
    · intro j j1 j2
      have hj : j ≤ qK A := j2
      have hq := q4.2.2.2.1 j j1 hj
      have eK : qK (zF A 0) = qK A := rfl
      rw [eK] at hq
      have hmod : (nx + 5 + j - qK A) % 6 ≠ nx := by omega
      have hlt := Nat.mod_lt (nx + 5 + j - qK A) (show 0 < 6 by omega)
      show cD _ (49 + 29 * ((nx + 5 + j - qK A) % 6)) (qH A j)
      generalize (nx + 5 + j - qK A) % 6 = r at *
      exact cD_fr fs (fun b i _ _ => by omega) hq (hA.2.1.2.1 j j1 hj).2.2.2.1
    · exact cD_fr ft (fun b j _ _ => by omega) pp hv.2.2.2.1
    · rw [gI_sI, if_neg (by omega), gI_sI, if_neg (by omega), gI_sI, if_pos ⟨rfl, rfl⟩]; rfl
    · rw [gI_sI, if_neg (by omega), gI_sI, if_pos ⟨rfl, rfl⟩]; rfl
    · exact (fb.1 _ _ (by omega)).1.trans v38
    · exact (fb.1 _ _ (by omega)).1.trans e38
    · exact cN_fr ft (by omega) (by omega) w0
    · exact cN_fr ft (by omega) (by omega) w1
    · exact cN_fr fb (by omega) (by omega) c43
theorem cdigits {s : xS} {A : aA} {w : Nat} (hw : w < 15) (h : CV s A) : te_digits_ok s (i3 w) ∧ te_digits s (i3 w) = j6 (dN (qD A) w).1 := by
  unfold te_digits_ok te_digits
  have c0 : ¬ i3 (w : Int) < 0 := by rw [i3_lit, i3_lt (by omega)]; omega
  have c1 : i3 (w : Int) < 15 := by rw [i3_lit, i3_lt (by omega)]; omega
  obtain ⟨x1, x2⟩ := R0_3 hw
  rw [if_neg c0, if_pos c1, i3_natN (by omega), x1]
  exact ⟨⟨fun q => absurd q c0, fun _ => ⟨fun _ => ⟨by rw [i3_inN (by omega)]; omega, x2⟩, fun q => absurd c1 q⟩⟩, (h.1.1.1 w hw).1⟩
theorem cexponent {s : xS} {A : aA} {w : Nat} (hw : w < 15) (h : CV s A) : te_exponent_ok s (i3 w) ∧ te_exponent s (i3 w) = i3 (dN (qD A) w).2 := by
  unfold te_exponent_ok te_exponent
  have c0 : ¬ i3 (w : Int) < 0 := by rw [i3_lit, i3_lt (by omega)]; omega
  have c1 : i3 (w : Int) < 15 := by rw [i3_lit, i3_lt (by omega)]; omega
  obtain ⟨x1, x2⟩ := R0_3 hw
  rw [if_neg c0, if_pos c1, i3_natN (by omega), x1]
  exact ⟨⟨fun q => absurd q c0, fun _ => ⟨fun _ => ⟨by rw [i3_inN (by omega)]; omega, x2⟩, fun q => absurd c1 q⟩⟩, (h.1.1.1 w hw).2⟩
theorem cmode {s : xS} {A : aA} {k m : Int} (hA : VA A) (hk : 0 ≤ k ∧ k ≤ 1) (hm : 0 ≤ m ∧ m ≤ 9) (h : CV s A) : te_mode_ok s (i3 k) (i3 m) ∧ fr Pcl s (te_mode s (i3 k) (i3 m)) ∧ CV (te_mode s (i3 k) (i3 m)) (aMode k m A) := by
  rw [te_mode_eq]
  unfold te_mode_ok te_mode_d
  have c0 : ¬ i3 k < 0 := by rw [i3_lit, i3_lt (by omega)]; omega
  have c1 : ¬ (1 : Int32) < i3 k := by rw [i3_lit, i3_lt (by omega)]; omega
  have c2 : ¬ i3 m < 0 := by rw [i3_lit, i3_lt (by omega)]; omega
  have c3 : i3 m ≤ 9 := by rw [i3_lit, i3_le (by omega)]; omega
  have c4 : (i3 k = 1) = (k = 1) := by rw [i3_lit, i3_eq (by omega)]
  rw [if_neg c0, if_neg c1, if_neg c2, if_pos c3]
  simp only [c4]
  obtain ⟨q1, q2, q3, ⟨nx, q4⟩, q5, q6, q7, q8, q9, q10⟩ := h
  have f : fr (fun b j => b = 223) s (sI (sI s 223 0 (zb (decide (k = 1)))) 223 1 (i3 m)) := fr_sI (fr_sI (fr_refl ..) rfl) rfl
  exact ⟨⟨fun q => absurd q c0, fun _ => ⟨fun q => absurd q c1, fun _ => ⟨fun q => absurd q c2, fun _ q => absurd c3 q⟩⟩⟩, fr_mono f (fun b j q => by unfold Pcl; omega), CVd_fr f (fun b j w => by omega) hA.1.1 q1, CVf_fr f (by omega) q2, CVr_fr f (by omega) q3, ⟨nx, CVh_fr f (fun b j w => by omega) hA.2.1 q4⟩, CVp_fr f (fun j => by omega) q5, CVe_fr f (fun b j w => by omega) q6, CVs_fr f (fun b j w => by omega) q7, ⟨by rw [gI_sI, if_neg (by omega), gI_sI, if_pos ⟨rfl, rfl⟩]; rfl, by rw [gI_sI, if_pos ⟨rfl, rfl⟩]; rfl⟩, CVt_fr f (by omega) (fun j => by omega) q9, CVo_fr f (by omega) (fun j => by omega) q10⟩
theorem aSto_step (c : Nat → Int) (p : Nat) (b : Int64) (i j : Nat) : aSto c p b (i + 1) j = if j = p + i then (byt b i : Int) else aSto c p b i j := by
  unfold aSto
  by_cases g : j = p + i
  · rw [if_pos g, if_pos (by omega), g, show p + i - p = i by omega]
  · rw [if_neg g]
    by_cases g2 : p ≤ j ∧ j < p + i
    · rw [if_pos g2, if_pos (by omega)]
    · rw [if_neg g2, if_neg (by omega)]
theorem cstore_36 {c : Nat → Int} {p : Nat} (b : Int64) (hp : p ≤ 92) : ∀ (n i : Nat) (s : xS), i ≤ 8 → 9 ≤ n + i → (∀ j, j < 100 → gI s 36 j = i3 (aSto c p b i j)) → te_store_36_ok n s (i3 p) b (i3 i) ∧ fr (fun x _ => x = 36) s (te_store_36 n s (i3 p) b (i3 i)) ∧ (∀ j, j < 100 → gI (te_store_36 n s (i3 p) b (i3 i)) 36 j = i3 (aSto c p b 8 j)) := by
  intro n
  induction n with
  | zero => intro i s h1 h2; omega
  | succ n ih =>
    intro i s h1 h2 h
    unfold te_store_36 te_store_36_ok
    have c1 : ((8 : Int32) ≤ i3 i) = (8 ≤ i) := by rw [i3_lit, i3_le (by omega)]; apply propext; omega
    have e1 : i3 i + 1 = i3 (i + 1 : Nat) := by rw [i3_lit, i3_add]; rfl
    have e2 : i3 p + i3 i = i3 (p + i : Nat) := by rw [i3_add]; rfl
    simp only [c1, e1, e2]
    by_cases g : 8 ≤ i
    · rw [if_pos g]
      have : i = 8 := by omega
      subst this
      exact ⟨fun q => absurd g q, fr_refl .., h⟩
    · rw [if_neg g, i3_natN (by omega), cbyte b (by omega)]
      obtain ⟨p1, p2, p3⟩ := ih (i + 1) (sI s 36 (p + i) (i3 (byt b i : Nat))) (by omega) (by omega) (fun j hj => by
        rw [gI_sI, aSto_step]
        by_cases w : j = p + i
        · rw [if_pos ⟨rfl, w⟩, if_pos w]
        · rw [if_neg (fun q => w q.2), if_neg w]; exact h j hj)
      exact ⟨fun _ => ⟨by rw [i3_inN (by omega)]; omega, p1⟩, fr_trans (fr_sI (fr_refl ..) rfl) p2, p3⟩
theorem cstore {s : xS} {A : aA} {p : Nat} {b : Int64} (hA : VA A) (hr : qR A = 0) (hp : p ≤ 92) (h : CV s A) : te_store_ok s (i3 p) b ∧ fr Pcl s (te_store s (i3 p) b) ∧ CV (te_store s (i3 p) b) (aStore p b A) := by
  have r0 : gI s 0 6 = 0 := by rw [h.2.2.1, hr]; rfl
  rw [te_store_eq]
  unfold te_store_ok te_store_d
  have c0 : ¬ i3 (p : Int) < 0 := by rw [i3_lit, i3_lt (by omega)]; omega
  have c1 : i3 (p : Int) ≤ 92 := by rw [i3_lit, i3_le (by omega)]; omega
  rw [if_pos r0, if_neg c0, if_pos c1]
  obtain ⟨q1, q2, q3, ⟨nx, q4⟩, q5, q6, q7, q8, q9, q10⟩ := h
  obtain ⟨p1, f, p3⟩ := cstore_36 (c := qC A) b hp xfu 0 s (by omega) (by rw [xfu_eq]; omega) (fun j hj => by
    have : aSto (qC A) p b 0 j = qC A j := by unfold aSto; rw [if_neg (by omega)]
    rw [this]; exact q5 j hj)
  have f' : fr (fun x _ => x = 36) s (te_store_36 xfu s (i3 p) b 0) := f
  exact ⟨⟨fun _ => ⟨fun q => absurd q c0, fun _ => ⟨fun _ => p1, fun q => absurd c1 q⟩⟩, fun q => absurd r0 q⟩, fr_mono f' (fun b j q => by unfold Pcl; omega), CVd_fr f' (fun b j w => by omega) hA.1.1 q1, CVf_fr f' (by omega) q2, CVr_fr f' (by omega) q3, ⟨nx, CVh_fr f' (fun b j w => by omega) hA.2.1 q4⟩, p3, CVe_fr f' (fun b j w => by omega) q6, ⟨(f'.1 _ _ (by omega)).1.trans q7.1, fun w => by have : qR A = 2 := w; omega⟩, CVl_fr f' (fun j w => by omega) q8, CVt_fr f' (by omega) (fun j => by omega) q9, CVo_fr f' (by omega) (fun j => by omega) q10⟩
theorem ccode {s : xS} {A : aA} {p : Nat} (hp : p < 100) (h : CV s A) : te_code_ok s (i3 p) ∧ te_code s (i3 p) = i3 (qC A p) := by
  unfold te_code_ok te_code
  have c0 : ¬ i3 (p : Int) < 0 := by rw [i3_lit, i3_lt (by omega)]; omega
  have c1 : i3 (p : Int) < 100 := by rw [i3_lit, i3_lt (by omega)]; omega
  rw [if_neg c0, if_pos c1, i3_natN (by omega)]
  exact ⟨⟨fun q => absurd q c0, fun _ => ⟨fun _ => by rw [i3_inN (by omega)]; omega, fun q => absurd c1 q⟩⟩, h.2.2.2.2.1 p hp⟩
theorem cwipe {s : xS} {A : aA} (hA : VA A) (h : CV s A) : fr Pcl s (te_wipe s).2 ∧ (te_wipe s).1 = i3 (qTn A) ∧ CV (te_wipe s).2 (aWipe A) := by
  rw [te_wipe_eq]
  unfold te_wipe_d
  obtain ⟨q1, q2, q3, ⟨nx, q4⟩, q5, q6, q7, q8, q9, q10⟩ := h
  have f : fr (fun b j => b = 225 ∧ j = 2) s (sI s 225 2 0) := fr_sI (fr_refl ..) ⟨rfl, rfl⟩
  exact ⟨fr_mono f (fun b j q => by unfold Pcl; omega), q9.1, CVd_fr f (fun b j w => by omega) hA.1.1 q1, CVf_fr f (by omega) q2, CVr_fr f (by omega) q3, ⟨nx, CVh_fr f (fun b j w => by omega) hA.2.1 q4⟩, CVp_fr f (fun j => by omega) q5, CVe_fr f (fun b j w => by omega) q6, CVs_fr f (fun b j w => by omega) q7, CVl_fr f (fun j w => by omega) q8, ⟨by show gI _ 225 2 = i3 0; rw [gI_sI, if_pos ⟨rfl, rfl⟩]; rfl, fun i hi => absurd hi (Nat.not_lt_zero i)⟩, CVo_fr f (by omega) (fun j => by omega) q10⟩
theorem cout1 {s : xS} {A : aA} {i : Nat} (hA : VA A) (hi : i < qOn A) (h : CV s A) : te_out_ok s (i3 i) ∧ te_out s (i3 i) = i3 (qOk A i) := by
  have h100 := hA.2.2.2.2.2.2.2.2
  unfold te_out_ok te_out
  have c0 : ¬ i3 (i : Int) < 0 := by rw [i3_lit, i3_lt (by omega)]; omega
  have c1 : i3 (i : Int) < gI s 225 1 := by rw [h.2.2.2.2.2.2.2.2.2.1, i3_lt (by omega)]; omega
  rw [if_neg c0, if_pos c1, i3_natN (by omega)]
  exact ⟨⟨fun q => absurd q c0, fun _ => ⟨fun _ => by rw [i3_inN (by omega)]; omega, fun q => absurd c1 q⟩⟩, h.2.2.2.2.2.2.2.2.2.2 i hi⟩
theorem cundo {s : xS} {A : aA} (hA : VA A) (hr : qR A = 0) (h : CV s A) : te_undo_ok s ∧ fr Pcl s (te_undo s).2 ∧ (te_undo s).1 = (aUndo A).1 ∧ CV (te_undo s).2 (aUndo A).2 := by
  have r0 : gI s 0 6 = 0 := by rw [h.2.2.1, hr]; rfl
  have hK := hA.2.1.1
  have hh := h
  obtain ⟨q1, q2, q3, ⟨nx, q4⟩, q5, q6, q7, q8, q9, q10⟩ := h
  obtain ⟨k1, k2, k3, k4, k5⟩ := q4
  have c0 : (gI s 47 0 = 0) = (qK A = 0) := by rw [k2, i3_lit, i3_eq (by omega)]; apply propext; omega
  have c1 : (gI s 47 0 ≤ 0) = (qK A = 0) := by rw [k2, i3_lit, i3_le (by omega)]; apply propext; omega
  rw [te_undo_eq]
  unfold te_undo_ok te_undo_d aUndo
  rw [if_pos r0]
  simp only [c0]
  by_cases g : qK A = 0
  · rw [if_neg (show ¬ ¬ _ from fun q => q g), if_pos g]
    exact ⟨⟨fun _ q => absurd g q, fun q => absurd r0 q⟩, fr_refl .., rfl, hh⟩
  · rw [if_pos (show ¬ _ from g), if_neg g, hi_giveBack_eq]
    unfold hi_giveBack_ok hi_giveBack_d
    simp only [c1]
    rw [if_neg g]
    have e5 : gI s 47 2 + 5 = i3 (nx + 5 : Nat) := by rw [k3, i3_lit, i3_add]; rfl
    have eK : gI s 47 0 - 1 = i3 (qK A - 1 : Nat) := by rw [k2, i3_lit, i3_sub]; exact congrArg i3 (by omega)
    have hm : (nx + 5) % 6 < 6 := Nat.mod_lt _ (by omega)
    obtain ⟨x1, x2, x3⟩ := R0_48 hm
    rw [e5, eK, mod_i3 (by omega), i3_natN (by omega), x1]
    have f1 : fr (fun b j => b = 47) s (sI (sI s 47 0 (i3 (qK A - 1 : Nat))) 47 2 (i3 ((nx + 5) % 6 : Nat))) := fr_sI (fr_sI (fr_refl ..) rfl) rfl
    have hD := k4 (qK A) (by omega) (by omega)
    have vD' := hA.2.1.2.1 (qK A) (by omega) (by omega)
    rw [show nx + 5 + qK A - qK A = nx + 5 by omega] at hD
    have w0 : gI (sI (sI s 47 0 (i3 (qK A - 1 : Nat))) 47 2 (i3 ((nx + 5) % 6 : Nat))) 47 0 = i3 (qK A - 1 : Nat) := by rw [gI_sI, if_neg (by omega), gI_sI, if_pos ⟨rfl, rfl⟩]
    have w2 : gI (sI (sI s 47 0 (i3 (qK A - 1 : Nat))) 47 2 (i3 ((nx + 5) % 6 : Nat))) 47 2 = i3 ((nx + 5) % 6 : Nat) := by rw [gI_sI, if_pos ⟨rfl, rfl⟩]
    generalize sI (sI s 47 0 (i3 (qK A - 1 : Nat))) 47 2 (i3 ((nx + 5) % 6 : Nat)) = t at *
    obtain ⟨p1, p2, p3⟩ := ccopy xDn_2 x3 (by omega) vD' (cD_fr f1 (fun b j _ _ => by omega) hD vD'.2.2.2.1)
    have p2' : fr (fun b _ => 2 ≤ b ∧ b ≤ 30) t (dk_set t 2 (49 + 29 * ((nx + 5) % 6))) := fr_mono p2 (fun b j q => by unfold Pd at q; omega)
    generalize dk_set t 2 (49 + 29 * ((nx + 5) % 6)) = u at *
    have f2 : fr (fun b j => b = 1 ∧ j = 3) u (sI u 1 3 0) := fr_sI (fr_refl ..) ⟨rfl, rfl⟩
    have f : fr (fun b j => b = 47 ∨ (2 ≤ b ∧ b ≤ 30) ∨ (b = 1 ∧ j = 3)) s (sI u 1 3 0) := fr_trans (fr_mono f1 (fun b j q => Or.inl q)) (fr_trans (fr_mono p2' (fun b j q => Or.inr (Or.inl q))) (fr_mono f2 (fun b j q => Or.inr (Or.inr q))))
    refine ⟨⟨fun _ _ _ => ⟨⟨by rw [i3_inN (by omega)]; exact hm, x2⟩, xDn_2.1, x3.1, p1⟩, fun q => absurd r0 q⟩, fr_mono f (fun b j q => by unfold Pcl; omega), trivial, ⟨cD_fr f2 (fun b j _ _ => by omega) p3 vD'.2.2.2.1, (f.1 _ _ (by omega)).1.trans q1.2.1, cN_fr f (by omega) (by omega) q1.2.2.1, cN_fr f (by omega) (by omega) q1.2.2.2⟩, by show gI _ 1 3 = i3 0; rw [gI_sI, if_pos ⟨rfl, rfl⟩]; rfl, CVr_fr f (by omega) q3, ⟨(nx + 5) % 6, hm, (f2.1 _ _ (by omega)).1.trans ((p2'.1 _ _ (by omega)).1.trans w0), (f2.1 _ _ (by omega)).1.trans ((p2'.1 _ _ (by omega)).1.trans w2), fun j j1 j2 => ?_, fun w => by have : qR A = 2 := w; omega⟩, CVp_fr f (fun j => by omega) q5, CVe_fr f (fun b j w => by omega) q6, CVs_fr f (fun b j w => by omega) q7, CVl_fr f (fun j w => by omega) q8, CVt_fr f (by omega) (fun j => by omega) q9, CVo_fr f (by omega) (fun j => by omega) q10⟩
    have hj : j ≤ qK A - 1 := j2
    have hq := k4 j j1 (by omega)
    have em : ((nx + 5) % 6 + 5 + j - (qK A - 1)) % 6 = (nx + 5 + j - qK A) % 6 := by omega
    show cD _ (49 + 29 * (((nx + 5) % 6 + 5 + j - (qK A - 1)) % 6)) (qH A j)
    rw [em]
    have hlt := Nat.mod_lt (nx + 5 + j - qK A) (show 0 < 6 by omega)
    generalize (nx + 5 + j - qK A) % 6 = r at *
    exact cD_fr f (fun b i _ _ => by omega) hq (hA.2.1.2.1 j j1 (by omega)).2.2.2.1
theorem cstate {s : xS} {A : aA} {w : Int} (hw : -2147483648 ≤ w ∧ w < 2147483648) (hA : VA A) (h : CV s A) : te_state s (i3 w) = i3 (aState w A) := by
  have e : ∀ n : Nat, n < 100 → (i3 w = (OfNat.ofNat n : Int32)) = (w = (OfNat.ofNat n : Int)) := fun n hn => by rw [i3_lit, i3_eq (by show _ ∧ _ ∧ (-2147483648 : Int) ≤ (n : Int) ∧ (n : Int) < 2147483648; omega)]
  have e0 : (i3 w = 0) = (w = 0) := e 0 (by omega)
  have e1 : (i3 w = 1) = (w = 1) := e 1 (by omega)
  have e2 : (i3 w = 2) = (w = 2) := e 2 (by omega)
  have e3 : (i3 w = 3) = (w = 3) := e 3 (by omega)
  have e4 : (i3 w = 4) = (w = 4) := e 4 (by omega)
  have e5 : (i3 w = 5) = (w = 5) := e 5 (by omega)
  have e6 : (i3 w = 6) = (w = 6) := e 6 (by omega)
  have e7 : (i3 w = 7) = (w = 7) := e 7 (by omega)
  have e8 : (i3 w = 8) = (w = 8) := e 8 (by omega)
  have e9 : (i3 w = 9) = (w = 9) := e 9 (by omega)
  have e10 : (i3 w = 10) = (w = 10) := e 10 (by omega)
  have hrr := hA.1.2.2.2
  have r0 : (gI s 0 6 = 0) = (qR A = 0) := by rw [h.2.2.1, i3_lit, i3_eq (by omega)]
  obtain ⟨q1, q2, q3, ⟨nx, q4⟩, q5, q6, q7, q8, q9, q10⟩ := h
  unfold te_state aState
  simp only [e0, e1, e2, e3, e4, e5, e6, e7, e8, e9, e10, r0]
  by_cases g0 : w = 0
  · rw [if_pos g0, if_pos g0]; exact q1.2.1
  · rw [if_neg g0, if_neg g0]
    by_cases g1 : w = 1
    · rw [if_pos g1, if_pos g1]; exact q2
    · rw [if_neg g1, if_neg g1]
      by_cases g2 : w = 2
      · rw [if_pos g2, if_pos g2]; exact q3
      · rw [if_neg g2, if_neg g2]
        by_cases g3 : w = 3
        · rw [if_pos g3, if_pos g3]
          by_cases gr : qR A = 0
          · rw [if_pos gr, if_pos gr]; rfl
          · rw [if_neg gr, if_neg gr, (q6 gr).1]
            obtain ⟨a1, a2, a3⟩ := hA.2.2.2.1 gr
            unfold imin
            have c : ((100 : Int32) < i3 (qAt A)) = (¬ qAt A ≤ 100) := by rw [i3_lit, i3_lt (by omega)]; apply propext; omega
            simp only [c]
            by_cases ga : qAt A ≤ 100
            · rw [if_neg (show ¬ ¬ _ from fun q => q ga), if_pos ga]
            · rw [if_pos (show ¬ _ from ga), if_neg ga]; rfl
        · rw [if_neg g3, if_neg g3]
          by_cases g4 : w = 4
          · rw [if_pos g4, if_pos g4]
            by_cases gr : qR A = 0
            · rw [if_pos gr, if_pos gr]; rfl
            · rw [if_neg gr, if_neg gr]; exact (q6 gr).2.1
          · rw [if_neg g4, if_neg g4]
            by_cases g5 : w = 5
            · rw [if_pos g5, if_pos g5]; exact q1.1.2.2.2.1.1
            · rw [if_neg g5, if_neg g5]
              by_cases g6 : w = 6
              · rw [if_pos g6, if_pos g6]; exact q1.1.2.2.2.1.2
              · rw [if_neg g6, if_neg g6]
                have zz : ∀ {v : Int32} {b : Bool}, v = zb b → zb (!decide (v = 0)) = i3 (bif b then 1 else 0) := by
                  intro v b hv; rw [hv]; cases b <;> rfl
                by_cases g7 : w = 7
                · rw [if_pos g7, if_pos g7]; exact zz q1.1.2.2.2.2.2.1
                · rw [if_neg g7, if_neg g7]
                  by_cases g8 : w = 8
                  · rw [if_pos g8, if_pos g8]; exact zz q1.1.2.2.2.2.1
                  · rw [if_neg g8, if_neg g8]
                    by_cases g9 : w = 9
                    · rw [if_pos g9, if_pos g9]; exact q4.2.1
                    · rw [if_neg g9, if_neg g9]
                      by_cases g10 : w = 10
                      · rw [if_pos g10, if_pos g10]; exact q7.1
                      · rw [if_neg g10, if_neg g10]; rfl
