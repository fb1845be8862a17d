/-! A STEP OF A PROGRAM, at the class -/
def Pst (b j : Nat) : Prop := Pc b j ∨ b = 35 ∨ b = 37
theorem Pst_cl {s t : xS} (f : fr Pst s t) : fr Pcl s t := fr_mono f (fun b j q => by unfold Pst Pc at q; unfold Pcl; omega)
theorem CV_st {s t : xS} {A : aA} {D : aD} {a : Int} {g : Nat} {l : Nat → Int} (hA : VA A) (hr : qR A ≠ 0) (f : fr Pst s t) (h : CV s A) (hd : cD t 2 D) (h1 : gI t 35 1 = i3 a) (h2 : gI t 35 2 = i3 g) (h3 : ∀ i, i < g → gI t 37 i = i3 (l i)) : CV t (zX (zD A D) a g l) := by
  obtain ⟨q1, q2, q3, ⟨nx, q4⟩, q5, q6, q7, q8, q9, q10⟩ := h
  refine ⟨⟨hd, (f.1 _ _ (by unfold Pst Pc; omega)).1.trans q1.2.1, cN_fr f (by unfold Pst Pc; omega) (by unfold Pst Pc; omega) q1.2.2.1, cN_fr f (by unfold Pst Pc; omega) (by unfold Pst Pc; omega) q1.2.2.2⟩, (f.1 _ _ (by unfold Pst Pc; omega)).1.trans q2, (f.1 _ _ (by unfold Pst Pc; omega)).1.trans q3, ⟨nx, ?_⟩, ?_, fun _ => ⟨h1, h2, h3⟩, ?_, ?_, ?_, ?_⟩
  · exact CVh_fr f (fun b j w => by unfold Pst Pc; omega) hA.2.1 q4
  · exact CVp_fr f (fun j => by unfold Pst Pc; omega) q5
  · exact CVs_fr f (fun b j w => by unfold Pst Pc; omega) q7
  · exact CVl_fr f (fun j w => by unfold Pst Pc; omega) q8
  · exact CVt_fr f (by unfold Pst Pc; omega) (fun j => by unfold Pst Pc; omega) q9
  · exact CVo_fr f (by unfold Pst Pc; omega) (fun j => by unfold Pst Pc; omega) q10
theorem CV_sm {s t : xS} {A : aA} {D : aD} (hA : VA A) (hr : qR A ≠ 0) (f : fr Pc s t) (h : CV s A) (hd : cD t 2 D) : CV t (zD A D) := by
  have he := h.2.2.2.2.2.1 hr
  have f' : fr Pst s t := fr_mono f (fun b j q => Or.inl q)
  exact CV_st hA hr f' h hd ((f.1 _ _ (by unfold Pc; omega)).1.trans he.1) ((f.1 _ _ (by unfold Pc; omega)).1.trans he.2.1) (fun i hi => (f.1 _ _ (by unfold Pc; omega)).1.trans (he.2.2 i hi))
def cSt (s : xS) (q : Int32 × xS) (r : Int × aA) : Prop := fr Pst s q.2 ∧ q.1 = i3 r.1 ∧ CV q.2 r.2
theorem Pc_st {s t : xS} (f : fr Pc s t) : fr Pst s t := fr_mono f (fun b j q => Or.inl q)
theorem cjump {s : xS} {A : aA} {k : Int} (hk : 136 ≤ k ∧ k < 152) (hA : VA A) (hr : qR A ≠ 0) (h : CV s A) : pr_jump_ok s (i3 k) ∧ cSt s (pr_jump s (i3 k)) (if k < 144 then (if aLab (qC A) (k - 136) < 0 then (7, A) else (0, zX (zD A (aEnd (qD A))) (aLab (qC A) (k - 136) + 1) (qCg A) (qCl A))) else (if aLab (qC A) (k - 144) < 0 then (7, A) else if 4 ≤ qCg A then (8, A) else (0, zX (zD A (aEnd (qD A))) (aLab (qC A) (k - 144) + 1) (qCg A + 1) (updA (qCl A) (qCg A) (qAt A))))) := by
  have hv := hA.1.1
  obtain ⟨e1, e2, e3⟩ := hA.2.2.2.1 hr
  obtain ⟨x1, x2, x3⟩ := h.2.2.2.2.2.1 hr
  rw [pr_jump_eq]
  unfold pr_jump_ok pr_jump_d
  rw [pr_jump_82_eq]
  unfold pr_jump_82_d
  have c1 : (i3 k < 144) = (k < 144) := by rw [i3_lit, i3_lt (by omega)]
  have c2 : (gI s 35 2 < 4) = (qCg A < 4) := by rw [x2, i3_lit, i3_lt (by omega)]; apply propext; omega
  simp only [c1, c2]
  by_cases g : k < 144
  · have b1 : (!decide (k < 144)) = false := by rw [decide_eq_true g]; rfl
    have b2 : ¬ (!decide (k < 144)) = true := by rw [b1]; decide
    rw [if_pos g]
    simp only [if_neg b2]
    have ek : i3 k - 136 = i3 (k - 136) := by rw [i3_lit, i3_sub]
    obtain ⟨l1, l2⟩ := clab (k := k - 136) (s := s) h.2.2.2.2.1 hA.2.2.1 (by omega)
    have lr := aLab_rng (qC A) (k - 136)
    rw [ek, l2]
    have c3 : ((0 : Int32) ≤ i3 (aLab (qC A) (k - 136))) = (¬ aLab (qC A) (k - 136) < 0) := by rw [i3_lit, i3_le (by omega)]; apply propext; omega
    simp only [c3]
    refine ⟨⟨l1, fun _ q => absurd q b2⟩, ?_⟩
    by_cases gl : aLab (qC A) (k - 136) < 0
    · rw [if_neg (show ¬ ¬ _ from fun q => q gl), if_pos gl]
      exact ⟨fr_refl .., rfl, h⟩
    · rw [if_pos (show ¬ _ from gl), if_neg gl, if_pos b1]
      obtain ⟨y1, y2⟩ := cend h.1.1 hv
      have el : i3 (aLab (qC A) (k - 136)) + 1 = i3 (aLab (qC A) (k - 136) + 1) := by rw [i3_lit, i3_add]
      rw [el]
      have f : fr Pst s (sI (ca_endEntry s) 35 1 (i3 (aLab (qC A) (k - 136) + 1))) := fr_sI (Pc_st y1) (Or.inr (Or.inl rfl))
      have f1 : fr (fun b j => b = 35 ∧ j = 1) (ca_endEntry s) (sI (ca_endEntry s) 35 1 (i3 (aLab (qC A) (k - 136) + 1))) := fr_sI (fr_refl ..) ⟨rfl, rfl⟩
      exact ⟨f, rfl, CV_st hA hr f h (cD_fr f1 (fun b j _ _ => by omega) y2 (vD_end hv).2.2.2.1) (by rw [gI_sI, if_pos ⟨rfl, rfl⟩]) (by rw [gI_sI, if_neg (by omega)]; exact (y1.1 _ _ (by unfold Pc; omega)).1.trans x2) (fun i hi => by rw [gI_sI, if_neg (by omega)]; exact (y1.1 _ _ (by unfold Pc; omega)).1.trans (x3 i hi))⟩
  · have b1 : (!decide (k < 144)) = true := by rw [decide_eq_false g]; rfl
    have b2 : ¬ (!decide (k < 144)) = false := by rw [b1]; decide
    rw [if_neg g]
    simp only [if_pos b1, if_neg b2]
    have ek : i3 k - 144 = i3 (k - 144) := by rw [i3_lit, i3_sub]
    obtain ⟨l1, l2⟩ := clab (k := k - 144) (s := s) h.2.2.2.2.1 hA.2.2.1 (by omega)
    have lr := aLab_rng (qC A) (k - 144)
    rw [ek, l2]
    have c3 : ((0 : Int32) ≤ i3 (aLab (qC A) (k - 144))) = (¬ aLab (qC A) (k - 144) < 0) := by rw [i3_lit, i3_le (by omega)]; apply propext; omega
    simp only [c3]
    refine ⟨⟨l1, fun _ _ q => by rw [x2, i3_inN (by omega)]; omega⟩, ?_⟩
    by_cases gl : aLab (qC A) (k - 144) < 0
    · rw [if_neg (show ¬ ¬ _ from fun q => q gl), if_pos gl]
      exact ⟨fr_refl .., rfl, h⟩
    · rw [if_pos (show ¬ _ from gl), if_neg gl]
      by_cases g4 : qCg A < 4
      · rw [if_pos g4, if_neg (show ¬ 4 ≤ qCg A by omega), x1, x2, i3_natN (by omega)]
        have e5 : i3 (qCg A) + 1 = i3 (qCg A + 1 : Nat) := by rw [i3_lit, i3_add]; rfl
        rw [e5]
        have f0 : fr (fun b j => (b = 37 ∧ j = qCg A) ∨ (b = 35 ∧ j = 2)) s (sI (sI s 37 (qCg A) (i3 (qAt A))) 35 2 (i3 (qCg A + 1 : Nat))) := fr_sI (fr_sI (fr_refl ..) (Or.inl ⟨rfl, rfl⟩)) (Or.inr ⟨rfl, rfl⟩)
        have d0 : cD (sI (sI s 37 (qCg A) (i3 (qAt A))) 35 2 (i3 (qCg A + 1 : Nat))) 2 (qD A) := cD_fr f0 (fun b j _ _ => by omega) h.1.1 hv.2.2.2.1
        obtain ⟨y1, y2⟩ := cend d0 hv
        have el : i3 (aLab (qC A) (k - 144)) + 1 = i3 (aLab (qC A) (k - 144) + 1) := by rw [i3_lit, i3_add]
        rw [el]
        have f : fr Pst s (sI (ca_endEntry (sI (sI s 37 (qCg A) (i3 (qAt A))) 35 2 (i3 (qCg A + 1 : Nat)))) 35 1 (i3 (aLab (qC A) (k - 144) + 1))) := fr_sI (fr_trans (fr_mono f0 (fun b j q => by unfold Pst; omega)) (Pc_st y1)) (Or.inr (Or.inl rfl))
        have f1 : fr (fun b j => b = 35 ∧ j = 1) (ca_endEntry (sI (sI s 37 (qCg A) (i3 (qAt A))) 35 2 (i3 (qCg A + 1 : Nat)))) (sI (ca_endEntry (sI (sI s 37 (qCg A) (i3 (qAt A))) 35 2 (i3 (qCg A + 1 : Nat)))) 35 1 (i3 (aLab (qC A) (k - 144) + 1))) := fr_sI (fr_refl ..) ⟨rfl, rfl⟩
        refine ⟨f, rfl, CV_st hA hr f h (cD_fr f1 (fun b j _ _ => by omega) y2 (vD_end hv).2.2.2.1) (by rw [gI_sI, if_pos ⟨rfl, rfl⟩]) ?_ (fun i hi => ?_)⟩
        · rw [gI_sI, if_neg (by omega), (y1.1 _ _ (by unfold Pc; omega)).1, gI_sI, if_pos ⟨rfl, rfl⟩]
        · rw [gI_sI, if_neg (by omega), (y1.1 _ _ (by unfold Pc; omega)).1, gI_sI, if_neg (by omega), gI_sI]
          unfold updA
          by_cases w : i = qCg A
          · rw [if_pos ⟨rfl, w⟩, if_pos w]
          · rw [if_neg (fun q => w q.2), if_neg w]; exact x3 i (by omega)
      · rw [if_neg g4, if_pos (show 4 ≤ qCg A by omega)]
        exact ⟨fr_refl .., rfl, h⟩
theorem cback {s : xS} {A : aA} (hA : VA A) (hr : qR A ≠ 0) (h : CV s A) : pr_comeBack_ok s ∧ cSt s (pr_comeBack s) (if qCg A = 0 then (-1, A) else (0, zX A (qCl A (qCg A - 1) + 1) (qCg A - 1) (qCl A))) := by
  obtain ⟨e1, e2, e3⟩ := hA.2.2.2.1 hr
  obtain ⟨x1, x2, x3⟩ := h.2.2.2.2.2.1 hr
  rw [pr_comeBack_eq]
  unfold pr_comeBack_ok pr_comeBack_d
  have c2 : (gI s 35 2 = 0) = (qCg A = 0) := by rw [x2, i3_lit, i3_eq (by omega)]; apply propext; omega
  simp only [c2]
  by_cases g : qCg A = 0
  · rw [if_neg (show ¬ ¬ qCg A = 0 from fun q => q g), if_pos g]
    exact ⟨fun q => absurd g q, fr_refl .., rfl, h⟩
  · rw [if_pos (show ¬ qCg A = 0 from g), if_neg g]
    have e5 : gI s 35 2 - 1 = i3 (qCg A - 1 : Nat) := by rw [x2, i3_lit, i3_sub]; exact congrArg i3 (by omega)
    rw [e5, i3_natN (by omega), x3 (qCg A - 1) (by omega)]
    have e6 : i3 (qCl A (qCg A - 1)) + 1 = i3 (qCl A (qCg A - 1) + 1) := by rw [i3_lit, i3_add]
    rw [e6]
    have f : fr Pst s (sI (sI s 35 2 (i3 (qCg A - 1 : Nat))) 35 1 (i3 (qCl A (qCg A - 1) + 1))) := fr_sI (fr_sI (fr_refl ..) (Or.inr (Or.inl rfl))) (Or.inr (Or.inl rfl))
    have f1 : fr (fun b j => b = 35) s (sI (sI s 35 2 (i3 (qCg A - 1 : Nat))) 35 1 (i3 (qCl A (qCg A - 1) + 1))) := fr_sI (fr_sI (fr_refl ..) rfl) rfl
    exact ⟨fun _ => by rw [i3_inN (by omega)]; omega, f, rfl, CV_st (D := qD A) hA hr f h (cD_fr f1 (fun b j _ _ => by omega) h.1.1 hA.1.1.2.2.2.1) (by rw [gI_sI, if_pos ⟨rfl, rfl⟩]) (by rw [gI_sI, if_neg (by omega), gI_sI, if_pos ⟨rfl, rfl⟩]) (fun i hi => by rw [gI_sI, if_neg (by omega), gI_sI, if_neg (by omega)]; exact x3 i (by omega))⟩
theorem ctest {s : xS} {A : aA} {k : Int} (hk : 153 < k ∧ k ≤ 165) (hA : VA A) (hr : qR A ≠ 0) (h : CV s A) : pr_test_ok s (i3 k) ∧ cSt s (pr_test s (i3 k)) (if k = 154 then (0, zX A (qAt A + (if (dN (qD A) 10).1 = 0 then 1 else 2)) (qCg A) (qCl A)) else if k = 155 then (0, zX A (qAt A + (if (dN (qD A) 10).1 < 0 then 1 else 2)) (qCg A) (qCl A)) else (0, zX (zD A (sN (qD A) (k - 156).toNat (aSum (dN (qD A) (k - 156).toNat) (neg2 aOne)).2)) (qAt A + (if 0 < (aSum (dN (qD A) (k - 156).toNat) (neg2 aOne)).2.1 then 1 else 2)) (qCg A) (qCl A))) := by
  have hv := hA.1.1
  obtain ⟨e1, e2, e3⟩ := hA.2.2.2.1 hr
  obtain ⟨x1, x2, x3⟩ := h.2.2.2.2.2.1 hr
  have hx := cget h.1.1 (show 10 < 15 by omega)
  have vx := hv.1 10 (by omega)
  have bx := vN_b vx
  rw [pr_test_eq]
  unfold pr_test_ok pr_test_d
  rw [pr_test_98_eq]
  unfold pr_test_98_d
  have c1 : (i3 k = 154) = (k = 154) := by rw [i3_lit, i3_eq (by omega)]
  have c2 : (i3 k = 155) = (k = 155) := by rw [i3_lit, i3_eq (by omega)]
  simp only [c1, c2]
  have fin : ∀ {t : xS} {D : aD} {p : Prop} [Decidable p], fr Pc s t → cD t 2 D → vD D → cSt s (0, sI t 35 1 (gI t 35 1 + (if zb (decide p) = 0 then (2 : Int32) else 1))) (0, zX (zD A D) (qAt A + (if p then 1 else 2)) (qCg A) (qCl A)) := by
    intro t D p _ ft hd vd
    have ea : gI t 35 1 = i3 (qAt A) := (ft.1 _ _ (by unfold Pc; omega)).1.trans x1
    have eb : gI t 35 1 + (if zb (decide p) = 0 then (2 : Int32) else 1) = i3 (qAt A + (if p then 1 else 2)) := by
      rw [ea]
      by_cases g : p
      · rw [decide_eq_true g, if_neg (by decide), if_pos g, i3_lit, i3_add]
      · rw [decide_eq_false g, if_pos (by rfl), if_neg g, i3_lit, i3_add]
    rw [eb]
    have f : fr Pst s (sI t 35 1 (i3 (qAt A + (if p then 1 else 2)))) := fr_sI (Pc_st ft) (Or.inr (Or.inl rfl))
    have f1 : fr (fun b j => b = 35 ∧ j = 1) t (sI t 35 1 (i3 (qAt A + (if p then 1 else 2)))) := fr_sI (fr_refl ..) ⟨rfl, rfl⟩
    exact ⟨f, rfl, CV_st hA hr f h (cD_fr f1 (fun b j _ _ => by omega) hd vd.2.2.2.1) (by rw [gI_sI, if_pos ⟨rfl, rfl⟩]) (by rw [gI_sI, if_neg (by omega)]; exact (ft.1 _ _ (by unfold Pc; omega)).1.trans x2) (fun i hi => by rw [gI_sI, if_neg (by omega)]; exact (ft.1 _ _ (by unfold Pc; omega)).1.trans (x3 i hi))⟩
  by_cases g1 : k = 154
  · rw [if_neg (show ¬ ¬ k = 154 from fun q => q g1), if_pos g1]
    have c3 : (gJ s 18 0 = 0) = ((dN (qD A) 10).1 = 0) := by rw [show gJ s 18 0 = j6 (dN (qD A) 10).1 from hx.1, j6_lit, j6_eq (by omega)]
    simp only [c3]
    exact ⟨fun q => absurd g1 q, fin (fr_refl ..) h.1.1 hv⟩
  · rw [if_pos (show ¬ k = 154 from g1), if_neg g1]
    by_cases g2 : k = 155
    · rw [if_neg (show ¬ ¬ k = 155 from fun q => q g2), if_pos g2, below s (a := 18) hx vx]
      exact ⟨fun _ q => absurd g2 q, fin (fr_refl ..) h.1.1 hv⟩
    · rw [if_pos (show ¬ k = 155 from g2), if_neg g2]
      obtain ⟨r, hrr⟩ : ∃ r : Nat, k = 156 + r := ⟨(k - 156).toNat, by omega⟩
      have er : i3 k - 156 = i3 r := by rw [i3_lit, i3_sub]; exact congrArg i3 (by omega)
      have er' : (k - 156).toNat = r := by omega
      obtain ⟨r1, r2⟩ := R0_3 (show r < 15 by omega)
      rw [er, er', i3_natN (by omega), r1, ca_countDown_eq]
      unfold ca_countDown_ok ca_countDown_d
      rw [i3_natN (by omega), r1]
      have hn := cget h.1.1 (show r < 15 by omega)
      have vn := hv.1 r (by omega)
      obtain ⟨o1, s1, o2, o3⟩ := ccombine s (k := 45) (8 + r) 33 (8 + r) (by omega) (by omega) (by omega) hn h.1.2.2.1 vn vN_1
      have e45 : i3 45 = 45 := rfl
      rw [e45] at o1 o3
      have hop : aOp 45 (dN (qD A) r) aOne = aSum (dN (qD A) r) (neg2 aOne) := by unfold aOp; rw [if_neg (by decide), if_pos rfl]
      rw [hop] at o3
      have hc := count_ok vn
      have vs := (aSum_v (dN (qD A) r) (neg2 aOne)).1
      rw [o3]
      unfold cres
      rw [hc]
      have z0 : (i3 0 = (0 : Int32)) = True := eq_true rfl
      simp only [z0, if_true]
      have hin : vp_in (i3 r) 15 := by rw [i3_inN (by omega)]; omega
      refine ⟨fun _ _ => ⟨⟨⟨hin, r2⟩, o1⟩, fun _ => ⟨hin, r2⟩⟩, ?_⟩
      have d1 : cD s1 2 (qD A) := cD_fr o2 (fun b j _ _ => by unfold P31; omega) h.1.1 hv.2.2.2.1
      have d2 := cput_num (i := r) (p := (aSum (dN (qD A) r) (neg2 aOne)).2) (by omega) d1 hv
      have e9 : gJ (cput1 s1 (8 + r) (aSum (dN (qD A) r) (neg2 aOne)).2) (8 + r) 0 = j6 (aSum (dN (qD A) r) (neg2 aOne)).2.1 := (cput1_cN ..).1
      have bs := vN_b vs
      have c5 : (!decide (gJ (cput1 s1 (8 + r) (aSum (dN (qD A) r) (neg2 aOne)).2) (8 + r) 0 ≤ 0)) = decide (0 < (aSum (dN (qD A) r) (neg2 aOne)).2.1) := by
        have : (gJ (cput1 s1 (8 + r) (aSum (dN (qD A) r) (neg2 aOne)).2) (8 + r) 0 ≤ 0) = ((aSum (dN (qD A) r) (neg2 aOne)).2.1 ≤ 0) := by rw [e9, j6_lit, j6_le (by omega)]
        simp only [this]
        by_cases w : (aSum (dN (qD A) r) (neg2 aOne)).2.1 ≤ 0
        · rw [decide_eq_true w, decide_eq_false (by omega)]; rfl
        · rw [decide_eq_false w, decide_eq_true (by omega)]; rfl
      rw [c5]
      exact fin (fr_trans (P31_c o2) (put_c (by omega))) d2 (vD_sN hv vs)
theorem cstep {s : xS} {A : aA} (hA : VA A) (hr : qR A ≠ 0) (h : CV s A) : pr_step_ok s ∧ cSt s (pr_step s) (aStp A) := by
  have hv := hA.1.1
  obtain ⟨e1, e2, e3⟩ := hA.2.2.2.1 hr
  obtain ⟨x1, x2, x3⟩ := h.2.2.2.2.2.1 hr
  have hkc := aCod_rng hA hr
  have hK : cK (qM A) s (qD A) := ⟨h.1.1, hv, h.1.2.1, h.1.2.2.1, hA.1.2.1⟩
  have main : pr_step_22_ok s (i3 (aCod A)) ∧ cSt s (pr_step_22 s (i3 (aCod A))) (aStp A) := by
    rw [pr_step_22_eq]
    unfold pr_step_22_ok pr_step_22_d aStp
    rw [pr_step_50_eq]
    unfold pr_step_50_ok pr_step_50_d
    generalize aCod A = k at *
    have c0 : (i3 k = 0) = (k = 0) := by rw [i3_lit, i3_eq (by omega)]
    have c1 : (i3 k = 153) = (k = 153) := by rw [i3_lit, i3_eq (by omega)]
    have c2 : (i3 k < 128) = (k < 128) := by rw [i3_lit, i3_lt (by omega)]
    have c3 : (i3 k ≤ 165) = (k ≤ 165) := by rw [i3_lit, i3_le (by omega)]
    have c4 : ((136 : Int32) ≤ i3 k) = (136 ≤ k) := by rw [i3_lit, i3_le (by omega)]
    have c5 : ((152 : Int32) ≤ i3 k) = (152 ≤ k) := by rw [i3_lit, i3_le (by omega)]
    have c6 : (i3 k = 152) = (k = 152) := by rw [i3_lit, i3_eq (by omega)]
    simp only [c0, c1, c2, c3, c4, c5, c6]
    by_cases g0 : k = 0
    · rw [if_pos g0, if_pos (Or.inl g0)]
      exact ⟨fun q => absurd g0 q, fr_refl .., rfl, h⟩
    · rw [if_neg g0]
      by_cases g1 : k = 153
      · rw [if_neg (show ¬ ¬ k = 153 from fun q => q g1), if_pos (Or.inr g1)]
        exact ⟨fun _ q => absurd g1 q, fr_refl .., rfl, h⟩
      · rw [if_pos (show ¬ k = 153 from g1), if_neg (show ¬ (k = 0 ∨ k = 153) by omega)]
        -- a key
        have key : k < 128 ∨ 165 < k → ca_doKey_ok s (i3 k) ∧ cSt s (if ¬ (ca_doKey s (i3 k)).1 = 0 then ca_doKey s (i3 k) else ((ca_doKey s (i3 k)).1, sI (ca_doKey s (i3 k)).2 35 1 (gI (ca_doKey s (i3 k)).2 35 1 + 1))) (if (aKey (qM A) k (qD A)).1 = 0 then (0, zX (zD A (aKey (qM A) k (qD A)).2) (qAt A + 1) (qCg A) (qCl A)) else ((aKey (qM A) k (qD A)).1, A)) := by
          intro _
          obtain ⟨y1, y2, y3, y4⟩ := ckey (k := k) (by omega) hK
          have kc := aKey_c (mdl := qM A) (k := k) hv
          have kv := aKey_v (mdl := qM A) (k := k) (by omega) hv
          have c7 : ((ca_doKey s (i3 k)).1 = 0) = ((aKey (qM A) k (qD A)).1 = 0) := by rw [y3, i3_lit, i3_eq (by omega)]
          refine ⟨y1, ?_⟩
          simp only [c7]
          by_cases gk : (aKey (qM A) k (qD A)).1 = 0
          · rw [if_neg (show ¬ ¬ _ from fun q => q gk), if_pos gk]
            have ea : gI (ca_doKey s (i3 k)).2 35 1 + 1 = i3 (qAt A + 1) := by rw [(y2.1 _ _ (by unfold Pc; omega)).1, x1, i3_lit, i3_add]
            rw [ea]
            have f : fr Pst s (sI (ca_doKey s (i3 k)).2 35 1 (i3 (qAt A + 1))) := fr_sI (Pc_st y2) (Or.inr (Or.inl rfl))
            have f1 : fr (fun b j => b = 35 ∧ j = 1) (ca_doKey s (i3 k)).2 (sI (ca_doKey s (i3 k)).2 35 1 (i3 (qAt A + 1))) := fr_sI (fr_refl ..) ⟨rfl, rfl⟩
            exact ⟨f, by show (ca_doKey s (i3 k)).1 = i3 0; rw [y3, gk], CV_st hA hr f h (cD_fr f1 (fun b j _ _ => by omega) y4 kv.2.2.2.1) (by rw [gI_sI, if_pos ⟨rfl, rfl⟩]) (by rw [gI_sI, if_neg (by omega)]; exact (y2.1 _ _ (by unfold Pc; omega)).1.trans x2) (fun i hi => by rw [gI_sI, if_neg (by omega)]; exact (y2.1 _ _ (by unfold Pc; omega)).1.trans (x3 i hi))⟩
          · rw [if_pos (show ¬ _ from gk), if_neg gk]
            have hD : (aKey (qM A) k (qD A)).2 = qD A := by
              revert gk
              unfold aKey
              split
              · unfold aEnt
                cases eLives (eTake (eIn (qD A)) k)
                · exact fun q => absurd rfl q
                · dsimp only [cond_true]
                  split
                  · exact fun q => absurd rfl q
                  · exact fun _ => rfl
              · split
                · unfold aFn; split
                  · exact fun q => absurd rfl q
                  · exact fun _ => rfl
                · split
                  · exact fun q => absurd rfl q
                  · split
                    · split
                      · unfold aForm; split
                        · exact fun _ => rfl
                        · split
                          · exact fun _ => rfl
                          · split
                            · exact fun q => absurd rfl q
                            · exact fun _ => rfl
                      · exact fun _ => rfl
                    · split
                      · unfold aOper; split
                        · exact fun q => absurd rfl q
                        · exact fun _ => rfl
                      · unfold aStack
                        repeat (split; exact fun q => absurd rfl q)
                        exact fun _ => rfl
            rw [hD] at y4
            exact ⟨Pc_st y2, y3, CV_sm hA hr y2 h y4⟩
        by_cases g2 : k < 128
        · rw [if_pos g2, if_pos (show k < 128 ∨ 165 < k from Or.inl g2)]
          obtain ⟨y1, y2⟩ := key (Or.inl g2)
          exact ⟨fun _ _ => ⟨fun _ => y1, fun q => absurd g2 q⟩, y2⟩
        · rw [if_neg g2]
          by_cases g3 : k ≤ 165
          · rw [if_pos g3, if_neg (show ¬ (k < 128 ∨ 165 < k) by omega)]
            by_cases g4 : 136 ≤ k
            · rw [if_pos g4, if_neg (show ¬ k < 136 by omega)]
              by_cases g5 : 152 ≤ k
              · rw [if_pos g5, if_neg (show ¬ k < 144 by omega), if_neg (show ¬ k < 152 by omega)]
                obtain ⟨y1, y2⟩ := cend h.1.1 hv
                have vE := vD_end hv
                have hCV : CV (ca_endEntry s) (zD A (aEnd (qD A))) := CV_sm hA hr y1 h y2
                have hA' : VA (zD A (aEnd (qD A))) := ⟨⟨vE, hA.1.2⟩, hA.2.1, hA.2.2.1, hA.2.2.2.1, hA.2.2.2.2.1, hA.2.2.2.2.2⟩
                by_cases g6 : k = 152
                · rw [if_neg (show ¬ ¬ k = 152 from fun q => q g6), if_pos g6]
                  obtain ⟨p1, p2, p3, p4⟩ := cback hA' hr hCV
                  exact ⟨fun _ _ => ⟨fun q => absurd q g2, fun _ => ⟨fun _ _ => ⟨fun _ => ⟨fun q => absurd g6 q, fun _ => p1⟩, fun q => absurd g5 q⟩, fun q => absurd g3 q⟩⟩, fr_trans (Pc_st y1) p2, p3, p4⟩
                · rw [if_pos (show ¬ k = 152 from g6), if_neg g6]
                  obtain ⟨p1, p2, p3, p4⟩ := ctest (k := k) (by omega) hA' hr hCV
                  have hx10 : dN (aEnd (qD A)) = dN (qD A) := dN_end _
                  refine ⟨fun _ _ => ⟨fun q => absurd q g2, fun _ => ⟨fun _ _ => ⟨fun _ => ⟨fun _ => p1, fun q => absurd q g6⟩, fun q => absurd g5 q⟩, fun q => absurd g3 q⟩⟩, fr_trans (Pc_st y1) p2, ?_⟩
                  have hq : qD (zD A (aEnd (qD A))) = aEnd (qD A) := rfl
                  rw [hq, hx10] at p3 p4
                  exact ⟨p3, p4⟩
              · rw [if_neg g5]
                obtain ⟨p1, p2⟩ := cjump (k := k) (by omega) hA hr h
                refine ⟨fun _ _ => ⟨fun q => absurd q g2, fun _ => ⟨fun _ _ => ⟨fun q => absurd q g5, fun _ => p1⟩, fun q => absurd g3 q⟩⟩, ?_⟩
                by_cases g7 : k < 144
                · rw [if_pos g7] at p2 ⊢; exact p2
                · rw [if_neg g7] at p2 ⊢
                  rw [if_pos (show k < 152 by omega)]; exact p2
            · rw [if_neg g4, if_pos (show k < 136 by omega), x1]
              have ea : i3 (qAt A) + 1 = i3 (qAt A + 1) := by rw [i3_lit, i3_add]
              rw [ea]
              have f : fr Pst s (sI s 35 1 (i3 (qAt A + 1))) := fr_sI (fr_refl ..) (Or.inr (Or.inl rfl))
              have f1 : fr (fun b j => b = 35 ∧ j = 1) s (sI s 35 1 (i3 (qAt A + 1))) := fr_sI (fr_refl ..) ⟨rfl, rfl⟩
              exact ⟨fun _ _ => ⟨fun q => absurd q g2, fun _ => ⟨fun _ q => absurd q g4, fun q => absurd g3 q⟩⟩, f, rfl, CV_st (D := qD A) hA hr f h (cD_fr f1 (fun b j _ _ => by omega) h.1.1 hv.2.2.2.1) (by rw [gI_sI, if_pos ⟨rfl, rfl⟩]) (by rw [gI_sI, if_neg (by omega)]; exact x2) (fun i hi => by rw [gI_sI, if_neg (by omega)]; exact x3 i hi)⟩
          · rw [if_neg g3, if_pos (show k < 128 ∨ 165 < k from Or.inr (by omega))]
            obtain ⟨y1, y2⟩ := key (Or.inr (by omega))
            exact ⟨fun _ _ => ⟨fun q => absurd q g2, fun _ => ⟨fun q => absurd q g3, fun _ => y1⟩⟩, y2⟩
  rw [pr_step_eq]
  unfold pr_step_ok pr_step_d
  have c8 : ((100 : Int32) ≤ gI s 35 1) = (¬ qAt A < 100) := by rw [x1, i3_lit, i3_le (by omega)]; apply propext; omega
  simp only [c8]
  by_cases g : qAt A < 100
  · have hcd : aCod A = qC A (qAt A).toNat := by unfold aCod; rw [if_pos g]
    rw [if_neg (show ¬ ¬ qAt A < 100 from fun q => q g), x1, i3_nat (by omega), h.2.2.2.2.1 _ (by omega), ← hcd]
    exact ⟨⟨fun q => absurd g q, fun _ => ⟨by rw [i3_in (by omega)]; omega, main.1⟩⟩, main.2⟩
  · have hcd : aCod A = 0 := by unfold aCod; rw [if_neg g]
    rw [if_pos (show ¬ qAt A < 100 from g)]
    rw [hcd] at main
    exact ⟨⟨fun _ => main.1, fun q => absurd g q⟩, main.2⟩
