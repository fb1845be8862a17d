/-! A STEP, at the reference -/
def Pdd (b j : Nat) : Prop := Pr b j ∨ (b = 230 ∧ (j = 8 ∨ j = 10)) ∨ b = 234
theorem Pr_dd {s t : xS} (f : fr Pr s t) : fr Pdd s t := fr_mono f (fun b j q => Or.inl q)
theorem Pdd_no {b j : Nat} (h : ¬ ((b = 231 ∧ j < 80) ∨ (b = 232 ∧ j < 24) ∨ b = 242 ∨ (b = 230 ∧ 29 ≤ j ∧ j ≤ 31) ∨ (b = 230 ∧ (j = 8 ∨ j = 10)) ∨ b = 234)) : ¬ Pdd b j := by unfold Pdd Pr; omega
theorem RV_st {s t : xS} {A : aA} {D : aD} {a : Int} {cg : Nat} {cl : Nat → Int} (hA : VA A) (f : fr Pdd s t) (h : RV s A) (hd : rD t 0 D) (h10 : gI t 230 10 = i3 a) (h8 : gI t 230 8 = i3 cg) (hc : ∀ i, i < cg → gI t 234 i = i3 (cl i)) : RV t (zX (zD A D) a cg cl) := by
  obtain ⟨q1, q2, q3, q4, q5, q6, q7, q8, q9, q10⟩ := h
  exact ⟨⟨hd, (f.1 _ _ (Pdd_no (by omega))).1.trans q1.2⟩, RVf_fr f (Pdd_no (by omega)) q2, RVr_fr f (Pdd_no (by omega)) q3, RVh_fr f (fun j w => Pdd_no (by omega)) (fun j w => Pdd_no (by omega)) (Pdd_no (by omega)) hA.2.1 q4, RVp_fr f (fun j => Pdd_no (by omega)) q5, fun _ => ⟨h10, h8, hc⟩, RVs_fr f (fun j w => Pdd_no (by omega)) (fun b j w => Pdd_no (by omega)) q7, RVl_fr f (fun j w => Pdd_no (by omega)) q8, RVt_fr f (Pdd_no (by omega)) (fun j => Pdd_no (by omega)) q9, RVo_fr f (Pdd_no (by omega)) (fun j => Pdd_no (by omega)) q10⟩
theorem and7 {k : Int} (h : 136 ≤ k ∧ k < 152) : i3 k &&& 7 = i3 (if k < 144 then k - 136 else k - 144) := by
  have all : ∀ n : Fin 16, i3 ((136 + n.val : Nat) : Int) &&& 7 = i3 ((if n.val < 8 then n.val else n.val - 8 : Nat) : Int) := by decide
  obtain ⟨n, rfl⟩ : ∃ n : Nat, k = (136 + n : Nat) := ⟨(k - 136).toNat, by omega⟩
  rw [all ⟨n, by omega⟩]
  refine congrArg i3 ?_
  show ((if n < 8 then n else n - 8 : Nat) : Int) = _
  by_cases g : n < 8
  · rw [if_pos g, if_pos (by omega)]; omega
  · rw [if_neg g, if_neg (by omega)]; omega
def rSt (s : xS) (r : Int32 × xS) (A : aA) (q : Int × aA) : Prop := fr Pdd s r.2 ∧ r.1 = i3 q.1 ∧ (q.1 = 0 → RV r.2 q.2)
theorem rgo {s : xS} {A : aA} {k : Int} (hk : 136 ≤ k ∧ k < 152) (hA : VA A) (hr : qR A ≠ 0) (h : RV s A) : tm_go_ok s (i3 k) ∧ rSt s (tm_go s (i3 k)) A (if k < 144 then (if aLab (qC A) (k - 136) < 0 then (7, A) else (0, zX (zD A (aEnd (qD A))) (aLab (qC A) (k - 136) + 1) (qCg A) (qCl A))) else (if aLab (qC A) (k - 144) < 0 then (7, A) else if 4 ≤ qCg A then (8, A) else (0, zX (zD A (aEnd (qD A))) (aLab (qC A) (k - 144) + 1) (qCg A + 1) (updA (qCl A) (qCg A) (qAt A))))) := by
  have hv := hA.1.1
  obtain ⟨e1, e2, e3⟩ := hA.2.2.2.1 hr
  obtain ⟨x1, x2, x3⟩ := h.2.2.2.2.2.1 hr
  rw [tm_go_eq]
  unfold tm_go_ok tm_go_d
  rw [and7 hk, tm_go_57_eq]
  unfold tm_go_57_d
  have c1 : (i3 k < 144) = (k < 144) := by rw [i3_lit, i3_lt (by omega)]
  have c4 : (gI s 230 8 = 4) = (4 ≤ qCg A) := by rw [x2, i3_lit, i3_eq (by omega)]; apply propext; omega
  have ve := vD_end hv
  by_cases g1 : k < 144
  · rw [if_pos g1, if_pos g1]
    obtain ⟨l1, l2⟩ := rlab (k := k - 136) (s := s) h.2.2.2.2.1 hA.2.2.1 (by omega)
    have lr := aLab_rng (qC A) (k - 136)
    rw [l2]
    have c3 : ((0 : Int32) ≤ i3 (aLab (qC A) (k - 136))) = (¬ aLab (qC A) (k - 136) < 0) := by rw [i3_lit, i3_le (by omega)]; apply propext; omega
    simp only [c1, c3, c4]
    refine ⟨⟨l1, fun _ q => absurd g1 q⟩, ?_⟩
    by_cases g2 : aLab (qC A) (k - 136) < 0
    · rw [if_neg (show ¬ ¬ _ from fun q => q g2), if_pos g2]
      exact ⟨fr_refl .., rfl, fun q => absurd q (show ¬ (7 : Int) = 0 by decide)⟩
    · rw [if_pos (show ¬ _ from g2), if_pos g1, if_neg g2]
      obtain ⟨y1, y2⟩ := rend h.1.1 hv
      have ea : i3 (aLab (qC A) (k - 136)) + 1 = i3 (aLab (qC A) (k - 136) + 1) := by rw [i3_lit, i3_add]
      rw [ea]
      have f1 : fr (fun b j => b = 230 ∧ j = 10) (tm_end s) (sI (tm_end s) 230 10 (i3 (aLab (qC A) (k - 136) + 1))) := fr_sI (fr_refl ..) ⟨rfl, rfl⟩
      have f : fr Pdd s (sI (tm_end s) 230 10 (i3 (aLab (qC A) (k - 136) + 1))) := fr_sI (Pr_dd y1) (Or.inr (Or.inl ⟨rfl, Or.inr rfl⟩))
      have n8 : ¬ Pr 230 8 := by unfold Pr; omega
      have n34 : ∀ i, ¬ Pr 234 i := fun i => by unfold Pr; omega
      exact ⟨f, rfl, fun _ => RV_st hA f h (rD_fr f1 (fun m _ _ => by omega) (fun m _ _ => by omega) ve y2) (by rw [gI_sI, if_pos ⟨rfl, rfl⟩]) (by rw [gI_sI, if_neg (by omega)]; exact (y1.1 _ _ n8).1.trans x2) (fun i hi => by rw [gI_sI, if_neg (by omega)]; exact (y1.1 _ _ (n34 i)).1.trans (x3 i hi))⟩
  · rw [if_neg g1, if_neg g1]
    obtain ⟨l1, l2⟩ := rlab (k := k - 144) (s := s) h.2.2.2.2.1 hA.2.2.1 (by omega)
    have lr := aLab_rng (qC A) (k - 144)
    rw [l2]
    have c3 : ((0 : Int32) ≤ i3 (aLab (qC A) (k - 144))) = (¬ aLab (qC A) (k - 144) < 0) := by rw [i3_lit, i3_le (by omega)]; apply propext; omega
    simp only [c1, c3, c4]
    refine ⟨⟨l1, fun _ _ q => by rw [x2, i3_inN (by omega)]; omega⟩, ?_⟩
    by_cases g2 : aLab (qC A) (k - 144) < 0
    · rw [if_neg (show ¬ ¬ _ from fun q => q g2), if_pos g2]
      exact ⟨fr_refl .., rfl, fun q => absurd q (show ¬ (7 : Int) = 0 by decide)⟩
    · rw [if_pos (show ¬ aLab (qC A) (k - 144) < 0 from g2), if_neg g1, if_neg g2]
      by_cases g3 : 4 ≤ qCg A
      · rw [if_neg (show ¬ ¬ 4 ≤ qCg A from fun q => q g3), if_pos g3]
        exact ⟨fr_refl .., rfl, fun q => absurd q (show ¬ (8 : Int) = 0 by decide)⟩
      · rw [if_pos (show ¬ 4 ≤ qCg A from g3), if_neg g3, x1, x2, i3_natN (by omega)]
        have eg : i3 (qCg A) + 1 = i3 (qCg A + 1 : Nat) := by rw [i3_lit, i3_add]; rfl
        have ea : i3 (aLab (qC A) (k - 144)) + 1 = i3 (aLab (qC A) (k - 144) + 1) := by rw [i3_lit, i3_add]
        rw [eg, ea]
        have f0 : fr (fun b j => (b = 230 ∧ j = 8) ∨ b = 234) s (sI (sI s 234 (qCg A) (i3 (qAt A))) 230 8 (i3 (qCg A + 1 : Nat))) := fr_sI (fr_sI (fr_refl ..) (Or.inr rfl)) (Or.inl ⟨rfl, rfl⟩)
        have h0 : rD (sI (sI s 234 (qCg A) (i3 (qAt A))) 230 8 (i3 (qCg A + 1 : Nat))) 0 (qD A) := rD_fr f0 (fun m _ _ => by omega) (fun m _ _ => by omega) hv h.1.1
        have w8 : gI (sI (sI s 234 (qCg A) (i3 (qAt A))) 230 8 (i3 (qCg A + 1 : Nat))) 230 8 = i3 (qCg A + 1 : Nat) := by rw [gI_sI, if_pos ⟨rfl, rfl⟩]
        have w34 : ∀ i, i < qCg A + 1 → gI (sI (sI s 234 (qCg A) (i3 (qAt A))) 230 8 (i3 (qCg A + 1 : Nat))) 234 i = i3 (updA (qCl A) (qCg A) (qAt A) i) := by
          intro i hi
          rw [gI_sI, if_neg (by omega), gI_sI]
          unfold updA
          by_cases w : i = qCg A
          · rw [if_pos ⟨rfl, w⟩, if_pos w]
          · rw [if_neg (by omega), if_neg w]; exact x3 i (by omega)
        generalize sI (sI s 234 (qCg A) (i3 (qAt A))) 230 8 (i3 (qCg A + 1 : Nat)) = t at *
        obtain ⟨y1, y2⟩ := rend h0 hv
        have f1 : fr (fun b j => b = 230 ∧ j = 10) (tm_end t) (sI (tm_end t) 230 10 (i3 (aLab (qC A) (k - 144) + 1))) := fr_sI (fr_refl ..) ⟨rfl, rfl⟩
        have f : fr Pdd s (sI (tm_end t) 230 10 (i3 (aLab (qC A) (k - 144) + 1))) := fr_sI (fr_trans (fr_mono f0 (fun b j q => by unfold Pdd; omega)) (Pr_dd y1)) (Or.inr (Or.inl ⟨rfl, Or.inr rfl⟩))
        have n8 : ¬ Pr 230 8 := by unfold Pr; omega
        have n34 : ∀ i, ¬ Pr 234 i := fun i => by unfold Pr; omega
        exact ⟨f, rfl, fun _ => RV_st hA f h (rD_fr f1 (fun m _ _ => by omega) (fun m _ _ => by omega) ve y2) (by rw [gI_sI, if_pos ⟨rfl, rfl⟩]) (by rw [gI_sI, if_neg (by omega)]; exact (y1.1 _ _ n8).1.trans w8) (fun i hi => by rw [gI_sI, if_neg (by omega)]; exact (y1.1 _ _ (n34 i)).1.trans (w34 i hi))⟩
/-- a test: the next place or the one after -/
theorem rtest {s t : xS} {A : aA} {D : aD} {b : Bool} (hA : VA A) (hr : qR A ≠ 0) (h : RV s A) (f : fr Pr s t) (hd : rD t 0 D) (hD : vD D) : fr Pdd s (tm_test t (zb b)) ∧ RV (tm_test t (zb b)) (zX (zD A D) (qAt A + (if b = true then 1 else 2)) (qCg A) (qCl A)) := by
  obtain ⟨x1, x2, x3⟩ := h.2.2.2.2.2.1 hr
  have n10 : ¬ Pr 230 10 := by unfold Pr; omega
  have n8 : ¬ Pr 230 8 := by unfold Pr; omega
  have n34 : ∀ i, ¬ Pr 234 i := fun i => by unfold Pr; omega
  rw [tm_test_eq]
  unfold tm_test_d
  have ea : (if zb b = 0 then gI t 230 10 + 2 else gI t 230 10 + 1) = i3 (qAt A + (if b = true then 1 else 2)) := by
    rw [(f.1 _ _ n10).1, x1]
    cases b
    · rw [if_pos (show zb false = 0 from rfl), if_neg (show ¬ false = true by decide), i3_lit, i3_add]
    · rw [if_neg (show ¬ zb true = 0 by decide), if_pos (show true = true from rfl), i3_lit, i3_add]
  rw [ea]
  have f1 : fr (fun b j => b = 230 ∧ j = 10) t (sI t 230 10 (i3 (qAt A + (if b = true then 1 else 2)))) := fr_sI (fr_refl ..) ⟨rfl, rfl⟩
  have f2 : fr Pdd s (sI t 230 10 (i3 (qAt A + (if b = true then 1 else 2)))) := fr_sI (Pr_dd f) (Or.inr (Or.inl ⟨rfl, Or.inr rfl⟩))
  exact ⟨f2, RV_st hA f2 h (rD_fr f1 (fun m _ _ => by omega) (fun m _ _ => by omega) hD hd) (by rw [gI_sI, if_pos ⟨rfl, rfl⟩]) (by rw [gI_sI, if_neg (by omega)]; exact (f.1 _ _ n8).1.trans x2) (fun i hi => by rw [gI_sI, if_neg (by omega)]; exact (f.1 _ _ (n34 i)).1.trans (x3 i hi))⟩
theorem rdeed {s : xS} {A : aA} (hA : VA A) (hr : qR A ≠ 0) (h : RV s A) (n0 : aCod A ≠ 0) (n3 : aCod A ≠ 153) (n2 : ¬ (aCod A = 152 ∧ qCg A = 0)) : tm_deed_ok s (i3 (aCod A)) ∧ rSt s (tm_deed s (i3 (aCod A))) A (aStp A) := by
  have hv := hA.1.1
  have hk := aCod_rng hA hr
  obtain ⟨e1, e2, e3⟩ := hA.2.2.2.1 hr
  obtain ⟨x1, x2, x3⟩ := h.2.2.2.2.2.1 hr
  have n10 : ¬ Pr 230 10 := by unfold Pr; omega
  have n8 : ¬ Pr 230 8 := by unfold Pr; omega
  have n34 : ∀ i, ¬ Pr 234 i := fun i => by unfold Pr; omega
  unfold aStp
  generalize aCod A = k at *
  rw [tm_deed_eq]
  unfold tm_deed_ok tm_deed_d
  have c1 : ((128 : Int32) ≤ i3 k) = (128 ≤ k) := by rw [i3_lit, i3_le (by omega)]
  have c2 : ((136 : Int32) ≤ i3 k) = (136 ≤ k) := by rw [i3_lit, i3_le (by omega)]
  have c3 : ((152 : Int32) ≤ i3 k) = (152 ≤ k) := by rw [i3_lit, i3_le (by omega)]
  have c4 : (i3 k ≤ 165) = (k ≤ 165) := by rw [i3_lit, i3_le (by omega)]
  have c5 : (i3 k = 152) = (k = 152) := by rw [i3_lit, i3_eq (by omega)]
  have c6 : (i3 k = 154) = (k = 154) := by rw [i3_lit, i3_eq (by omega)]
  have c7 : (i3 k = 155) = (k = 155) := by rw [i3_lit, i3_eq (by omega)]
  simp only [c1, c2, c3, c4, c5, c6, c7]
  rw [if_neg (show ¬ (k = 0 ∨ k = 153) by omega)]
  obtain ⟨y1, y2⟩ := rend h.1.1 hv
  have ve := vD_end hv
  by_cases g1 : 128 ≤ k
  · rw [if_pos g1]
    by_cases g2 : 136 ≤ k
    · rw [if_pos g2]
      by_cases g3 : 152 ≤ k
      · rw [if_pos g3]
        by_cases g4 : k ≤ 165
        · rw [if_pos g4, if_neg (show ¬ (k < 128 ∨ 165 < k) by omega), if_neg (show ¬ k < 136 by omega), if_neg (show ¬ k < 144 by omega), if_neg (show ¬ k < 152 by omega)]
          by_cases g5 : k = 152
          · rw [if_neg (show ¬ ¬ k = 152 from fun q => q g5), if_pos g5, if_neg (show ¬ qCg A = 0 from fun q => n2 ⟨g5, q⟩)]
            have e8 : gI (tm_end s) 230 8 - 1 = i3 (qCg A - 1 : Nat) := by rw [(y1.1 _ _ n8).1, x2, i3_lit, i3_sub]; exact congrArg i3 (by omega)
            rw [e8, i3_natN (by omega)]
            have e34 : gI (tm_end s) 234 (qCg A - 1) + 1 = i3 (qCl A (qCg A - 1) + 1) := by rw [(y1.1 _ _ (n34 _)).1, x3 _ (by omega), i3_lit, i3_add]
            rw [e34]
            have f1 : fr (fun b j => b = 230 ∧ (j = 8 ∨ j = 10)) (tm_end s) (sI (sI (tm_end s) 230 8 (i3 (qCg A - 1 : Nat))) 230 10 (i3 (qCl A (qCg A - 1) + 1))) := fr_sI (fr_sI (fr_refl ..) ⟨rfl, Or.inl rfl⟩) ⟨rfl, Or.inr rfl⟩
            have f : fr Pdd s (sI (sI (tm_end s) 230 8 (i3 (qCg A - 1 : Nat))) 230 10 (i3 (qCl A (qCg A - 1) + 1))) := fr_trans (Pr_dd y1) (fr_mono f1 (fun b j q => Or.inr (Or.inl q)))
            exact ⟨⟨fun _ _ => ⟨fun _ _ => ⟨fun q => absurd g5 q, fun _ => by rw [i3_inN (by omega)]; omega⟩, fun q => absurd g3 q⟩, fun q => absurd g1 q⟩, f, rfl, fun _ => RV_st hA f h (rD_fr f1 (fun m _ _ => by omega) (fun m _ _ => by omega) ve y2) (by rw [gI_sI, if_pos ⟨rfl, rfl⟩]) (by rw [gI_sI, if_neg (by omega), gI_sI, if_pos ⟨rfl, rfl⟩]) (fun i hi => by rw [gI_sI, if_neg (by omega), gI_sI, if_neg (by omega)]; exact (y1.1 _ _ (n34 i)).1.trans (x3 i (by omega)))⟩
          · rw [if_pos (show ¬ k = 152 from g5), if_neg g5]
            have hx := rN_rB (y2.1 10 (by omega))
            rw [dN_end] at hx
            have x10 : gI (tm_end s) 231 10 = i3 (dN (qD A) 10).1.sign := hx.1
            by_cases g6 : k = 154
            · rw [if_pos g6, if_pos g6, tm_deed_119_eq]
              unfold tm_deed_119_d
              rw [if_neg (show ¬ ¬ i3 k = 154 from fun q => q (by rw [g6]; rfl))]
              have z1 : (gI (tm_end s) 231 10 = 0) = ((dN (qD A) 10).1 = 0) := by rw [x10]; exact i3_sg0
              simp only [z1]
              obtain ⟨t1, t2⟩ := rtest (b := decide ((dN (qD A) 10).1 = 0)) hA hr h y1 y2 ve
              simp only [decide_eq_true_eq] at t2
              exact ⟨⟨fun _ _ => ⟨fun _ _ => ⟨fun _ q => absurd g6 q, fun q => absurd q g5⟩, fun q => absurd g3 q⟩, fun q => absurd g1 q⟩, t1, rfl, fun _ => t2⟩
            · rw [if_neg g6, if_neg g6]
              by_cases g7 : k = 155
              · rw [if_neg (show ¬ ¬ k = 155 from fun q => q g7), if_pos g7, tm_deed_119_eq]
                unfold tm_deed_119_d
                rw [if_pos (show ¬ i3 k = 154 by rw [g7]; decide)]
                have z1 : (!decide ((0 : Int32) ≤ gI (tm_end s) 231 10)) = decide ((dN (qD A) 10).1 < 0) := by
                  have hs := sgn_rng (dN (qD A) 10).1
                  have : ((0 : Int32) ≤ gI (tm_end s) 231 10) = (¬ (dN (qD A) 10).1 < 0) := by rw [x10, i3_lit, i3_le (by omega), ← sgn_lt]; apply propext; omega
                  simp only [this]
                  by_cases w : (dN (qD A) 10).1 < 0
                  · rw [decide_eq_true w, decide_eq_false (show ¬ ¬ _ from fun q => q w)]; rfl
                  · rw [decide_eq_false w, decide_eq_true (show ¬ _ from w)]; rfl
                rw [z1]
                obtain ⟨t1, t2⟩ := rtest (b := decide ((dN (qD A) 10).1 < 0)) hA hr h y1 y2 ve
                simp only [decide_eq_true_eq] at t2
                exact ⟨⟨fun _ _ => ⟨fun _ _ => ⟨fun _ _ q => absurd g7 q, fun q => absurd q g5⟩, fun q => absurd g3 q⟩, fun q => absurd g1 q⟩, t1, rfl, fun _ => t2⟩
              · rw [if_pos (show ¬ k = 155 from g7), if_neg g7]
                obtain ⟨i, hi⟩ : ∃ i : Nat, k - 156 = i := ⟨(k - 156).toNat, by omega⟩
                have hi10 : i < 10 := by omega
                have ei : i3 k - 156 = i3 (i : Nat) := by rw [i3_lit, i3_sub, hi]
                have ei2 : (23 : Int32) + i3 (i : Nat) = i3 (23 + i : Nat) := by rw [i3_lit, i3_add]; rfl
                have eN : (k - 156).toNat = i := by omega
                rw [ei, ei2, eN, i3_natN (show i < 2147483648 by omega), i3_natN (show 23 + i < 2147483648 by omega)]
                have hni := y2.1 i (by omega)
                rw [dN_end] at hni
                have vi := hv.1 i (by omega)
                have B := rN_rB hni
                have B' : rB (gI (tm_end s) 231 i) (gJ (tm_end s) 232 i) (gI (tm_end s) 231 (23 + i)) (dN (qD A) i) := B
                have O : rA (-1) 100000000000 0 (neg2 aOne) := ⟨rfl, fun _ => ⟨rfl, rfl⟩⟩
                obtain ⟨o1, o2, o3, o4⟩ := rsum (tm_end s) (rA_of B') O vi (neg2_v vN_1)
                have cz := count_ok vi
                have sv := aSum_v (dN (qD A) i) (neg2 aOne)
                rw [cz] at o3
                generalize tm_add (tm_end s) (gI (tm_end s) 231 i) (gJ (tm_end s) 232 i) (gI (tm_end s) 231 (23 + i)) (-1) 100000000000 0 = q at *
                have F := o4 cz
                have e0 : q.1 = 0 := o3
                have fq : fr Pr s q.2 := fr_trans y1 (fr_mono o2 (fun b j w => by unfold Prow at w; unfold Pr; omega))
                have nq : ∀ b j, b ≠ 242 → b ≠ 230 → ¬ Prow b j := fun b j w1 w2 => by unfold Prow; omega
                have dq : rD q.2 0 (aEnd (qD A)) := rD_fr o2 (fun m _ _ => nq _ _ (by omega) (by omega)) (fun m _ _ => nq _ _ (by omega) (by omega)) ve y2
                obtain ⟨s1, s2, s3⟩ := rsetF (i := i) (by omega) F sv.1 dq ve
                rw [e0, tm_put_eq]
                unfold tm_put_ok tm_put_d
                rw [if_neg (show ¬ ¬ (0 : Int32) = 0 from fun w => w rfl), if_pos (show (0 : Int32) ≤ 0 by decide)]
                generalize tm_set q.2 (i3 (i : Nat)) (gI q.2 230 29) (gJ q.2 230 30) (gI q.2 230 31) = u at *
                have vs := vD_sN (i := i) ve sv.1
                have fu : fr Pr s u := fr_trans fq (fr_mono s2 (fun b j w => by unfold Pn at w; unfold Pr; omega))
                have hx' := rN_rB (s3.1 i (by omega))
                have e1' : gI u 231 i = i3 (aSum (dN (qD A) i) (neg2 aOne)).2.1.sign := by
                  have : dN (sN (aEnd (qD A)) i (aSum (dN (qD A) i) (neg2 aOne)).2) i = (aSum (dN (qD A) i) (neg2 aOne)).2 := if_pos rfl
                  rw [this] at hx'
                  exact hx'.1
                have z1 : (!decide (gI u 231 i ≤ 0)) = decide (0 < (aSum (dN (qD A) i) (neg2 aOne)).2.1) := by
                  rw [e1']
                  generalize (aSum (dN (qD A) i) (neg2 aOne)).2.1 = y
                  have hs := sgn_rng y
                  have : (i3 y.sign ≤ 0) = (¬ 0 < y) := by
                    rw [i3_lit, i3_le (by omega)]; apply propext
                    have := Int.sign_pos_iff (x := y)
                    omega
                  simp only [this]
                  by_cases w : 0 < y
                  · rw [decide_eq_true w, decide_eq_false (show ¬ ¬ _ from fun q => q w)]; rfl
                  · rw [decide_eq_false w, decide_eq_true (show ¬ _ from w)]; rfl
                obtain ⟨t1, t2⟩ := rtest (b := decide (0 < (aSum (dN (qD A) i) (neg2 aOne)).2.1)) hA hr h fu s3 vs
                simp only [decide_eq_true_eq] at t2
                rw [z1]
                have v1 : vp_in (i3 (i : Nat)) 640 := by rw [i3_inN (by omega)]; omega
                have v2 : vp_in (i3 (i : Nat)) 192 := by rw [i3_inN (by omega)]; omega
                have v3 : vp_in (i3 (23 + i : Nat)) 640 := by rw [i3_inN (by omega)]; omega
                exact ⟨⟨fun _ _ => ⟨fun _ _ => ⟨fun _ _ _ => ⟨v1, v2, v3, o1, fun _ => s1, fun _ => v1⟩, fun q => absurd q g5⟩, fun q => absurd g3 q⟩, fun q => absurd g1 q⟩, t1, rfl, fun _ => t2⟩
        · rw [if_neg g4, if_pos (show k < 128 ∨ 165 < k by omega), aKey_hi (by omega)]
          exact ⟨⟨fun _ _ => ⟨fun _ q => absurd q g4, fun q => absurd g3 q⟩, fun q => absurd g1 q⟩, fr_refl .., rfl, fun q => absurd q (show ¬ (1 : Int) = 0 by decide)⟩
      · rw [if_neg g3, if_neg (show ¬ (k < 128 ∨ 165 < k) by omega), if_neg (show ¬ k < 136 by omega)]
        obtain ⟨p1, p2⟩ := rgo (k := k) (by omega) hA hr h
        refine ⟨⟨fun _ _ => ⟨fun q => absurd q g3, fun _ => p1⟩, fun q => absurd g1 q⟩, ?_⟩
        by_cases g7 : k < 144
        · rw [if_pos g7] at p2 ⊢; exact p2
        · rw [if_neg g7] at p2 ⊢
          rw [if_pos (show k < 152 by omega)]; exact p2
    · rw [if_neg g2, if_neg (show ¬ (k < 128 ∨ 165 < k) by omega), if_pos (show k < 136 by omega), x1]
      have ea : i3 (qAt A) + 1 = i3 (qAt A + 1) := by rw [i3_lit, i3_add]
      rw [ea]
      have f1 : fr (fun b j => b = 230 ∧ j = 10) s (sI s 230 10 (i3 (qAt A + 1))) := fr_sI (fr_refl ..) ⟨rfl, rfl⟩
      have f : fr Pdd s (sI s 230 10 (i3 (qAt A + 1))) := fr_sI (fr_refl ..) (Or.inr (Or.inl ⟨rfl, Or.inr rfl⟩))
      exact ⟨⟨fun _ q => absurd q g2, fun q => absurd g1 q⟩, f, rfl, fun _ => RV_st (D := qD A) hA f h (rD_fr f1 (fun m _ _ => by omega) (fun m _ _ => by omega) hv h.1.1) (by rw [gI_sI, if_pos ⟨rfl, rfl⟩]) (by rw [gI_sI, if_neg (by omega)]; exact x2) (fun i hi => by rw [gI_sI, if_neg (by omega)]; exact x3 i hi)⟩
  · rw [if_neg g1, if_pos (show k < 128 ∨ 165 < k by omega)]
    have hK : rK (qM A) s (qD A) := ⟨h.1.1, hv, h.1.2, hA.1.2.1⟩
    obtain ⟨w1, w2, w3, w4⟩ := rkey (k := k) (by omega) hK
    have kv := aKey_v (mdl := qM A) (k := k) (by omega) hv
    have ea : gI (tm_key s (i3 k)).2 230 10 + 1 = i3 (qAt A + 1) := by rw [(w2.1 _ _ n10).1, x1, i3_lit, i3_add]
    rw [ea]
    generalize tm_key s (i3 k) = y at *
    have f1 : fr (fun b j => b = 230 ∧ j = 10) y.2 (sI y.2 230 10 (i3 (qAt A + 1))) := fr_sI (fr_refl ..) ⟨rfl, rfl⟩
    have f : fr Pdd s (sI y.2 230 10 (i3 (qAt A + 1))) := fr_sI (Pr_dd w2) (Or.inr (Or.inl ⟨rfl, Or.inr rfl⟩))
    refine ⟨⟨fun q => absurd q g1, fun _ => w1⟩, ?_⟩
    by_cases gk : (aKey (qM A) k (qD A)).1 = 0
    · rw [if_pos gk]
      exact ⟨f, by show y.1 = i3 0; rw [w3, gk], fun _ => RV_st hA f h (rD_fr f1 (fun m _ _ => by omega) (fun m _ _ => by omega) kv (w4 gk)) (by rw [gI_sI, if_pos ⟨rfl, rfl⟩]) (by rw [gI_sI, if_neg (by omega)]; exact (w2.1 _ _ n8).1.trans x2) (fun i hi => by rw [gI_sI, if_neg (by omega)]; exact (w2.1 _ _ (n34 i)).1.trans (x3 i hi))⟩
    · rw [if_neg gk]
      exact ⟨f, w3, fun q => absurd q gk⟩
