/-! KEYS PRESSED -/
def Pcl (b _ : Nat) : Prop := b < 230
def Prl (b _ : Nat) : Prop := 230 ≤ b ∧ b ≤ 242
noncomputable def aPr1 (k : Int) (A : aA) : Int × aA :=
  if 144 ≤ k ∧ k ≤ 151 then
    (if aLab (qC A) (k - 144) < 0 then (7, zF A 7) else (0, zF (zR (zX (zD (aPush A (qD A)) (aEnd (qD A))) (aLab (qC A) (k - 144) + 1) 0 (qCl A)) 1) 0))
  else if (aKey (qM A) k (qD A)).1 = 0 then (0, zF (zD (aPush A (qD A)) (aKey (qM A) k (qD A)).2) 0) else ((aKey (qM A) k (qD A)).1, zF A (aKey (qM A) k (qD A)).1)
theorem aKey_c {mdl k : Int} {D : aD} (h : vD D) : 0 ≤ (aKey mdl k D).1 ∧ (aKey mdl k D).1 ≤ 9 := by
  unfold aKey
  split
  · unfold aEnt
    cases eLives (eTake (eIn D) k)
    · dsimp only [cond_false]; omega
    · dsimp only [cond_true]
      split
      · dsimp only; omega
      · have := rs_c (aFin (dV (eDg (eTake (eIn D) k)) 0 (eL (eTake (eIn D) k))) false (eUnit (eTake (eIn D) k)) (eMi (eTake (eIn D) k)))
        have e : (aRead (eTake (eIn D) k)).1 = 0 ∨ (aRead (eTake (eIn D) k)).1 = 2 := this
        dsimp only
        omega
  · split
    · have := aFnq_v (k := k) h
      unfold aFn
      split
      · dsimp only; omega
      · dsimp only; omega
    · split
      · dsimp only; omega
      · split
        · split
          · have := aFold_v (l := aLb k D) h (dS D) (dN D 10) (Nat.le_refl _) (h.1 10 (by omega))
            unfold aForm
            split
            · dsimp only; omega
            · split
              · dsimp only; omega
              · split
                · dsimp only; omega
                · dsimp only; omega
          · dsimp only; omega
        · split
          · have := aOp_v k (dN D 11) (dN D 10)
            unfold aOper
            split
            · dsimp only; omega
            · dsimp only; omega
          · unfold aStack
            split
            · dsimp only; omega
            · split
              · dsimp only; omega
              · split
                · dsimp only; omega
                · split
                  · dsimp only; omega
                  · dsimp only; omega
theorem VA_pr1 {A : aA} {k : Int} (hk : 1 ≤ k ∧ k ≤ 255) (hr : qR A = 0) (h : VA A) : VA (aPr1 k A).2 := by
  obtain ⟨h1, h2, h3, h4, h5, h6⟩ := h
  have hv := h1.1
  have hkc := aKey_c (mdl := qM A) (k := k) hv
  have r0 : ∀ {B : aA}, qR B = 0 → VAe B := fun w q => absurd w q
  have hs : ∀ {B : aA}, qR B ≠ 2 → qV B = qV A → VAs B := fun w v => ⟨by rw [v]; exact h5.1, fun q => absurd q w⟩
  have hp := vPush h2 hv
  unfold aPr1
  split
  · split
    · exact ⟨⟨h1.1, h1.2.1, by show (0 : Int) ≤ 7 ∧ (7 : Int) ≤ 9; omega, h1.2.2.2⟩, h2, h3, h4, h5, h6⟩
    · rename_i g
      have hl := aLab_rng (qC A) (k - 144)
      refine ⟨⟨vD_end hv, h1.2.1, by show (0 : Int) ≤ 0 ∧ (0 : Int) ≤ 9; omega, by show (0 : Int) ≤ 1 ∧ (1 : Int) ≤ 2; omega⟩, ⟨hp.1, hp.2.1, fun q => absurd q (by show ¬ (1 : Int) = 2; decide)⟩, h3, fun _ => ⟨?_, ?_, ?_⟩, hs (by show ¬ (1 : Int) = 2; decide) rfl, h6⟩
      · show 0 ≤ aLab (qC A) (k - 144) + 1 ∧ aLab (qC A) (k - 144) + 1 ≤ 101; omega
      · show 0 ≤ 4; omega
      · intro i hi; exact absurd hi (Nat.not_lt_zero i)
  · split
    · exact ⟨⟨aKey_v (by omega) hv, h1.2.1, by show (0 : Int) ≤ 0 ∧ (0 : Int) ≤ 9; omega, h1.2.2.2⟩, ⟨hp.1, hp.2.1, hp.2.2⟩, h3, h4, h5, h6⟩
    · exact ⟨⟨h1.1, h1.2.1, hkc, h1.2.2.2⟩, h2, h3, h4, h5, h6⟩
/-- a desk prepared leaves what is kept -/
theorem CVh_prep {s t : xS} {A : aA} {nx : Nat} (f : fr (Pd (49 + 29 * nx)) s t) (hr : qR A ≠ 2) (hv : VAh A) (q : CVh s A nx) : CVh t A nx := by
  obtain ⟨h1, h2, h3, h4, h5⟩ := q
  have hK := hv.1
  refine ⟨h1, (f.1 _ _ (by unfold Pd; omega)).1.trans h2, (f.1 _ _ (by unfold Pd; omega)).1.trans h3, fun j j1 j2 => cD_fr f (fun b k k1 k2 => ?_) (h4 j j1 j2) (hv.2.1 j j1 j2).2.2.2.1, fun w => absurd w hr⟩
  have : (nx + 5 + j - qK A) % 6 ≠ nx ∧ (nx + 5 + j - qK A) % 6 < 6 := by omega
  unfold Pd
  generalize (nx + 5 + j - qK A) % 6 = m at *
  omega
/-- the parts that no key touches -/
def CVz (s : xS) (A : aA) : Prop := CVp s A ∧ CVs s A ∧ CVl s A ∧ CVt s A ∧ CVo s A
theorem CVz_fr {P : Nat → Nat → Prop} {s t : xS} {A : aA} (f : fr P s t) (h : ∀ b j, b = 36 ∨ (38 ≤ b ∧ b ≤ 43) ∨ (223 ≤ b ∧ b ≤ 227) → ¬ P b j) (q : CVz s A) : CVz t A := by
  obtain ⟨q1, q2, q3, q4, q5⟩ := q
  exact ⟨CVp_fr f (fun j => h _ _ (by omega)) q1, CVs_fr f (fun b j w => h _ _ (by omega)) q2, CVl_fr f (fun j _ => h _ _ (by omega)) q3, CVt_fr f (h _ _ (by omega)) (fun j => h _ _ (by omega)) q4, CVo_fr f (h _ _ (by omega)) (fun j => h _ _ (by omega)) q5⟩
/-- what all keys change, at the class -/
def Pky (nx b j : Nat) : Prop := Pc b j ∨ Pd (49 + 29 * nx) b j ∨ (b = 1 ∧ j = 3) ∨ (b = 47 ∧ (j = 0 ∨ j = 2)) ∨ (b = 35 ∧ (j = 1 ∨ j = 2)) ∨ (b = 0 ∧ j = 6)
theorem Pky_cl {nx : Nat} {s t : xS} (h : nx < 6) (f : fr (Pky nx) s t) : fr Pcl s t := fr_mono f (fun b j q => by unfold Pky Pc Pd at q; unfold Pcl; omega)
theorem Pky_z {nx : Nat} {s t : xS} {A : aA} (f : fr (Pky nx) s t) (hn : nx < 6) (q : CVz s A) : CVz t A := CVz_fr f (fun b j w => by unfold Pky Pc Pd; omega) q
theorem cpress1 {s : xS} {A : aA} {k : Int} (hk : 1 ≤ k ∧ k ≤ 255) (hr : qR A = 0) (hA : VA A) (h : CV s A) : te_pressOne_ok s (i3 k) ∧ fr Pcl s (te_pressOne s (i3 k)).2 ∧ (te_pressOne s (i3 k)).1 = i3 (aPr1 k A).1 ∧ CV (te_pressOne s (i3 k)).2 (aPr1 k A).2 := by
  obtain ⟨q1, q2, q3, ⟨nx, q4⟩, q5, q6, q7, q8, q9, q10⟩ := h
  obtain ⟨hA1, hA2, hA3, hA4, hA5, hA6⟩ := hA
  have hv := hA1.1
  have hz : CVz s A := ⟨q5, q7, q8, q9, q10⟩
  have hn := q4.1
  rw [te_pressOne_eq]
  unfold te_pressOne_ok te_pressOne_d
  obtain ⟨p1, p2, p3⟩ := cprep hv q1.1 q4
  have d1 : cD (hi_prepare s) 2 (qD A) := cD_fr p2 (fun b j _ _ => by unfold Pd; omega) q1.1 hv.2.2.2.1
  have f1 : fr (Pky nx) s (hi_prepare s) := fr_mono p2 (fun b j q => Or.inr (Or.inl q))
  have h1 : CVh (hi_prepare s) A nx := CVh_prep p2 (by omega) hA2 q4
  have hK : cK (qM A) (hi_prepare s) (qD A) := ⟨d1, hv, (p2.1 _ _ (by unfold Pd; omega)).1.trans q1.2.1, cN_fr p2 (by unfold Pd; omega) (by unfold Pd; omega) q1.2.2.1, hA1.2.1⟩
  have tw : cN (hi_prepare s) 46 aTwo := cN_fr p2 (by unfold Pd; omega) (by unfold Pd; omega) q1.2.2.2
  have c1 : (i3 k < 144) = (k < 144) := by rw [i3_lit, i3_lt (by omega)]
  have c2 : ((152 : Int32) ≤ i3 k) = (152 ≤ k) := by rw [i3_lit, i3_le (by omega)]
  simp only [c1, c2]
  have zc : CVz (hi_prepare s) A := Pky_z f1 hn hz
  have r1 : gI (hi_prepare s) 0 6 = i3 (qR A) := (p2.1 _ _ (by unfold Pd; omega)).1.trans q3
  generalize hi_prepare s = t at *
  -- the tail: fault, keep
  have tail : ∀ {u : xS} {c : Int} {A' : aA}, fr (Pky nx) s u → (0 ≤ c ∧ c ≤ 9) → CVd u A' → CVh u A nx → cD u (49 + 29 * nx) (qD A) → CVr u A' → CVe u A' → CVz u A → vD (qD A') → (c ≠ 0 → A' = A) → (c = 0 → qK A' = qK (aPush A (qD A)) ∧ qH A' = qH (aPush A (qD A)) ∧ qR A' ≠ 2 ∧ qC A' = qC A ∧ qV A' = qV A ∧ qSc A' = qSc A ∧ qPl A' = qPl A ∧ qTn A' = qTn A ∧ qTx A' = qTx A ∧ qOn A' = qOn A ∧ qOk A' = qOk A) → fr Pcl s (te_pressOne_58 u (i3 c)).2 ∧ (te_pressOne_58 u (i3 c)).1 = i3 c ∧ CV (te_pressOne_58 u (i3 c)).2 (zF A' c) := by
    intro u c A' fu hc du hu pu ru eu zu vu hne heq
    rw [te_pressOne_58_eq]
    unfold te_pressOne_58_d
    have c3 : (i3 c = 0) = (c = 0) := by rw [i3_lit, i3_eq (by omega)]
    simp only [c3]
    have fF : fr (fun b j => b = 1 ∧ j = 3) u (sI u 1 3 (i3 c)) := fr_sI (fr_refl ..) ⟨rfl, rfl⟩
    have fF' : fr (Pky nx) s (sI u 1 3 (i3 c)) := fr_sI fu (Or.inr (Or.inr (Or.inl ⟨rfl, rfl⟩)))
    have dF : CVd (sI u 1 3 (i3 c)) A' := CVd_fr fF (fun b j w => by omega) vu du
    have rF : CVr (sI u 1 3 (i3 c)) A' := CVr_fr fF (by omega) ru
    have eF : CVe (sI u 1 3 (i3 c)) A' := CVe_fr fF (fun b j w => by omega) eu
    have hF : CVh (sI u 1 3 (i3 c)) A nx := CVh_fr fF (fun b j w => by omega) hA2 hu
    have zF' : CVz (sI u 1 3 (i3 c)) A := CVz_fr fF (fun b j w => by omega) zu
    have pF : cD (sI u 1 3 (i3 c)) (49 + 29 * nx) (qD A) := cD_fr fF (fun b j _ _ => by omega) pu hv.2.2.2.1
    have ff : CVf (sI u 1 3 (i3 c)) (zF A' c) := by show gI _ 1 3 = i3 c; rw [gI_sI, if_pos ⟨rfl, rfl⟩]
    by_cases g : c = 0
    · rw [if_neg (show ¬ ¬ c = 0 from fun q => q g)]
      obtain ⟨y1, y2, y3, y4, y5, y6, y7, y8, y9, y10, y11⟩ := heq g
      obtain ⟨k1, k2⟩ := ckeep hA2 (by omega) pF hF
      have k3 : fr (Pky nx) s (hi_keep (sI u 1 3 (i3 c))) := fr_trans fF' (fr_mono k1 (fun b j q => by unfold Pky; omega))
      have z4 := CVz_fr k1 (fun b j w => by omega) zF'
      obtain ⟨w1, w2, w3, w4, w5⟩ := z4
      refine ⟨Pky_cl hn k3, rfl, CVd_fr k1 (fun b j w => by omega) vu dF, CVf_fr k1 (by omega) ff, CVr_fr k1 (by omega) rF, ⟨(nx + 1) % 6, ?_⟩, ?_, CVe_fr k1 (fun b j w => by omega) eF, ?_, ?_, ?_, ?_⟩
      · obtain ⟨m1, m2, m3, m4, m5⟩ := k2
        refine ⟨m1, ?_, m3, fun j j1 j2 => ?_, fun w => absurd w y3⟩
        · show gI _ 47 0 = i3 (qK A'); rw [y1]; exact m2
        · show cD _ (49 + 29 * (((nx + 1) % 6 + 5 + j - qK A') % 6)) (qH A' j)
          rw [y1, y2]
          exact m4 j j1 (by have : j ≤ qK A' := j2; rw [y1] at this; exact this)
      · intro i hi; show gI _ 36 i = i3 (qC A' i); rw [y4]; exact w1 i hi
      · refine ⟨?_, fun w => absurd w y3⟩
        show gI _ 38 0 = i3 (qV A'); rw [y5]; exact w2.1
      · exact ⟨by show gI _ 223 0 = zb (qSc A'); rw [y6]; exact w3.1, by show gI _ 223 1 = i3 (qPl A'); rw [y7]; exact w3.2⟩
      · exact ⟨by show gI _ 225 2 = i3 (qTn A'); rw [y8]; exact w4.1, fun i hi => by show gI _ 227 i = i3 (qTx A' i); rw [y9]; exact w4.2 i (by have : i < qTn A' := hi; rw [y8] at this; exact this)⟩
      · exact ⟨by show gI _ 225 1 = i3 (qOn A'); rw [y10]; exact w5.1, fun i hi => by show gI _ 226 i = i3 (qOk A' i); rw [y11]; exact w5.2 i (by have : i < qOn A' := hi; rw [y10] at this; exact this)⟩
    · rw [if_pos (show ¬ c = 0 from g)]
      have hAA := hne g
      subst hAA
      obtain ⟨w1, w2, w3, w4, w5⟩ := zF'
      exact ⟨Pky_cl hn fF', rfl, dF, ff, rF, ⟨nx, hF⟩, w1, eF, w2, w3, w4, w5⟩
  unfold aPr1
  by_cases gs : 144 ≤ k ∧ k ≤ 151
  · have b1 : (!decide (k < 144) && !decide (152 ≤ k)) = true := by rw [decide_eq_false (show ¬ k < 144 by omega), decide_eq_false (show ¬ 152 ≤ k by omega)]; rfl
    rw [if_neg (by rw [b1]; decide), if_pos gs, te_startProgram_eq]
    unfold te_startProgram_ok te_startProgram_d
    have ek : i3 k - 144 = i3 (k - 144) := by rw [i3_lit, i3_sub]
    obtain ⟨l1, l2⟩ := clab (k := k - 144) (s := t) zc.1 hA3 (by omega)
    have lr := aLab_rng (qC A) (k - 144)
    rw [ek, l2]
    have c3 : ((0 : Int32) ≤ i3 (aLab (qC A) (k - 144))) = (¬ aLab (qC A) (k - 144) < 0) := by rw [i3_lit, i3_le (by omega)]; apply propext; omega
    simp only [c3]
    refine ⟨⟨p1, fun q => (by rw [b1] at q; cases q), fun _ => l1⟩, ?_⟩
    by_cases gl : aLab (qC A) (k - 144) < 0
    · rw [if_neg (show ¬ ¬ _ from fun q => q gl), if_pos gl]
      exact tail (u := t) (c := 7) (A' := A) f1 (by omega) ⟨d1, hK.2.2.1, hK.2.2.2.1, tw⟩ h1 p3 r1 (fun q => absurd hr q) zc hv (fun _ => rfl) (fun q => absurd q (by decide))
    · rw [if_pos (show ¬ _ from gl), if_neg gl]
      obtain ⟨e1, e2⟩ := cend d1 hv
      rw [pr_begin_eq]
      unfold pr_begin_d
      have el : i3 (aLab (qC A) (k - 144)) + 1 = i3 (aLab (qC A) (k - 144) + 1) := by rw [i3_lit, i3_add]
      rw [el]
      have fb : fr (fun b j => (b = 35 ∧ (j = 1 ∨ j = 2)) ∨ (b = 0 ∧ j = 6)) (ca_endEntry t) (sI (sI (sI (ca_endEntry t) 35 1 (i3 (aLab (qC A) (k - 144) + 1))) 35 2 0) 0 6 1) := fr_sI (fr_sI (fr_sI (fr_refl ..) (Or.inl ⟨rfl, Or.inl rfl⟩)) (Or.inl ⟨rfl, Or.inr rfl⟩)) (Or.inr ⟨rfl, rfl⟩)
      have fall : fr (Pky nx) t (sI (sI (sI (ca_endEntry t) 35 1 (i3 (aLab (qC A) (k - 144) + 1))) 35 2 0) 0 6 1) := fr_trans (fr_mono e1 (fun b j q => Or.inl q)) (fr_mono fb (fun b j q => by unfold Pky; omega))
      have hve := vD_end hv
      have fx : fr (fun b j => Pc b j ∨ (b = 35 ∧ (j = 1 ∨ j = 2)) ∨ (b = 0 ∧ j = 6)) t (sI (sI (sI (ca_endEntry t) 35 1 (i3 (aLab (qC A) (k - 144) + 1))) 35 2 0) 0 6 1) := fr_trans (fr_mono e1 (fun b j q => Or.inl q)) (fr_mono fb (fun b j q => Or.inr q))
      have e0 : (0 : Int32) = i3 0 := rfl
      have := tail (u := sI (sI (sI (ca_endEntry t) 35 1 (i3 (aLab (qC A) (k - 144) + 1))) 35 2 0) 0 6 1) (c := 0) (A' := zR (zX (zD (aPush A (qD A)) (aEnd (qD A))) (aLab (qC A) (k - 144) + 1) 0 (qCl A)) 1) (fr_trans f1 fall) (by omega) ⟨cD_fr fb (fun b j _ _ => by omega) e2 hve.2.2.2.1, (fx.1 _ _ (by unfold Pc; omega)).1.trans hK.2.2.1, cN_fr fx (by unfold Pc; omega) (by unfold Pc; omega) hK.2.2.2.1, cN_fr fx (by unfold Pc; omega) (by unfold Pc; omega) tw⟩ (CVh_fr fx (fun b j w => by unfold Pc; omega) hA2 h1) (cD_fr fx (fun b j _ _ => by unfold Pc; omega) p3 hv.2.2.2.1) (by show gI _ 0 6 = i3 1; rw [gI_sI, if_pos ⟨rfl, rfl⟩]; rfl) (fun _ => ⟨by rw [gI_sI, if_neg (by omega), gI_sI, if_neg (by omega), gI_sI, if_pos ⟨rfl, rfl⟩]; rfl, by rw [gI_sI, if_neg (by omega), gI_sI, if_pos ⟨rfl, rfl⟩]; rfl, fun i hi => absurd hi (Nat.not_lt_zero i)⟩) (CVz_fr fx (fun b j w => by unfold Pc; omega) zc) hve (fun q => absurd rfl q) (fun _ => ⟨rfl, rfl, by show ¬ (1 : Int) = 2; decide, rfl, rfl, rfl, rfl, rfl, rfl, rfl, rfl⟩)
      exact this
  · have b1 : (!decide (k < 144) && !decide (152 ≤ k)) = false := by
      by_cases w : k < 144
      · rw [decide_eq_true w]; rfl
      · rw [decide_eq_true (show 152 ≤ k by omega), Bool.not_true, Bool.and_false]
    rw [if_pos b1, if_neg gs]
    obtain ⟨y1, y2, y3, y4⟩ := ckey hk hK
    have hkc := aKey_c (mdl := qM A) (k := k) hv
    have hvk := aKey_v (mdl := qM A) (k := k) (by omega) hv
    refine ⟨⟨p1, fun _ => y1, fun q => (by rw [b1] at q; cases q)⟩, ?_⟩
    rw [y3]
    have fk : fr (Pky nx) s (ca_doKey t (i3 k)).2 := fr_trans f1 (fr_mono y2 (fun b j q => Or.inl q))
    have dk : ∀ {A' : aA}, qM A' = qM A → qD A' = (aKey (qM A) k (qD A)).2 → CVd (ca_doKey t (i3 k)).2 A' := fun hm hd => ⟨by rw [hd]; exact y4, by rw [hm]; exact (y2.1 _ _ (by unfold Pc; omega)).1.trans hK.2.2.1, cN_fr y2 (by unfold Pc; omega) (by unfold Pc; omega) hK.2.2.2.1, cN_fr y2 (by unfold Pc; omega) (by unfold Pc; omega) tw⟩
    have hh := CVh_fr y2 (fun b j w => by unfold Pc; omega) hA2 h1
    have pp := cD_fr y2 (fun b j _ _ => by unfold Pc; omega) p3 hv.2.2.2.1
    have rr : gI (ca_doKey t (i3 k)).2 0 6 = i3 (qR A) := (y2.1 _ _ (by unfold Pc; omega)).1.trans r1
    have zz := CVz_fr y2 (fun b j w => by unfold Pc; omega) zc
    by_cases gk : (aKey (qM A) k (qD A)).1 = 0
    · rw [if_pos gk, gk]
      exact tail (c := 0) (A' := zD (aPush A (qD A)) (aKey (qM A) k (qD A)).2) fk (by omega) (dk rfl rfl) hh pp rr (fun q => absurd hr q) zz hvk (fun q => absurd rfl q) (fun _ => ⟨rfl, rfl, by show ¬ qR A = 2; omega, rfl, rfl, rfl, rfl, rfl, rfl, rfl, rfl⟩)
    · rw [if_neg gk]
      have hD : (aKey (qM A) k (qD A)).2 = qD A := by
        revert gk
        unfold aKey
        split
        · unfold aEnt
          cases eLives (eTake (eIn (qD A)) k)
          · exact fun q => absurd rfl q
          · dsimp only [cond_true]
            split
            · exact fun q => absurd rfl q
            · exact fun _ => rfl
        · split
          · unfold aFn; split
            · exact fun q => absurd rfl q
            · exact fun _ => rfl
          · split
            · exact fun q => absurd rfl q
            · split
              · split
                · unfold aForm; split
                  · exact fun _ => rfl
                  · split
                    · exact fun _ => rfl
                    · split
                      · exact fun q => absurd rfl q
                      · exact fun _ => rfl
                · exact fun _ => rfl
              · split
                · unfold aOper; split
                  · exact fun q => absurd rfl q
                  · exact fun _ => rfl
                · unfold aStack
                  repeat (split; exact fun q => absurd rfl q)
                  exact fun _ => rfl
      exact tail (c := (aKey (qM A) k (qD A)).1) (A' := A) fk hkc (dk rfl hD.symm) hh pp rr (fun q => absurd hr q) zz hv (fun _ => rfl) (fun q => absurd q gk)
