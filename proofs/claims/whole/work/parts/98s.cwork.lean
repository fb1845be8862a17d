/-! the whole translation, at the class -/
theorem aT1_c {k : Int} {t : aT} : 0 ≤ (aT1 k t).1 ∧ (aT1 k t).1 ≤ 6 := by
  unfold aT1 aTrow
  repeat' split
  all_goals (dsimp only; omega)
theorem aTall_c (tx : Nat → Int) : ∀ (n i : Nat) (t : aT), 0 ≤ (aTall tx n i t).1 ∧ (aTall tx n i t).1 ≤ 6 := by
  intro n
  induction n with
  | zero => intro i t; unfold aTall; split <;> (dsimp only; omega)
  | succ n ih =>
    intro i t
    unfold aTall
    split
    · exact ih ..
    · exact aT1_c
theorem aTall_n (tx : Nat → Int) : ∀ (n i : Nat) (t : aT), wT i t → (aTall tx n i t).1 = 0 → (aTall tx n i t).2.1 ≤ 2 * (n + i) := by
  intro n
  induction n with
  | zero =>
    intro i t h
    unfold aTall
    split
    · intro _
      have := aCO_n (tT t) (l := 0) (tN t) (tO t, tG t) (Nat.zero_le _)
      have h5 := h.2.2.2.2
      dsimp only at this ⊢
      have e0 : aNm (tT t) 0 = 0 := rfl
      omega
    · exact fun q => absurd q (show ¬ (5 : Int) = 0 by decide)
  | succ n ih =>
    intro i t h
    unfold aTall
    split
    · rename_i g
      intro q
      have := ih (i + 1) _ (wT_1 h g) q
      omega
    · rename_i g
      exact fun q => absurd q g
theorem wT_0 (ok : Nat → Int) : wT 0 (aT0 ok) := ⟨by show 0 ≤ 8; omega, fun i hi => absurd hi (Nat.not_lt_zero i), by show (0 : Int) ≤ 0 ∧ (0 : Int) ≤ 2; omega, fun q => absurd q (show ¬ false = true by decide), Nat.le_refl _⟩
theorem aTn_le (A : aA) : aTn A ≤ qTn A := by unfold aTn; split <;> omega
theorem VA_trans {A : aA} (hA : VA A) : VA (aTrans A).2 := by
  have hn := aTn_le A
  obtain ⟨h1, h2, h3, h4, h5, h6⟩ := hA
  have hT := h6.2.1
  unfold aTrans
  by_cases g : (aTres A).1 = 0
  · rw [if_pos g]
    have := aTall_n (qTx A) (aTn A) 0 (aT0 (qOk A)) (wT_0 _) g
    exact ⟨h1, h2, h3, h4, h5, h6.1, h6.2.1, h6.2.2.1, by show (aTres A).2.1 ≤ 100; unfold aTres; omega⟩
  · rw [if_neg g]
    exact ⟨h1, h2, h3, h4, h5, h6.1, h6.2.1, h6.2.2.1, by show 0 ≤ 100; omega⟩
theorem cfol_49 {tx : Nat → Int} {N : Nat} (hN : N ≤ 40) (htx : ∀ j, j < N → 0 ≤ tx j ∧ tx j ≤ 255) : ∀ (n i : Nat) (s : xS) (t : aT), i ≤ N → N + 1 ≤ n + i → wT i t → (∀ j, j < N → gI s 227 j = i3 (tx j)) → ctr s t → tr_follow_49_ok n s (i3 N) (i3 i) ∧ fr Ptr s (tr_follow_49 n s (i3 N) (i3 i)).2 ∧ (tr_follow_49 n s (i3 N) (i3 i)).1 = i3 (aTall tx (N - i) i t).1 ∧ ((aTall tx (N - i) i t).1 = 0 → txt (tr_follow_49 n s (i3 N) (i3 i)).2 225 226 1 (aTall tx (N - i) i t).2) := by
  intro n
  induction n with
  | zero => intro i s t k1 k2; omega
  | succ n ih =>
    intro i s t k1 k2 hw ht h
    obtain ⟨w1, w2, w3, w4, w5⟩ := hw
    have hw : wT i t := ⟨w1, w2, w3, w4, w5⟩
    unfold tr_follow_49 tr_follow_49_ok
    have c1 : (i3 N ≤ i3 i) = (N ≤ i) := by exact i3_leN (by omega) (by omega)
    have e1 : i3 i + 1 = i3 (i + 1 : Nat) := by rw [i3_lit, i3_add]; rfl
    have c2 : (gI s 228 2 = 2) = (tP t = 2) := by rw [h.2.1, i3_lit, i3_eq (by omega)]
    simp only [c1, e1, c2]
    by_cases g : N ≤ i
    · rw [if_pos g, show N - i = 0 by omega]
      unfold aTall
      obtain ⟨b1, b2⟩ := cbr h.1
      by_cases g2 : tP t = 2
      · rw [if_neg (show ¬ ¬ tP t = 2 from fun q => q g2), b2]
        cases hb : aBr (tT t) (tN t)
        · rw [if_pos (show false = false from rfl), if_pos (show tP t = 2 ∧ false = false from ⟨g2, rfl⟩)]
          obtain ⟨y1, y2, y3⟩ := ctclose (l := 0) (by omega) (by omega) h
          have y1' : tr_close_ok s 0 := y1
          have y2' : fr Ptr s (tr_close s 0) := y2
          exact ⟨⟨fun _ _ => ⟨b1, fun _ => y1'⟩, fun q => absurd g q⟩, y2', rfl, fun _ => y3.2.2.2.2⟩
        · rw [if_neg (show ¬ true = false by decide), if_neg (show ¬ (tP t = 2 ∧ true = false) from fun q => by cases q.2)]
          exact ⟨⟨fun _ _ => ⟨b1, fun q => (by cases q)⟩, fun q => absurd g q⟩, fr_refl .., rfl, fun q => absurd q (show ¬ (5 : Int) = 0 by decide)⟩
      · rw [if_pos (show ¬ tP t = 2 from g2), if_neg (show ¬ (tP t = 2 ∧ _) from fun q => g2 q.1)]
        exact ⟨⟨fun _ q => absurd q g2, fun q => absurd g q⟩, fr_refl .., rfl, fun q => absurd q (show ¬ (5 : Int) = 0 by decide)⟩
    · rw [if_neg g, i3_natN (by omega), ht i (by omega)]
      obtain ⟨m, hm⟩ : ∃ m, N - i = m + 1 := ⟨N - i - 1, by omega⟩
      have hm' : N - (i + 1) = m := by omega
      rw [hm]
      unfold aTall
      obtain ⟨y1, y2, y3, y4⟩ := ct1 (k := tx i) (htx i (by omega)) w3 (by omega) h
      have hc := aT1_c (k := tx i) (t := t)
      have c3 : ((tr_take s (i3 (tx i))).1 = 0) = ((aT1 (tx i) t).1 = 0) := by rw [y3, i3_lit, i3_eq (by omega)]
      simp only [c3]
      have hin : vp_in (i3 (i : Int)) 40 := by rw [i3_inN (by omega)]; omega
      by_cases g2 : (aT1 (tx i) t).1 = 0
      · rw [if_pos g2, if_pos g2]
        obtain ⟨p1, p2, p3⟩ := ih (i + 1) (tr_take s (i3 (tx i))).2 (aT1 (tx i) t).2 (by omega) (by omega) (wT_1 hw g2) (fun j hj => (y2.1 _ _ (by unfold Ptr; omega)).1.trans (ht j hj)) (y4 g2)
        rw [hm'] at p3
        exact ⟨⟨fun q => absurd q g, fun _ => ⟨hin, y1, fun _ => p1⟩⟩, fr_trans y2 p2, p3⟩
      · rw [if_neg g2, if_neg g2]
        exact ⟨⟨fun q => absurd q g, fun _ => ⟨hin, y1, fun q => absurd q g2⟩⟩, y2, y3, fun q => absurd q g2⟩
theorem ctrans {s : xS} {A : aA} (hA : VA A) (h : CV s A) : te_translate_ok s ∧ fr Pcl s (te_translate s).2 ∧ (te_translate s).1 = i3 (aTrans A).1 ∧ CV (te_translate s).2 (aTrans A).2 := by
  have hT := hA.2.2.2.2.2.2.1
  have htx := hA.2.2.2.2.2.2.2.1
  obtain ⟨q1, q2, q3, ⟨nx, q4⟩, q5, q6, q7, q8, q9, q10⟩ := h
  rw [te_translate_eq]
  unfold te_translate_ok te_translate_d
  rw [tr_work_eq]
  unfold tr_work_ok tr_work_d
  rw [ro_clear_eq]
  unfold ro_clear_d
  have f0 : fr Ptr s (sI (sI (sI (sI (sI s 225 1 0) 228 1 0) 228 2 0) 225 5 0) 225 6 0) := fr_sI (fr_sI (fr_sI (fr_sI (fr_sI (fr_refl ..) (by unfold Ptr; omega)) (by unfold Ptr; omega)) (by unfold Ptr; omega)) (by unfold Ptr; omega)) (by unfold Ptr; omega)
  have h0 : ctr (sI (sI (sI (sI (sI s 225 1 0) 228 1 0) 228 2 0) 225 5 0) 225 6 0) (aT0 (qOk A)) := by
    refine ⟨⟨?_, fun i hi => absurd hi (Nat.not_lt_zero i), by show 0 ≤ 8; omega, fun i hi => absurd hi (Nat.not_lt_zero i), rfl⟩, ?_, ?_, ?_, ?_, fun i hi => absurd hi (Nat.not_lt_zero i)⟩
    · rw [gI_sI, if_neg (by omega), gI_sI, if_neg (by omega), gI_sI, if_neg (by omega), gI_sI, if_pos ⟨rfl, rfl⟩]; rfl
    · rw [gI_sI, if_neg (by omega), gI_sI, if_neg (by omega), gI_sI, if_pos ⟨rfl, rfl⟩]; rfl
    · rw [gI_sI, if_neg (by omega), gI_sI, if_pos ⟨rfl, rfl⟩]; rfl
    · rw [gI_sI, if_pos ⟨rfl, rfl⟩]; rfl
    · rw [gI_sI, if_neg (by omega), gI_sI, if_neg (by omega), gI_sI, if_neg (by omega), gI_sI, if_neg (by omega), gI_sI, if_pos ⟨rfl, rfl⟩]; rfl
  generalize sI (sI (sI (sI (sI s 225 1 0) 228 1 0) 228 2 0) 225 5 0) 225 6 0 = u at *
  have eN : gI u 225 2 = i3 (qTn A) := (f0.1 _ _ (by unfold Ptr; omega)).1.trans q9.1
  have eT : ∀ j, j < qTn A → gI u 227 j = i3 (qTx A j) := fun j hj => (f0.1 _ _ (by unfold Ptr; omega)).1.trans (q9.2 j hj)
  have hn := aTn_le A
  obtain ⟨p1, p2, p3, p4⟩ := cfol_49 (tx := qTx A) (N := aTn A) (by omega) (fun j hj => by have := htx j (by omega); omega) xfu 0 u (aT0 (qOk A)) (Nat.zero_le _) (by rw [xfu_eq]; omega) (wT_0 _) (fun j hj => eT j (by omega)) h0
  have p1' : tr_follow_49_ok xfu u (i3 (aTn A : Nat)) 0 := p1
  have p2' : fr Ptr u (tr_follow_49 xfu u (i3 (aTn A : Nat)) 0).2 := p2
  have p3' : (tr_follow_49 xfu u (i3 (aTn A : Nat)) 0).1 = i3 (aTres A).1 := p3
  have p4' : (aTres A).1 = 0 → txt (tr_follow_49 xfu u (i3 (aTn A : Nat)) 0).2 225 226 1 (aTres A).2 := p4
  have fol : tr_follow_ok u ∧ tr_follow u = tr_follow_49 xfu u (i3 (aTn A : Nat)) 0 := by
    rw [tr_follow_eq]
    unfold tr_follow_ok tr_follow_d
    have c0 : (gI u 225 2 ≤ 0) = (qTn A = 0) := by rw [eN, i3_lit, i3_le (by omega)]; apply propext; omega
    simp only [c0]
    by_cases g : qTn A = 0
    · rw [if_pos g, tr_follow_27_eq]
      unfold tr_follow_27_ok tr_follow_27_d
      rw [tr_follow_28_eq]
      unfold tr_follow_28_ok tr_follow_28_d
      rw [if_pos (show (0 : Int32) = 0 from rfl), eN]
      have e : aTn A = qTn A := by unfold aTn; rw [if_neg (by omega)]
      rw [e] at p1'
      rw [e]
      exact ⟨⟨fun _ => p1', fun q => absurd g q⟩, rfl⟩
    · rw [if_neg g]
      have e1 : gI u 225 2 - 1 = i3 (qTn A - 1 : Nat) := by rw [eN, i3_lit, i3_sub]; exact congrArg i3 (by omega)
      rw [e1, i3_natN (by omega), eT _ (by omega), eN]
      have hx := htx (qTn A - 1) (by omega)
      have c61 : (i3 (qTx A (qTn A - 1)) = 61) = (qTx A (qTn A - 1) = 61) := by rw [i3_lit, i3_eq (by omega)]
      simp only [c61, decide_eq_true_eq]
      have e : (if qTx A (qTn A - 1) = 61 then i3 (qTn A - 1 : Nat) else i3 (qTn A)) = i3 (aTn A : Nat) := by
        unfold aTn
        by_cases w : qTx A (qTn A - 1) = 61
        · rw [if_pos w, if_pos ⟨by omega, w⟩]
        · rw [if_neg w, if_neg (fun q => w q.2)]
      rw [e]
      exact ⟨⟨fun q => absurd q g, fun _ => ⟨by rw [i3_inN (by omega)]; omega, p1'⟩⟩, rfl⟩
  rw [fol.2]
  have hc : 0 ≤ (aTres A).1 ∧ (aTres A).1 ≤ 6 := aTall_c ..
  have c9 : ((tr_follow_49 xfu u (i3 (aTn A : Nat)) 0).1 = 0) = ((aTres A).1 = 0) := by rw [p3', i3_lit, i3_eq (by omega)]
  simp only [c9]
  unfold aTrans
  have f1 := fr_trans f0 p2'
  have fin : ∀ {v : xS} {o : Nat} {ok : Nat → Int}, fr Ptr s v → txt v 225 226 1 (o, ok) → CV v (zO A o ok) := fun f hx => ⟨CVd_fr f (fun b j w => by unfold Ptr; omega) hA.1.1 q1, CVf_fr f (by unfold Ptr; omega) q2, CVr_fr f (by unfold Ptr; omega) q3, ⟨nx, CVh_fr f (fun b j w => by unfold Ptr; omega) hA.2.1 q4⟩, CVp_fr f (fun j => by unfold Ptr; omega) q5, CVe_fr f (fun b j w => by unfold Ptr; omega) q6, CVs_fr f (fun b j w => by unfold Ptr; omega) q7, CVl_fr f (fun j w => by unfold Ptr; omega) q8, CVt_fr f (by unfold Ptr; omega) (fun j => by unfold Ptr; omega) q9, hx⟩
  by_cases g : (aTres A).1 = 0
  · rw [if_pos g, if_pos g]
    have hx := p4' g
    exact ⟨fol.1, fr_mono f1 (fun b j q => by unfold Ptr at q; unfold Pcl; omega), hx.1, fin f1 hx⟩
  · rw [if_neg g, if_neg g, p3', i3_neg]
    have f2 : fr Ptr s (sI (tr_follow_49 xfu u (i3 (aTn A : Nat)) 0).2 225 1 0) := fr_sI f1 (by unfold Ptr; omega)
    exact ⟨fol.1, fr_mono f2 (fun b j q => by unfold Ptr at q; unfold Pcl; omega), rfl, fin f2 ⟨by rw [gI_sI, if_pos ⟨rfl, rfl⟩]; rfl, fun i hi => absurd hi (Nat.not_lt_zero i)⟩⟩
