/-! KEYS PRESSED, at the reference; and a row of keys -/
theorem aKey_hi {mdl k : Int} {D : aD} (h : 128 ≤ k) : aKey mdl k D = (1, D) := by
  have nb : ¬ isBg k = true := by
    unfold isBg isDg
    simp only [Bool.or_eq_true, Bool.and_eq_true, decide_eq_true_eq]
    omega
  have no : ¬ isOp k = true := by
    intro w; rcases isOp_k w with w | w | w | w <;> omega
  have nr : ¬ isRk k = true := by
    intro w
    unfold isRk at w
    simp only [Bool.or_eq_true, decide_eq_true_eq] at w
    rcases w with w | w | w | w
    · exact no w
    · omega
    · omega
    · omega
  unfold aKey
  rw [if_neg (show ¬ (isBg k = true ∨ (dOn D = true ∧ (k = 78 ∨ k = 66))) from fun q => by rcases q with q | q; exact nb q; omega), if_neg (show ¬ (k = 81 ∨ k = 83 ∨ k = 73) by omega), if_neg (show ¬ (k = 78 ∨ k = 66 ∨ k = 67 ∨ (97 ≤ k ∧ k ≤ 116)) by omega)]
  split
  · first
      | rfl
      | rw [if_neg nr]
  · try rw [if_neg no]
    unfold aStack
    rw [if_neg (show ¬ k = 61 by omega), if_neg (show ¬ k = 76 by omega), if_neg (show ¬ k = 87 by omega), if_neg (show ¬ k = 68 by omega)]
def RVz (s : xS) (A : aA) : Prop := RVp s A ∧ RVs s A ∧ RVl s A ∧ RVt s A ∧ RVo s A
theorem RVz_fr {P : Nat → Nat → Prop} {s t : xS} {A : aA} (f : fr P s t) (h : ∀ b j, (b = 230 ∧ (11 ≤ j ∧ j ≤ 24)) ∨ b = 233 ∨ (235 ≤ b ∧ b ≤ 240) → ¬ P b j) (q : RVz s A) : RVz t A := by
  obtain ⟨q1, q2, q3, q4, q5⟩ := q
  exact ⟨RVp_fr f (fun j => h _ _ (by omega)) q1, RVs_fr f (fun j w => h _ _ (by omega)) (fun b j w => h _ _ (by omega)) q2, RVl_fr f (fun j _ => h _ _ (by omega)) q3, RVt_fr f (h _ _ (by omega)) (fun j => h _ _ (by omega)) q4, RVo_fr f (h _ _ (by omega)) (fun j => h _ _ (by omega)) q5⟩
/-- what all keys change, at the reference -/
def Pkr (b j : Nat) : Prop := (b = 230 ∧ (j ≤ 5 ∨ (8 ≤ j ∧ j ≤ 10) ∨ (29 ≤ j ∧ j ≤ 31))) ∨ (b = 231 ∧ j < 560) ∨ (b = 232 ∧ j < 168) ∨ b = 242 ∨ b = 234
theorem Pr_k {s t : xS} (h : fr Pr s t) : fr Pkr s t := fr_mono h (fun b j q => by unfold Pr at q; unfold Pkr; omega)
theorem Pkr_rl {s t : xS} (h : fr Pkr s t) : fr Prl s t := fr_mono h (fun b j q => by unfold Pkr at q; unfold Prl; omega)
theorem Pkr_z {s t : xS} {A : aA} (f : fr Pkr s t) (q : RVz s A) : RVz t A := RVz_fr f (fun b j w => by unfold Pkr; omega) q
/-- what is done with one key of the row, at the reference -/
noncomputable def rPr1 (s : xS) (k : Int32) : Int32 × xS := if (tm_pressed (tm_copy s 0 6) k).1 ≤ 0 then (0, sI (tm_keep (tm_pressed (tm_copy s 0 6) k).2 6) 230 5 0) else ((tm_pressed (tm_copy s 0 6) k).1, sI (tm_copy (tm_pressed (tm_copy s 0 6) k).2 6 0) 230 5 (tm_pressed (tm_copy s 0 6) k).1)
def rPr1_ok (s : xS) (k : Int32) : Prop := tm_copy_ok s 0 6 ∧ tm_pressed_ok (tm_copy s 0 6) k ∧ ((tm_pressed (tm_copy s 0 6) k).1 ≤ 0 → tm_keep_ok (tm_pressed (tm_copy s 0 6) k).2 6) ∧ (¬ (tm_pressed (tm_copy s 0 6) k).1 ≤ 0 → tm_copy_ok (tm_pressed (tm_copy s 0 6) k).2 6 0)
theorem rpress1 {s : xS} {A : aA} {k : Int} (hk : 1 ≤ k ∧ k ≤ 255) (hr : qR A = 0) (hA : VA A) (h : RV s A) : rPr1_ok s (i3 k) ∧ fr Pkr s (rPr1 s (i3 k)).2 ∧ (rPr1 s (i3 k)).1 = i3 (aPr1 k A).1 ∧ RV (rPr1 s (i3 k)).2 (aPr1 k A).2 ∧ gI (rPr1 s (i3 k)).2 230 0 = gI s 230 0 := by
  obtain ⟨q1, q2, q3, q4, q5, q6, q7, q8, q9, q10⟩ := h
  obtain ⟨hA1, hA2, hA3, hA4, hA5, hA6⟩ := hA
  have hv := hA1.1
  have hz : RVz s A := ⟨q5, q7, q8, q9, q10⟩
  unfold rPr1_ok rPr1
  obtain ⟨p1, p2, p3⟩ := rcopy s (f := 0) (i := 6) (by omega) (by omega) (by omega)
  have p1' : tm_copy_ok s 0 6 := p1
  have p2' : fr (Pb 6) s (tm_copy s 0 6) := p2
  have p3' : rD (tm_copy s 0 6) 6 (qD A) := p3 _ hv q1.1
  have f1 : fr Pkr s (tm_copy s 0 6) := fr_mono p2' (fun b j q => by unfold Pb at q; unfold Pkr; omega)
  have d1 : rD (tm_copy s 0 6) 0 (qD A) := rD_fr p2' (fun j _ _ => by unfold Pb; omega) (fun j _ _ => by unfold Pb; omega) hv q1.1
  have m1 : gI (tm_copy s 0 6) 230 4 = i3 (qM A) := (p2'.1 _ _ (by unfold Pb; omega)).1.trans q1.2
  have r1 : gI (tm_copy s 0 6) 230 9 = i3 (qR A) := (p2'.1 _ _ (by unfold Pb; omega)).1.trans q3
  have h1 : gI (tm_copy s 0 6) 230 3 = i3 (qK A) ∧ ∀ j, 1 ≤ j → j ≤ qK A → rD (tm_copy s 0 6) j (qH A j) := by
    have hK := hA2.1
    exact ⟨(p2'.1 _ _ (by unfold Pb; omega)).1.trans q4.1, fun j j1 j2 => rD_fr p2' (fun m _ _ => by unfold Pb; omega) (fun m _ _ => by unfold Pb; omega) (hA2.2.1 j j1 j2) (q4.2.1 j j1 j2)⟩
  have z1 : RVz (tm_copy s 0 6) A := Pkr_z f1 hz
  have t0 : gI (tm_copy s 0 6) 230 0 = gI s 230 0 := (p2'.1 _ _ (by unfold Pb; omega)).1
  have hK : rK (qM A) (tm_copy s 0 6) (qD A) := ⟨d1, hv, m1, hA1.2.1⟩
  generalize tm_copy s 0 6 = t at *
  -- the tail: kept, or given back
  have tail : ∀ {y : Int32 × xS} {c : Int} {A' : aA}, y.1 = i3 c → (0 ≤ c ∧ c ≤ 9) → fr (fun b j => Pr b j ∨ (b = 230 ∧ (8 ≤ j ∧ j ≤ 10))) t y.2 → (c = 0 → RVd y.2 A' ∧ RVr y.2 A' ∧ RVe y.2 A' ∧ vD (qD A')) → (c ≠ 0 → A' = A ∧ gI y.2 230 9 = i3 (qR A)) → (c = 0 → qK A' = kPush (qK A) ∧ qH A' = hPush (qK A) (qH A) (qD A) ∧ qR A' ≠ 2 ∧ qC A' = qC A ∧ qV A' = qV A ∧ qSc A' = qSc A ∧ qPl A' = qPl A ∧ qTn A' = qTn A ∧ qTx A' = qTx A ∧ qOn A' = qOn A ∧ qOk A' = qOk A) → ((y.1 ≤ 0 → tm_keep_ok y.2 6) ∧ (¬ y.1 ≤ 0 → tm_copy_ok y.2 6 0)) ∧ fr Pkr s (if y.1 ≤ 0 then (0, sI (tm_keep y.2 6) 230 5 0) else (y.1, sI (tm_copy y.2 6 0) 230 5 y.1)).2 ∧ (if y.1 ≤ 0 then (0, sI (tm_keep y.2 6) 230 5 0) else (y.1, sI (tm_copy y.2 6 0) 230 5 y.1)).1 = i3 c ∧ RV (if y.1 ≤ 0 then (0, sI (tm_keep y.2 6) 230 5 0) else (y.1, sI (tm_copy y.2 6 0) 230 5 y.1)).2 (zF A' c) ∧ gI (if y.1 ≤ 0 then (0, sI (tm_keep y.2 6) 230 5 0) else (y.1, sI (tm_copy y.2 6 0) 230 5 y.1)).2 230 0 = gI s 230 0 := by
    intro y c A' hy hc fy h0 hne heq
    have c3 : (y.1 ≤ 0) = (c = 0) := by rw [hy, i3_lit, i3_le (by omega)]; apply propext; omega
    simp only [c3]
    generalize y.2 = u at *
    have hb : rD u 6 (qD A) := rD_fr fy (fun j _ _ => by unfold Pr; omega) (fun j _ _ => by unfold Pr; omega) hv p3'
    have hh : gI u 230 3 = i3 (qK A) ∧ ∀ j, 1 ≤ j → j ≤ qK A → rD u j (qH A j) := by
      have hK := hA2.1
      exact ⟨(fy.1 _ _ (by unfold Pr; omega)).1.trans h1.1, fun j j1 j2 => rD_fr fy (fun m _ _ => by unfold Pr; omega) (fun m _ _ => by unfold Pr; omega) (hA2.2.1 j j1 j2) (h1.2 j j1 j2)⟩
    have fu : fr Pkr s u := fr_trans f1 (fr_mono fy (fun b j q => by unfold Pr at q; unfold Pkr; omega))
    have tu : gI u 230 0 = gI s 230 0 := (fy.1 _ _ (by unfold Pr; omega)).1.trans t0
    have zu : RVz u A := RVz_fr fy (fun b j w => by unfold Pr; omega) z1
    by_cases g : c = 0
    · rw [if_pos g]
      obtain ⟨y1, y2, y3, y4, y5, y6, y7, y8, y9, y10, y11⟩ := heq g
      obtain ⟨e1, e2, e3, e4⟩ := h0 g
      obtain ⟨k1, k2, k3, k4⟩ := rkeep (f := 6) (Or.inl rfl) hA2 hv hb hh
      have k1' : tm_keep_ok u 6 := k1
      have k2' : fr (fun b j => (b = 230 ∧ j = 3) ∨ (b = 231 ∧ 80 ≤ j ∧ j < 480) ∨ (b = 232 ∧ 24 ≤ j ∧ j < 144)) u (tm_keep u 6) := k2
      have k3' : gI (tm_keep u 6) 230 3 = i3 (kPush (qK A)) := k3
      have k4' : ∀ j, 1 ≤ j → j ≤ kPush (qK A) → rD (tm_keep u 6) j (hPush (qK A) (qH A) (qD A) j) := k4
      have f5 : fr (fun b j => b = 230 ∧ j = 5) (tm_keep u 6) (sI (tm_keep u 6) 230 5 0) := fr_sI (fr_refl ..) ⟨rfl, rfl⟩
      have f6 : fr (fun b j => (b = 230 ∧ (j = 3 ∨ j = 5)) ∨ (b = 231 ∧ 80 ≤ j ∧ j < 480) ∨ (b = 232 ∧ 24 ≤ j ∧ j < 144)) u (sI (tm_keep u 6) 230 5 0) := fr_trans (fr_mono k2' (fun b j q => by omega)) (fr_mono f5 (fun b j q => by omega))
      obtain ⟨w1, w2, w3, w4, w5⟩ := RVz_fr f6 (fun b j w => by omega) zu
      have vh := vPush hA2 hv
      refine ⟨⟨fun _ => k1', fun q => absurd g q⟩, fr_trans fu (fr_mono f6 (fun b j q => by unfold Pkr; omega)), by rw [g]; rfl, ⟨RVd_fr f6 (fun j _ => by omega) (fun j _ => by omega) (by omega) e4 e1, ?_, RVr_fr f6 (by omega) e2, ⟨?_, fun j j1 j2 => ?_, fun w => absurd w y3⟩, ?_, RVe_fr f6 (by omega) (by omega) (fun j => by omega) e3, ?_, ?_, ?_, ?_⟩, (f6.1 _ _ (by omega)).1.trans tu⟩
      · show gI _ 230 5 = i3 c; rw [gI_sI, if_pos ⟨rfl, rfl⟩, g]; rfl
      · show gI _ 230 3 = i3 (qK A'); rw [y1, gI_sI, if_neg (by omega)]; exact k3'
      · show rD _ j (qH A' j)
        have j2' : j ≤ qK A' := j2
        rw [y1] at j2'
        rw [y2]
        exact rD_fr f5 (fun m _ _ => by omega) (fun m _ _ => by omega) (vh.2.1 j j1 j2') (k4' j j1 j2')
      · intro i hi; show gI _ 233 i = i3 (qC A' i); rw [y4]; exact w1 i hi
      · refine ⟨?_, fun w => absurd w y3⟩
        show gI _ 230 13 = i3 (qV A'); rw [y5]; exact w2.1
      · exact ⟨by show gI _ 230 17 = zb (qSc A'); rw [y6]; exact w3.1, by show gI _ 230 18 = i3 (qPl A'); rw [y7]; exact w3.2⟩
      · exact ⟨by show gI _ 230 22 = i3 (qTn A'); rw [y8]; exact w4.1, fun i hi => by show gI _ 239 i = i3 (qTx A' i); rw [y9]; exact w4.2 i (by have : i < qTn A' := hi; rw [y8] at this; exact this)⟩
      · exact ⟨by show gI _ 230 24 = i3 (qOn A'); rw [y10]; exact w5.1, fun i hi => by show gI _ 240 i = i3 (qOk A' i); rw [y11]; exact w5.2 i (by have : i < qOn A' := hi; rw [y10] at this; exact this)⟩
    · rw [if_neg g]
      obtain ⟨hAA, hr9⟩ := hne g
      subst hAA
      obtain ⟨k1, k2, k3⟩ := rcopy u (f := 6) (i := 0) (by omega) (by omega) (by omega)
      have k1' : tm_copy_ok u 6 0 := k1
      have k2' : fr (Pb 0) u (tm_copy u 6 0) := k2
      have k3' : rD (tm_copy u 6 0) 0 (qD A') := k3 _ hv hb
      rw [hy]
      have f5 : fr (fun b j => b = 230 ∧ j = 5) (tm_copy u 6 0) (sI (tm_copy u 6 0) 230 5 (i3 c)) := fr_sI (fr_refl ..) ⟨rfl, rfl⟩
      have f6 : fr (fun b j => (b = 230 ∧ j = 5) ∨ (b = 231 ∧ j < 80) ∨ (b = 232 ∧ j < 24)) u (sI (tm_copy u 6 0) 230 5 (i3 c)) := fr_trans (fr_mono k2' (fun b j q => by unfold Pb at q; omega)) (fr_mono f5 (fun b j q => by omega))
      obtain ⟨w1, w2, w3, w4, w5⟩ := RVz_fr f6 (fun b j w => by omega) zu
      have hK5 := hA2.1
      refine ⟨⟨fun q => absurd q g, fun _ => k1'⟩, fr_trans fu (fr_mono f6 (fun b j q => by unfold Pkr; omega)), rfl, ⟨⟨rD_fr f5 (fun m _ _ => by omega) (fun m _ _ => by omega) hv k3', (f6.1 _ _ (by omega)).1.trans ((fy.1 _ _ (by unfold Pr; omega)).1.trans m1)⟩, ?_, (f6.1 _ _ (by omega)).1.trans hr9, ⟨(f6.1 _ _ (by omega)).1.trans hh.1, fun j j1 j2 => rD_fr f6 (fun m _ _ => by omega) (fun m _ _ => by omega) (hA2.2.1 j j1 j2) (hh.2 j j1 j2), fun w => absurd w (by show ¬ qR A' = 2; omega)⟩, w1, fun w => absurd hr w, w2, w3, w4, w5⟩, (f6.1 _ _ (by omega)).1.trans tu⟩
      show gI _ 230 5 = i3 c; rw [gI_sI, if_pos ⟨rfl, rfl⟩]
  rw [tm_pressed_eq]
  unfold tm_pressed_ok tm_pressed_d
  rw [tm_pressed_49_eq]
  unfold tm_pressed_49_ok tm_pressed_49_d
  have c1 : (i3 k < 144) = (k < 144) := by rw [i3_lit, i3_lt (by omega)]
  have c2 : ((151 : Int32) < i3 k) = (151 < k) := by rw [i3_lit, i3_lt (by omega)]
  have c4 : (i3 k ≤ 127) = (k ≤ 127) := by rw [i3_lit, i3_le (by omega)]
  simp only [c1, c2, c4]
  have hkc := aKey_c (mdl := qM A) (k := k) hv
  -- a key of the calculator
  have key : ((k ≤ 127 → tm_key_ok t (i3 k)) ∧ fr Pr t (if k ≤ 127 then tm_key t (i3 k) else (1, t)).2 ∧ (if k ≤ 127 then tm_key t (i3 k) else (1, t)).1 = i3 (aKey (qM A) k (qD A)).1 ∧ ((aKey (qM A) k (qD A)).1 = 0 → rD (if k ≤ 127 then tm_key t (i3 k) else (1, t)).2 0 (aKey (qM A) k (qD A)).2)) := by
    by_cases g : k ≤ 127
    · rw [if_pos g]
      obtain ⟨y1, y2, y3, y4⟩ := rkey hk hK
      exact ⟨fun _ => y1, y2, y3, y4⟩
    · rw [if_neg g, aKey_hi (by omega)]
      exact ⟨fun q => absurd q g, fr_refl .., rfl, fun q => absurd q (show ¬ (1 : Int) = 0 by decide)⟩
  unfold aPr1
  by_cases gs : 144 ≤ k ∧ k ≤ 151
  · rw [if_neg (show ¬ k < 144 by omega), if_neg (show ¬ 151 < k by omega), if_pos gs]
    have ek : i3 k - 144 = i3 (k - 144) := by rw [i3_lit, i3_sub]
    obtain ⟨l1, l2⟩ := rlab (k := k - 144) (s := t) z1.1 hA3 (by omega)
    have lr := aLab_rng (qC A) (k - 144)
    rw [ek, l2]
    have c3 : ((0 : Int32) ≤ i3 (aLab (qC A) (k - 144))) = (¬ aLab (qC A) (k - 144) < 0) := by rw [i3_lit, i3_le (by omega)]; apply propext; omega
    simp only [c3]
    by_cases gl : aLab (qC A) (k - 144) < 0
    · rw [if_neg (show ¬ ¬ _ from fun q => q gl), if_pos gl]
      obtain ⟨⟨o1, o2⟩, o3, o4, o5, o6⟩ := tail (y := (7, t)) (c := 7) (A' := A) rfl (by omega) (fr_refl ..) (fun q => absurd q (by decide)) (fun _ => ⟨rfl, r1⟩) (fun q => absurd q (by decide))
      exact ⟨⟨p1', ⟨fun q => absurd q (by omega), fun _ => ⟨fun q => absurd q (by omega), fun _ => ⟨l1, fun q => absurd gl q⟩⟩⟩, o1, o2⟩, o3, o4, o5, o6⟩
    · rw [if_pos (show ¬ _ from gl), if_neg gl]
      obtain ⟨e1, e2⟩ := rend d1 hv
      have hve := vD_end hv
      have z2 : RVz (tm_end t) A := RVz_fr e1 (fun b j w => by unfold Pr; omega) z1
      obtain ⟨l3, l4⟩ := rlab (k := k - 144) (s := tm_end t) z2.1 hA3 (by omega)
      have hst : tm_start (tm_end t) (i3 (k - 144)) = sI (sI (tm_end t) 230 10 (i3 (aLab (qC A) (k - 144) + 1))) 230 8 0 := by
        rw [tm_start_eq]; unfold tm_start_d; rw [l4, i3_lit, i3_add]
      rw [hst]
      have fb : fr (fun b j => b = 230 ∧ (8 ≤ j ∧ j ≤ 10)) (tm_end t) (sI (sI (sI (tm_end t) 230 10 (i3 (aLab (qC A) (k - 144) + 1))) 230 8 0) 230 9 1) := fr_sI (fr_sI (fr_sI (fr_refl ..) ⟨rfl, by omega⟩) ⟨rfl, by omega⟩) ⟨rfl, by omega⟩
      have fx : fr (fun b j => Pr b j ∨ (b = 230 ∧ (8 ≤ j ∧ j ≤ 10))) t (sI (sI (sI (tm_end t) 230 10 (i3 (aLab (qC A) (k - 144) + 1))) 230 8 0) 230 9 1) := fr_trans (fr_mono e1 (fun b j q => Or.inl q)) (fr_mono fb (fun b j q => Or.inr q))
      obtain ⟨⟨o1, o2⟩, o3, o4, o5, o6⟩ := tail (y := (0, sI (sI (sI (tm_end t) 230 10 (i3 (aLab (qC A) (k - 144) + 1))) 230 8 0) 230 9 1)) (c := 0) (A' := zR (zX (zD (aPush A (qD A)) (aEnd (qD A))) (aLab (qC A) (k - 144) + 1) 0 (qCl A)) 1) rfl (by omega) fx (fun _ => ⟨⟨rD_fr fb (fun m _ _ => by omega) (fun m _ _ => by omega) hve e2, (fx.1 _ _ (by unfold Pr; omega)).1.trans m1⟩, by show gI _ 230 9 = i3 1; rw [gI_sI, if_pos ⟨rfl, rfl⟩]; rfl, fun _ => ⟨by show gI (sI (sI (sI _ _ _ _) _ _ _) _ _ _) 230 10 = _; rw [gI_sI, if_neg (by omega), gI_sI, if_neg (by omega), gI_sI, if_pos ⟨rfl, rfl⟩]; rfl, by show gI (sI (sI (sI _ _ _ _) _ _ _) _ _ _) 230 8 = _; rw [gI_sI, if_neg (by omega), gI_sI, if_pos ⟨rfl, rfl⟩]; rfl, fun i hi => absurd hi (Nat.not_lt_zero i)⟩, hve⟩) (fun q => absurd rfl q) (fun _ => ⟨rfl, rfl, by show ¬ (1 : Int) = 2; decide, rfl, rfl, rfl, rfl, rfl, rfl, rfl, rfl⟩)
      refine ⟨⟨p1', ⟨fun q => absurd q (by omega), fun _ => ⟨fun q => absurd q (by omega), fun _ => ⟨l1, fun _ => ?_⟩⟩⟩, o1, o2⟩, o3, o4, o5, o6⟩
      unfold tm_start_ok; exact l3
  · rw [if_neg gs]
    obtain ⟨y1, y2, y3, y4⟩ := key
    have fin : ((( (if k ≤ 127 then tm_key t (i3 k) else (1, t)).1 ≤ 0 → tm_keep_ok (if k ≤ 127 then tm_key t (i3 k) else (1, t)).2 6) ∧ (¬ (if k ≤ 127 then tm_key t (i3 k) else (1, t)).1 ≤ 0 → tm_copy_ok (if k ≤ 127 then tm_key t (i3 k) else (1, t)).2 6 0)) ∧ fr Pkr s (if (if k ≤ 127 then tm_key t (i3 k) else (1, t)).1 ≤ 0 then (0, sI (tm_keep (if k ≤ 127 then tm_key t (i3 k) else (1, t)).2 6) 230 5 0) else ((if k ≤ 127 then tm_key t (i3 k) else (1, t)).1, sI (tm_copy (if k ≤ 127 then tm_key t (i3 k) else (1, t)).2 6 0) 230 5 (if k ≤ 127 then tm_key t (i3 k) else (1, t)).1)).2 ∧ (if (if k ≤ 127 then tm_key t (i3 k) else (1, t)).1 ≤ 0 then (0, sI (tm_keep (if k ≤ 127 then tm_key t (i3 k) else (1, t)).2 6) 230 5 0) else ((if k ≤ 127 then tm_key t (i3 k) else (1, t)).1, sI (tm_copy (if k ≤ 127 then tm_key t (i3 k) else (1, t)).2 6 0) 230 5 (if k ≤ 127 then tm_key t (i3 k) else (1, t)).1)).1 = i3 (if (aKey (qM A) k (qD A)).1 = 0 then (0, zF (zD (aPush A (qD A)) (aKey (qM A) k (qD A)).2) 0) else ((aKey (qM A) k (qD A)).1, zF A (aKey (qM A) k (qD A)).1)).1 ∧ RV (if (if k ≤ 127 then tm_key t (i3 k) else (1, t)).1 ≤ 0 then (0, sI (tm_keep (if k ≤ 127 then tm_key t (i3 k) else (1, t)).2 6) 230 5 0) else ((if k ≤ 127 then tm_key t (i3 k) else (1, t)).1, sI (tm_copy (if k ≤ 127 then tm_key t (i3 k) else (1, t)).2 6 0) 230 5 (if k ≤ 127 then tm_key t (i3 k) else (1, t)).1)).2 (if (aKey (qM A) k (qD A)).1 = 0 then (0, zF (zD (aPush A (qD A)) (aKey (qM A) k (qD A)).2) 0) else ((aKey (qM A) k (qD A)).1, zF A (aKey (qM A) k (qD A)).1)).2 ∧ gI (if (if k ≤ 127 then tm_key t (i3 k) else (1, t)).1 ≤ 0 then (0, sI (tm_keep (if k ≤ 127 then tm_key t (i3 k) else (1, t)).2 6) 230 5 0) else ((if k ≤ 127 then tm_key t (i3 k) else (1, t)).1, sI (tm_copy (if k ≤ 127 then tm_key t (i3 k) else (1, t)).2 6 0) 230 5 (if k ≤ 127 then tm_key t (i3 k) else (1, t)).1)).2 230 0 = gI s 230 0) := by
      generalize (if k ≤ 127 then tm_key t (i3 k) else (1, t)) = y at *
      have fy : fr (fun b j => Pr b j ∨ (b = 230 ∧ (8 ≤ j ∧ j ≤ 10))) t y.2 := fr_mono y2 (fun b j q => Or.inl q)
      have ry : gI y.2 230 9 = i3 (qR A) := (y2.1 _ _ (by unfold Pr; omega)).1.trans r1
      have my : gI y.2 230 4 = i3 (qM A) := (y2.1 _ _ (by unfold Pr; omega)).1.trans m1
      by_cases gk : (aKey (qM A) k (qD A)).1 = 0
      · rw [if_pos gk]
        exact tail (c := 0) (A' := zD (aPush A (qD A)) (aKey (qM A) k (qD A)).2) (by rw [y3, gk]) (by omega) fy (fun _ => ⟨⟨y4 gk, my⟩, ry, fun w => absurd hr w, aKey_v (by omega) hv⟩) (fun q => absurd rfl q) (fun _ => ⟨rfl, rfl, by show ¬ qR A = 2; omega, rfl, rfl, rfl, rfl, rfl, rfl, rfl, rfl⟩)
      · rw [if_neg gk]
        exact tail (c := (aKey (qM A) k (qD A)).1) (A' := A) y3 hkc fy (fun q => absurd q gk) (fun _ => ⟨rfl, ry⟩) (fun q => absurd q gk)
    by_cases g1 : k < 144
    · rw [if_pos g1]
      exact ⟨⟨p1', ⟨fun _ => y1, fun q => absurd g1 q⟩, fin.1.1, fin.1.2⟩, fin.2⟩
    · rw [if_neg g1, if_pos (show 151 < k by omega)]
      exact ⟨⟨p1', ⟨fun q => absurd q g1, fun _ => ⟨fun _ => y1, fun q => absurd (show 151 < k by omega) q⟩⟩, fin.1.1, fin.1.2⟩, fin.2⟩
/-! a row of keys -/
noncomputable def aPrs (b : Int64) : Nat → Nat → aA → Int × aA
  | 0, _, A => (0, A)
  | n + 1, i, A => if byt b i = 0 then aPrs b n (i + 1) A else if (aPr1 (byt b i) A).1 = 0 then (if qR (aPr1 (byt b i) A).2 = 0 then aPrs b n (i + 1) (aPr1 (byt b i) A).2 else (0, (aPr1 (byt b i) A).2)) else aPr1 (byt b i) A
theorem aPr1_c {A : aA} {k : Int} (h : VA A) : 0 ≤ (aPr1 k A).1 ∧ (aPr1 k A).1 ≤ 9 := by
  have := aKey_c (mdl := qM A) (k := k) h.1.1
  unfold aPr1
  split
  · split
    · dsimp only; omega
    · dsimp only; omega
  · split
    · dsimp only; omega
    · dsimp only; omega
theorem aPr1_r {A : aA} {k : Int} (hr : qR A = 0) : qR (aPr1 k A).2 = 0 ∨ qR (aPr1 k A).2 = 1 := by
  unfold aPr1
  split
  · split
    · exact Or.inl hr
    · exact Or.inr rfl
  · split
    · exact Or.inl hr
    · exact Or.inl hr
theorem cpress_17 (b : Int64) : ∀ (n i : Nat) (s : xS) (A : aA), i ≤ 8 → 9 ≤ n + i → qR A = 0 → VA A → CV s A → te_press_17_ok n s b (i3 i) ∧ fr Pcl s (te_press_17 n s b (i3 i)).2 ∧ (te_press_17 n s b (i3 i)).1 = i3 (aPrs b (8 - i) i A).1 ∧ CV (te_press_17 n s b (i3 i)).2 (aPrs b (8 - i) i A).2 ∧ VA (aPrs b (8 - i) i A).2 := by
  intro n
  induction n with
  | zero => intro i s A h1 h2; omega
  | succ n ih =>
    intro i s A h1 h2 hr hA h
    unfold te_press_17 te_press_17_ok
    have c1 : ((8 : Int32) ≤ i3 i) = (8 ≤ i) := by rw [i3_lit, i3_le (by omega)]; apply propext; omega
    have e1 : i3 i + 1 = i3 (i + 1 : Nat) := by rw [i3_lit, i3_add]; rfl
    simp only [c1, e1]
    by_cases g : 8 ≤ i
    · rw [if_pos g, show 8 - i = 0 by omega]
      exact ⟨fun q => absurd g q, fr_refl .., rfl, h, hA⟩
    · rw [if_neg g, cbyte b (by omega)]
      obtain ⟨m, hm⟩ : ∃ m, 8 - i = m + 1 := ⟨7 - i, by omega⟩
      have hm' : 8 - (i + 1) = m := by omega
      rw [hm]
      unfold aPrs
      have hb := byt_lt b i
      have c2 : (i3 (byt b i : Nat) = 0) = (byt b i = 0) := by rw [i3_lit, i3_eq (by omega)]; apply propext; omega
      simp only [c2]
      by_cases g2 : byt b i = 0
      · rw [if_pos g2, if_pos g2]
        obtain ⟨p1, p2⟩ := ih (i + 1) s A (by omega) (by omega) hr hA h
        rw [hm'] at p2
        exact ⟨fun _ => ⟨fun _ => p1, fun q => absurd g2 q⟩, p2⟩
      · rw [if_neg g2, if_neg g2]
        obtain ⟨y1, y2, y3, y4⟩ := cpress1 (k := byt b i) (by omega) hr hA h
        have hv := VA_pr1 (k := byt b i) (by omega) hr hA
        have hc := aPr1_c (k := byt b i) hA
        have c3 : ((te_pressOne s (i3 (byt b i : Nat))).1 = 0) = ((aPr1 (byt b i) A).1 = 0) := by rw [y3, i3_lit, i3_eq (by omega)]
        have hrr := aPr1_r (k := byt b i) hr
        have c4 : (gI (te_pressOne s (i3 (byt b i : Nat))).2 0 6 = 0) = (qR (aPr1 (byt b i) A).2 = 0) := by rw [y4.2.2.1, i3_lit, i3_eq (by omega)]
        simp only [c3, c4]
        by_cases g3 : (aPr1 (byt b i) A).1 = 0
        · rw [if_neg (show ¬ ¬ _ from fun q => q g3), if_pos g3]
          by_cases g4 : qR (aPr1 (byt b i) A).2 = 0
          · rw [if_pos g4, if_pos g4]
            obtain ⟨p1, p2, p3⟩ := ih (i + 1) (te_pressOne s (i3 (byt b i : Nat))).2 (aPr1 (byt b i) A).2 (by omega) (by omega) g4 hv y4
            rw [hm'] at p3
            exact ⟨fun _ => ⟨fun q => absurd q g2, fun _ => ⟨y1, fun _ _ => p1⟩⟩, fr_trans y2 p2, p3⟩
          · rw [if_neg g4, if_neg g4]
            exact ⟨fun _ => ⟨fun q => absurd q g2, fun _ => ⟨y1, fun _ q => absurd q g4⟩⟩, y2, by rw [y3, g3], y4, hv⟩
        · rw [if_pos (show ¬ _ from g3), if_neg g3]
          exact ⟨fun _ => ⟨fun q => absurd q g2, fun _ => ⟨y1, fun q => absurd q g3⟩⟩, y2, y3, y4, hv⟩
theorem rpress_18 (b : Int64) : ∀ (n i : Nat) (s : xS) (A : aA), i ≤ 8 → 9 ≤ n + i → qR A = 0 → VA A → RV s A → tm_press_18_ok n s b (i3 (8 * i : Nat)) ∧ fr Pkr s (tm_press_18 n s b (i3 (8 * i : Nat))).2 ∧ (tm_press_18 n s b (i3 (8 * i : Nat))).1 = i3 (aPrs b (8 - i) i A).1 ∧ RV (tm_press_18 n s b (i3 (8 * i : Nat))).2 (aPrs b (8 - i) i A).2 ∧ gI (tm_press_18 n s b (i3 (8 * i : Nat))).2 230 0 = gI s 230 0 := by
  intro n
  induction n with
  | zero => intro i s A h1 h2; omega
  | succ n ih =>
    intro i s A h1 h2 hr hA h
    unfold tm_press_18 tm_press_18_ok
    have c1 : ((64 : Int32) ≤ i3 (8 * i : Nat)) = (8 ≤ i) := by rw [i3_lit, i3_le (by omega)]; apply propext; omega
    have e1 : i3 (8 * i : Nat) + 8 = i3 (8 * (i + 1) : Nat) := by rw [i3_lit, i3_add]; exact congrArg i3 (by omega)
    have c0 : (gI s 230 9 = 0) = True := by rw [h.2.2.1, hr]; exact eq_true rfl
    simp only [c1, e1, c0, not_true_eq_false, if_false]
    by_cases g : 8 ≤ i
    · rw [if_pos g, show 8 - i = 0 by omega]
      exact ⟨fun q => absurd g q, fr_refl .., rfl, h, rfl⟩
    · rw [if_neg g, rbyte b (by omega)]
      obtain ⟨m, hm⟩ : ∃ m, 8 - i = m + 1 := ⟨7 - i, by omega⟩
      have hm' : 8 - (i + 1) = m := by omega
      rw [hm]
      unfold aPrs
      have hb := byt_lt b i
      have c2 : (i3 (byt b i : Nat) ≤ 0) = (byt b i = 0) := by rw [i3_lit, i3_le (by omega)]; apply propext; omega
      simp only [c2]
      by_cases g2 : byt b i = 0
      · rw [if_pos g2, if_pos g2]
        obtain ⟨p1, p2⟩ := ih (i + 1) s A (by omega) (by omega) hr hA h
        rw [hm'] at p2
        exact ⟨fun _ _ => ⟨fun _ => p1, fun q => absurd g2 q⟩, p2⟩
      · rw [if_neg g2, if_neg g2]
        obtain ⟨⟨y1, ya, yb, yc⟩, y2, y3, y4, y5⟩ := rpress1 (k := byt b i) (by omega) hr hA h
        have hv := VA_pr1 (k := byt b i) (by omega) hr hA
        have hc := aPr1_c (k := byt b i) hA
        have hrr := aPr1_r (k := byt b i) hr
        unfold rPr1 at y2 y3 y4 y5
        by_cases g3 : (tm_pressed (tm_copy s 0 6) (i3 (byt b i : Nat))).1 ≤ 0
        · rw [if_pos g3] at y2 y3 y4 y5
          have gz : (aPr1 (byt b i) A).1 = 0 := by
            have : i3 0 = i3 (aPr1 (byt b i) A).1 := y3
            rw [i3_eq (by omega)] at this
            exact this.symm
          rw [if_pos g3, if_pos gz]
          by_cases g4 : qR (aPr1 (byt b i) A).2 = 0
          · rw [if_pos g4]
            obtain ⟨p1, p2, p3, p4, p5⟩ := ih (i + 1) _ (aPr1 (byt b i) A).2 (by omega) (by omega) g4 hv y4
            rw [hm'] at p3 p4
            exact ⟨fun _ _ => ⟨fun q => absurd q g2, fun _ => ⟨y1, ya, fun _ => ⟨yb g3, p1⟩, fun q => absurd g3 q⟩⟩, fr_trans y2 p2, p3, p4, p5.trans y5⟩
          · rw [if_neg g4]
            obtain ⟨n', rfl⟩ : ∃ n', n = n' + 1 := ⟨n - 1, by omega⟩
            unfold tm_press_18 tm_press_18_ok
            have c5 : ¬ gI (sI (tm_keep (tm_pressed (tm_copy s 0 6) (i3 (byt b i : Nat))).2 6) 230 5 0) 230 9 = 0 := by
              have : gI (sI (tm_keep (tm_pressed (tm_copy s 0 6) (i3 (byt b i : Nat))).2 6) 230 5 0) 230 9 = i3 (qR (aPr1 (byt b i) A).2) := y4.2.2.1
              rw [this, i3_lit, i3_eq (by omega)]
              exact g4
            by_cases g6 : (64 : Int32) ≤ i3 (8 * (i + 1) : Nat)
            · rw [if_pos g6]
              exact ⟨fun _ _ => ⟨fun q => absurd q g2, fun _ => ⟨y1, ya, fun _ => ⟨yb g3, fun q => absurd g6 q⟩, fun q => absurd g3 q⟩⟩, y2, rfl, y4, y5⟩
            · rw [if_neg g6, if_pos c5]
              exact ⟨fun _ _ => ⟨fun q => absurd q g2, fun _ => ⟨y1, ya, fun _ => ⟨yb g3, fun _ q => absurd q c5⟩, fun q => absurd g3 q⟩⟩, y2, rfl, y4, y5⟩
        · rw [if_neg g3] at y2 y3 y4 y5
          have gz : ¬ (aPr1 (byt b i) A).1 = 0 := by
            intro w
            have : (tm_pressed (tm_copy s 0 6) (i3 (byt b i : Nat))).1 = i3 (aPr1 (byt b i) A).1 := y3
            rw [this, w] at g3
            exact g3 (by decide)
          rw [if_neg g3, if_neg gz]
          exact ⟨fun _ _ => ⟨fun q => absurd q g2, fun _ => ⟨y1, ya, fun q => absurd q g3, fun _ => yc g3⟩⟩, y2, y3, y4, y5⟩
