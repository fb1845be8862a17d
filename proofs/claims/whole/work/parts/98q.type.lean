/-! TYPING -/
def aCnt (b : Int64) : Nat → Nat → Nat
  | 0, _ => 0
  | n + 1, i => if byt b i = 0 then aCnt b n (i + 1) else aCnt b n (i + 1) + 1
def aApp (b : Int64) : Nat → Nat → Nat × (Nat → Int) → Nat × (Nat → Int)
  | 0, _, t => t
  | n + 1, i, t => if byt b i = 0 then aApp b n (i + 1) t else aApp b n (i + 1) (t.1 + 1, updA t.2 t.1 (byt b i : Nat))
def aType (b : Int64) (A : aA) : Int × aA := if qTn A + aCnt b 8 0 ≤ 40 then (((aApp b 8 0 (qTn A, qTx A)).1 : Nat), zT A (aApp b 8 0 (qTn A, qTx A)).1 (aApp b 8 0 (qTn A, qTx A)).2) else (-1, A)
theorem aApp_n (b : Int64) : ∀ (n i : Nat) (t : Nat × (Nat → Int)), (aApp b n i t).1 = t.1 + aCnt b n i := by
  intro n
  induction n with
  | zero => intro i t; rfl
  | succ n ih =>
    intro i t
    unfold aApp aCnt
    split
    · exact ih ..
    · rw [ih]; dsimp only; omega
theorem aApp_v (b : Int64) : ∀ (n i : Nat) (t : Nat × (Nat → Int)), (∀ j, j < t.1 → 1 ≤ t.2 j ∧ t.2 j ≤ 255) → ∀ j, j < (aApp b n i t).1 → 1 ≤ (aApp b n i t).2 j ∧ (aApp b n i t).2 j ≤ 255 := by
  intro n
  induction n with
  | zero => intro i t h; exact h
  | succ n ih =>
    intro i t h
    unfold aApp
    split
    · exact ih _ _ h
    · rename_i g
      refine ih _ _ (fun j hj => ?_)
      have := byt_lt b i
      dsimp only at hj ⊢
      unfold updA
      split
      · omega
      · exact h j (by omega)
theorem VA_type {A : aA} {b : Int64} (hA : VA A) : VA (aType b A).2 := by
  unfold aType
  split
  · rename_i g
    obtain ⟨h1, h2, h3, h4, h5, h6⟩ := hA
    exact ⟨h1, h2, h3, h4, h5, h6.1, by show (aApp b 8 0 (qTn A, qTx A)).1 ≤ 40; rw [aApp_n]; exact g, aApp_v b 8 0 _ h6.2.2.1, h6.2.2.2⟩
  · exact hA
def txt (s : xS) (a c : Nat) (k : Nat) (t : Nat × (Nat → Int)) : Prop := gI s a k = i3 t.1 ∧ ∀ i, i < t.1 → gI s c i = i3 (t.2 i)
theorem txt_push {s : xS} {a c k : Nat} {t : Nat × (Nat → Int)} {v : Int} (hac : a ≠ c) (h : txt s a c k t) : txt (sI (sI s c t.1 (i3 v)) a k (i3 (t.1 + 1 : Nat))) a c k (t.1 + 1, updA t.2 t.1 v) := by
  refine ⟨by rw [gI_sI, if_pos ⟨rfl, rfl⟩], fun i hi => ?_⟩
  rw [gI_sI, if_neg (fun q => hac q.1.symm), gI_sI]
  have hi' : i < t.1 + 1 := hi
  show _ = i3 (if i = t.1 then v else t.2 i)
  by_cases w : i = t.1
  · rw [if_pos ⟨rfl, w⟩, if_pos w]
  · rw [if_neg (fun q => w q.2), if_neg w]; exact h.2 i (by omega)
theorem cappend_46 (b : Int64) : ∀ (n i : Nat) (s : xS) (t : Nat × (Nat → Int)), i ≤ 8 → 9 ≤ n + i → t.1 + aCnt b (8 - i) i ≤ 40 → txt s 225 227 2 t → tr_append_46_ok n s b (i3 i) ∧ fr (fun x j => (x = 225 ∧ j = 2) ∨ x = 227) s (tr_append_46 n s b (i3 i)).2 ∧ (tr_append_46 n s b (i3 i)).1 = i3 (aApp b (8 - i) i t).1 ∧ txt (tr_append_46 n s b (i3 i)).2 225 227 2 (aApp b (8 - i) i t) := by
  intro n
  induction n with
  | zero => intro i s t h1 h2; omega
  | succ n ih =>
    intro i s t h1 h2 hc h
    unfold tr_append_46 tr_append_46_ok
    have c1 : ((8 : Int32) ≤ i3 i) = (8 ≤ i) := by rw [i3_lit, i3_le (by omega)]; apply propext; omega
    have e1 : i3 i + 1 = i3 (i + 1 : Nat) := by rw [i3_lit, i3_add]; rfl
    simp only [c1, e1]
    by_cases g : 8 ≤ i
    · rw [if_pos g, show 8 - i = 0 by omega]
      exact ⟨fun q => absurd g q, fr_refl .., h.1, h⟩
    · rw [if_neg g, cbyte b (by omega)]
      obtain ⟨m, hm⟩ : ∃ m, 8 - i = m + 1 := ⟨7 - i, by omega⟩
      have hm' : 8 - (i + 1) = m := by omega
      rw [hm] at hc ⊢
      unfold aCnt at hc
      unfold aApp
      have hb := byt_lt b i
      have c2 : (i3 (byt b i : Nat) = 0) = (byt b i = 0) := by rw [i3_lit, i3_eq (by omega)]; apply propext; omega
      simp only [c2]
      by_cases g2 : byt b i = 0
      · rw [if_pos g2] at hc
        rw [if_pos g2, if_pos g2]
        obtain ⟨p1, p2⟩ := ih (i + 1) s t (by omega) (by omega) (by rw [hm']; exact hc) h
        rw [hm'] at p2
        exact ⟨fun _ => ⟨fun _ => p1, fun q => absurd g2 q⟩, p2⟩
      · rw [if_neg g2] at hc
        have c3 : ¬ (40 : Int32) ≤ gI s 225 2 := by rw [h.1, i3_lit, i3_le (by omega)]; omega
        have e2 : gI s 225 2 + 1 = i3 (t.1 + 1 : Nat) := by rw [h.1, i3_lit, i3_add]; rfl
        have e3 : (gI s 225 2).toNatClampNeg = t.1 := by rw [h.1, i3_natN (by omega)]
        rw [if_neg g2, if_neg g2, if_neg c3, e2, e3]
        obtain ⟨p1, p2, p3⟩ := ih (i + 1) (sI (sI s 227 t.1 (i3 (byt b i : Nat))) 225 2 (i3 (t.1 + 1 : Nat))) (t.1 + 1, updA t.2 t.1 (byt b i : Nat)) (by omega) (by omega) (by rw [hm']; dsimp only; omega) (txt_push (by omega) h)
        rw [hm'] at p3
        exact ⟨fun _ => ⟨fun q => absurd q g2, fun _ => ⟨fun q => absurd q c3, fun _ => ⟨by rw [h.1, i3_inN (by omega)]; omega, p1⟩⟩⟩, fr_trans (fr_sI (fr_sI (fr_refl ..) (Or.inr rfl)) (Or.inl ⟨rfl, rfl⟩)) p2, p3⟩
theorem aCnt_le (b : Int64) : ∀ (n i : Nat), aCnt b n i ≤ n := by
  intro n
  induction n with
  | zero => intro i; exact Nat.le_refl _
  | succ n ih =>
    intro i
    unfold aCnt
    have := ih (i + 1)
    split <;> omega
theorem cappend_5 {A : aA} (b : Int64) {s : xS} (hA : VA A) (h : CV s A) : ∀ (n i c : Nat), i ≤ 8 → 9 ≤ n + i → c ≤ i → tr_append_5_ok n s b (i3 c) (i3 i) ∧ fr Pcl s (tr_append_5 n s b (i3 c) (i3 i)).2 ∧ (tr_append_5 n s b (i3 c) (i3 i)).1 = i3 (if qTn A + (c + aCnt b (8 - i) i) ≤ 40 then (((aApp b 8 0 (qTn A, qTx A)).1 : Nat) : Int) else -1) ∧ CV (tr_append_5 n s b (i3 c) (i3 i)).2 (if qTn A + (c + aCnt b (8 - i) i) ≤ 40 then zT A (aApp b 8 0 (qTn A, qTx A)).1 (aApp b 8 0 (qTn A, qTx A)).2 else A) ∨ aCnt b 8 0 ≠ c + aCnt b (8 - i) i := by
  intro n
  induction n with
  | zero => intro i c h1 h2; omega
  | succ n ih =>
    intro i c h1 h2 hci
    by_cases hcnt : aCnt b 8 0 = c + aCnt b (8 - i) i
    · left
      have hT := hA.2.2.2.2.2.2.1
      unfold tr_append_5 tr_append_5_ok
      have c1 : ((8 : Int32) ≤ i3 i) = (8 ≤ i) := by rw [i3_lit, i3_le (by omega)]; apply propext; omega
      have e1 : i3 i + 1 = i3 (i + 1 : Nat) := by rw [i3_lit, i3_add]; rfl
      have e2 : i3 c + 1 = i3 (c + 1 : Nat) := by rw [i3_lit, i3_add]; rfl
      have e3 : gI s 225 2 + i3 c = i3 (qTn A + c : Nat) := by rw [h.2.2.2.2.2.2.2.2.1.1, i3_add]; rfl
      have c3 : (i3 (qTn A + c : Nat) ≤ 40) = (qTn A + c ≤ 40) := by rw [i3_lit, i3_le (by omega)]; apply propext; omega
      simp only [c1, e1, e2, e3, c3]
      by_cases g : 8 ≤ i
      · rw [if_pos g]
        rw [show 8 - i = 0 by omega] at hcnt ⊢
        have e0 : aCnt b 0 i = 0 := rfl
        rw [e0] at hcnt ⊢
        rw [show c + 0 = c by omega] at hcnt ⊢
        by_cases g2 : qTn A + c ≤ 40
        · rw [if_pos g2, if_pos g2, if_pos g2]
          obtain ⟨q1, q2, q3, ⟨nx, q4⟩, q5, q6, q7, q8, q9, q10⟩ := h
          obtain ⟨p1, f, p3, p4⟩ := cappend_46 b xfu 0 s (qTn A, qTx A) (by omega) (by rw [xfu_eq]; omega) (by show qTn A + aCnt b 8 0 ≤ 40; omega) q9
          have p1' : tr_append_46_ok xfu s b 0 := p1
          have f' : fr (fun x j => (x = 225 ∧ j = 2) ∨ x = 227) s (tr_append_46 xfu s b 0).2 := f
          exact ⟨⟨fun _ _ => p1', fun q => absurd g q⟩, fr_mono f' (fun b j q => by unfold Pcl; omega), p3, CVd_fr f' (fun b j w => by omega) hA.1.1 q1, CVf_fr f' (by omega) q2, CVr_fr f' (by omega) q3, ⟨nx, CVh_fr f' (fun b j w => by omega) hA.2.1 q4⟩, CVp_fr f' (fun j => by omega) q5, CVe_fr f' (fun b j w => by omega) q6, CVs_fr f' (fun b j w => by omega) q7, CVl_fr f' (fun j w => by omega) q8, p4, CVo_fr f' (by omega) (fun j => by omega) q10⟩
        · rw [if_neg g2, if_neg g2, if_neg g2]
          exact ⟨⟨fun _ q => absurd q g2, fun q => absurd g q⟩, fr_refl .., rfl, h⟩
      · rw [if_neg g, cbyte b (by omega)]
        obtain ⟨m, hm⟩ : ∃ m, 8 - i = m + 1 := ⟨7 - i, by omega⟩
        have hm' : 8 - (i + 1) = m := by omega
        have hb := byt_lt b i
        have c2 : (i3 (byt b i : Nat) = 0) = (byt b i = 0) := by rw [i3_lit, i3_eq (by omega)]; apply propext; omega
        simp only [c2]
        rw [hm] at hcnt ⊢
        by_cases g2 : byt b i = 0
        · have eC : aCnt b (m + 1) i = aCnt b m (i + 1) := by rw [aCnt, if_pos g2]
          rw [eC] at hcnt ⊢
          rw [if_pos g2]
          rcases ih (i + 1) c (by omega) (by omega) (by omega) with ⟨p1, p2⟩ | p
          · rw [hm'] at p2
            exact ⟨⟨fun q => absurd q g, fun _ => ⟨fun _ => p1, fun q => absurd g2 q⟩⟩, p2⟩
          · rw [hm'] at p; exact absurd hcnt p
        · have eC : aCnt b (m + 1) i = aCnt b m (i + 1) + 1 := by rw [aCnt, if_neg g2]
          rw [eC, show c + (aCnt b m (i + 1) + 1) = c + 1 + aCnt b m (i + 1) by omega] at hcnt ⊢
          rw [if_neg g2]
          rcases ih (i + 1) (c + 1) (by omega) (by omega) (by omega) with ⟨p1, p2⟩ | p
          · rw [hm'] at p2
            exact ⟨⟨fun q => absurd q g, fun _ => ⟨fun q => absurd q g2, fun _ => p1⟩⟩, p2⟩
          · rw [hm'] at p; exact absurd hcnt p
    · exact Or.inr hcnt
theorem ctype {s : xS} {A : aA} {b : Int64} (hA : VA A) (h : CV s A) : te_type_ok s b ∧ fr Pcl s (te_type s b).2 ∧ (te_type s b).1 = i3 (aType b A).1 ∧ CV (te_type s b).2 (aType b A).2 := by
  rw [te_type_eq]
  unfold te_type_ok te_type_d
  rw [tr_append_eq]
  unfold tr_append_ok tr_append_d aType
  rcases cappend_5 b hA h xfu 0 0 (by omega) (by rw [xfu_eq]; omega) (by omega) with ⟨p1, p2, p3, p4⟩ | p
  · refine ⟨p1, p2, ?_⟩
    have e : qTn A + (0 + aCnt b (8 - 0) 0) = qTn A + aCnt b 8 0 := congrArg (qTn A + ·) (Nat.zero_add _)
    rw [e] at p3 p4
    by_cases g : qTn A + aCnt b 8 0 ≤ 40
    · rw [if_pos g] at p3 p4
      rw [if_pos g]
      exact ⟨p3, p4⟩
    · rw [if_neg g] at p3 p4
      rw [if_neg g]
      exact ⟨p3, p4⟩
  · exact absurd (show aCnt b 8 0 = 0 + aCnt b (8 - 0) 0 from (Nat.zero_add _).symm) p
/-! the reference -/
theorem rtype_60 (b : Int64) : ∀ (n i : Nat) (s : xS) (t : Nat × (Nat → Int)), i ≤ 8 → 9 ≤ n + i → t.1 + aCnt b (8 - i) i ≤ 40 → txt s 230 239 22 t → tm_type_60_ok n s b (i3 (8 * i : Nat)) ∧ fr (fun x j => (x = 230 ∧ j = 22) ∨ x = 239) s (tm_type_60 n s b (i3 (8 * i : Nat))).2 ∧ (tm_type_60 n s b (i3 (8 * i : Nat))).1 = i3 (aApp b (8 - i) i t).1 ∧ txt (tm_type_60 n s b (i3 (8 * i : Nat))).2 230 239 22 (aApp b (8 - i) i t) := by
  intro n
  induction n with
  | zero => intro i s t h1 h2; omega
  | succ n ih =>
    intro i s t h1 h2 hc h
    unfold tm_type_60 tm_type_60_ok
    have c1 : ((64 : Int32) ≤ i3 (8 * i : Nat)) = (8 ≤ i) := by rw [i3_lit, i3_le (by omega)]; apply propext; omega
    have e1 : i3 (8 * i : Nat) + 8 = i3 (8 * (i + 1) : Nat) := by rw [i3_lit, i3_add]; exact congrArg i3 (by omega)
    simp only [c1, e1]
    by_cases g : 8 ≤ i
    · rw [if_pos g, show 8 - i = 0 by omega]
      exact ⟨fun q => absurd g q, fr_refl .., h.1, h⟩
    · rw [if_neg g, rbyte b (by omega)]
      obtain ⟨m, hm⟩ : ∃ m, 8 - i = m + 1 := ⟨7 - i, by omega⟩
      have hm' : 8 - (i + 1) = m := by omega
      rw [hm] at hc ⊢
      unfold aCnt at hc
      unfold aApp
      have hb := byt_lt b i
      have c2 : (i3 (byt b i : Nat) ≤ 0) = (byt b i = 0) := by rw [i3_lit, i3_le (by omega)]; apply propext; omega
      simp only [c2]
      by_cases g2 : byt b i = 0
      · rw [if_pos g2] at hc
        rw [if_pos g2, if_pos g2]
        obtain ⟨p1, p2⟩ := ih (i + 1) s t (by omega) (by omega) (by rw [hm']; exact hc) h
        rw [hm'] at p2
        exact ⟨fun _ => ⟨fun _ => p1, fun q => absurd g2 q⟩, p2⟩
      · rw [if_neg g2] at hc
        have e2 : gI s 230 22 + 1 = i3 (t.1 + 1 : Nat) := by rw [h.1, i3_lit, i3_add]; rfl
        have e3 : (gI s 230 22).toNatClampNeg = t.1 := by rw [h.1, i3_natN (by omega)]
        rw [if_neg g2, if_neg g2, e3, e2]
        obtain ⟨p1, p2, p3⟩ := ih (i + 1) (sI (sI s 239 t.1 (i3 (byt b i : Nat))) 230 22 (i3 (t.1 + 1 : Nat))) (t.1 + 1, updA t.2 t.1 (byt b i : Nat)) (by omega) (by omega) (by rw [hm']; dsimp only; omega) (txt_push (by omega) h)
        rw [hm'] at p3
        exact ⟨fun _ => ⟨fun q => absurd q g2, fun _ => ⟨by rw [h.1, i3_inN (by omega)]; omega, p1⟩⟩, fr_trans (fr_sI (fr_sI (fr_refl ..) (Or.inr rfl)) (Or.inl ⟨rfl, rfl⟩)) p2, p3⟩
theorem rtype_10 {A : aA} (b : Int64) {s : xS} (hA : VA A) (h : RV s A) : ∀ (n i c : Nat), i ≤ 8 → 9 ≤ n + i → c ≤ i → aCnt b 8 0 = c + aCnt b (8 - i) i → tm_type_10_ok n s b (i3 c) (i3 (8 * i : Nat)) ∧ fr Prr s (tm_type_10 n s b (i3 c) (i3 (8 * i : Nat))).2 ∧ (tm_type_10 n s b (i3 c) (i3 (8 * i : Nat))).1 = i3 (aType b A).1 ∧ RV (tm_type_10 n s b (i3 c) (i3 (8 * i : Nat))).2 (aType b A).2 := by
  intro n
  induction n with
  | zero => intro i c h1 h2; omega
  | succ n ih =>
    intro i c h1 h2 hci hcnt
    have hT := hA.2.2.2.2.2.2.1
    unfold tm_type_10 tm_type_10_ok
    have c1 : ((64 : Int32) ≤ i3 (8 * i : Nat)) = (8 ≤ i) := by rw [i3_lit, i3_le (by omega)]; apply propext; omega
    have e1 : i3 (8 * i : Nat) + 8 = i3 (8 * (i + 1) : Nat) := by rw [i3_lit, i3_add]; exact congrArg i3 (by omega)
    have e2 : i3 c + 1 = i3 (c + 1 : Nat) := by rw [i3_lit, i3_add]; rfl
    have e3 : gI s 230 22 + i3 c = i3 (qTn A + c : Nat) := by rw [h.2.2.2.2.2.2.2.2.1.1, i3_add]; rfl
    have c3 : (i3 (qTn A + c : Nat) ≤ 40) = (qTn A + c ≤ 40) := by rw [i3_lit, i3_le (by omega)]; apply propext; omega
    simp only [c1, e1, e2, e3, c3]
    by_cases g : 8 ≤ i
    · rw [if_pos g]
      rw [show 8 - i = 0 by omega] at hcnt
      have e0 : aCnt b 0 i = 0 := rfl
      rw [e0, show c + 0 = c by omega] at hcnt
      unfold aType
      rw [hcnt]
      by_cases g2 : qTn A + c ≤ 40
      · rw [if_pos g2, if_pos g2]
        obtain ⟨q1, q2, q3, q4, q5, q6, q7, q8, q9, q10⟩ := h
        obtain ⟨p1, f, p3, p4⟩ := rtype_60 b xfu 0 s (qTn A, qTx A) (by omega) (by rw [xfu_eq]; omega) (by show qTn A + aCnt b 8 0 ≤ 40; omega) q9
        have p1' : tm_type_60_ok xfu s b 0 := p1
        have f' : fr (fun x j => (x = 230 ∧ j = 22) ∨ x = 239) s (tm_type_60 xfu s b 0).2 := f
        exact ⟨⟨fun _ _ => p1', fun q => absurd g q⟩, fr_mono f' (fun b j q => by unfold Prr; omega), p3, RVd_fr f' (fun j w => by omega) (fun j w => by omega) (by omega) hA.1.1 q1, RVf_fr f' (by omega) q2, RVr_fr f' (by omega) q3, RVh_fr f' (fun j w => by omega) (fun j w => by omega) (by omega) hA.2.1 q4, RVp_fr f' (fun j => by omega) q5, RVe_fr f' (by omega) (by omega) (fun j => by omega) q6, RVs_fr f' (fun j w => by omega) (fun b j w => by omega) q7, RVl_fr f' (fun j w => by omega) q8, p4, RVo_fr f' (by omega) (fun j => by omega) q10⟩
      · rw [if_neg g2, if_neg g2]
        exact ⟨⟨fun _ q => absurd q g2, fun q => absurd g q⟩, fr_refl .., rfl, h⟩
    · rw [if_neg g, rbyteL b (by omega)]
      obtain ⟨m, hm⟩ : ∃ m, 8 - i = m + 1 := ⟨7 - i, by omega⟩
      have hm' : 8 - (i + 1) = m := by omega
      have hb := byt_lt b i
      have c2 : (j6 (byt b i : Nat) ≤ 0) = (byt b i = 0) := by rw [j6_lit, j6_le (by omega)]; apply propext; omega
      simp only [c2]
      rw [hm] at hcnt
      by_cases g2 : byt b i = 0
      · have eC : aCnt b (m + 1) i = aCnt b m (i + 1) := by rw [aCnt, if_pos g2]
        rw [eC] at hcnt
        rw [if_pos g2]
        obtain ⟨p1, p2⟩ := ih (i + 1) c (by omega) (by omega) (by omega) (by rw [hm']; exact hcnt)
        exact ⟨⟨fun q => absurd q g, fun _ => p1⟩, p2⟩
      · have eC : aCnt b (m + 1) i = aCnt b m (i + 1) + 1 := by rw [aCnt, if_neg g2]
        rw [eC, show c + (aCnt b m (i + 1) + 1) = c + 1 + aCnt b m (i + 1) by omega] at hcnt
        rw [if_neg g2]
        obtain ⟨p1, p2⟩ := ih (i + 1) (c + 1) (by omega) (by omega) (by omega) (by rw [hm']; exact hcnt)
        exact ⟨⟨fun q => absurd q g, fun _ => p1⟩, p2⟩
theorem rtype {s : xS} {A : aA} {b : Int64} (hA : VA A) (h : RV s A) : tm_type_ok s b ∧ fr Prr s (tm_type s b).2 ∧ (tm_type s b).1 = i3 (aType b A).1 ∧ RV (tm_type s b).2 (aType b A).2 := by
  rw [tm_type_eq]
  unfold tm_type_ok tm_type_d
  obtain ⟨f0, h0, z0⟩ := RV_0 (v := 0) hA h
  generalize sI s 230 0 0 = t at *
  obtain ⟨p1, p2, p3⟩ := rtype_10 b hA h0 xfu 0 0 (by omega) (by rw [xfu_eq]; omega) (by omega) (Nat.zero_add _).symm
  exact ⟨p1, fr_trans f0 p2, p3⟩
theorem rout1 {s : xS} {A : aA} {i : Nat} (hA : VA A) (hi : i < qOn A) (h : RV s A) : tm_out_ok s (i3 i) ∧ fr Prr s (tm_out s (i3 i)).2 ∧ (tm_out s (i3 i)).1 = i3 (qOk A i) ∧ RV (tm_out s (i3 i)).2 A ∧ gI (tm_out s (i3 i)).2 230 0 = 0 := by
  have h100 := hA.2.2.2.2.2.2.2.2
  rw [tm_out_eq]
  unfold tm_out_ok tm_out_d
  have c0 : ¬ i3 (i : Int) < 0 := by rw [i3_lit, i3_lt (by omega)]; omega
  have c1 : i3 (i : Int) < gI s 230 24 := by rw [h.2.2.2.2.2.2.2.2.2.1, i3_lt (by omega)]; omega
  rw [decide_eq_false c0, decide_eq_true c1]
  have e : zb (false || !true) = 0 := rfl
  rw [e, if_pos (show (0 : Int32) ≤ 0 by decide), i3_natN (by omega)]
  obtain ⟨f0, h0, z0⟩ := RV_0 (v := 0) hA h
  exact ⟨fun _ => by rw [i3_inN (by omega)]; omega, f0, h.2.2.2.2.2.2.2.2.2.2 i hi, h0, z0⟩
/-! what the reference does where the class throws -/
theorem tmodel {s : xS} {A : aA} {m : Int} (hm : -2147483648 ≤ m ∧ m < 2147483648) (hA : VA A) (h : RV s A) : (qR A ≠ 0 → tm_model_ok s (i3 m) ∧ tm_model s (i3 m) = sI s 230 0 1) ∧ (qR A = 0 → ¬ (m = 0 ∨ m = 1) → tm_model_ok s (i3 m) ∧ tm_model s (i3 m) = sI s 230 0 2) := by
  have hrr := hA.1.2.2.2
  have r0 : (gI s 230 9 ≤ 0) = (qR A = 0) := by rw [h.2.2.1, i3_lit, i3_le (by omega)]; apply propext; omega
  have c0 : (i3 m < 0) = (m < 0) := by rw [i3_lit, i3_lt (by omega)]
  have c1 : (i3 m ≤ 1) = (m ≤ 1) := by rw [i3_lit, i3_le (by omega)]
  rw [tm_model_eq]
  unfold tm_model_ok tm_model_d
  simp only [r0, c0, c1]
  refine ⟨fun g => ?_, fun g g2 => ?_⟩
  · rw [if_neg g, if_neg (show ¬ (1 : Int32) ≤ 0 by decide)]
    exact ⟨fun q => absurd q (by decide), rfl⟩
  · have e : (if qR A = 0 then (if m < 0 then (2 : Int32) else (if m ≤ 1 then (0 : Int32) else 2)) else 1) = 2 := by
      rw [if_pos g]
      by_cases w : m < 0
      · rw [if_pos w]
      · rw [if_neg w, if_neg (by omega)]
    rw [e, if_neg (show ¬ (2 : Int32) ≤ 0 by decide)]
    exact ⟨fun q => absurd q (by decide), rfl⟩
theorem tpress {s : xS} {A : aA} {b : Int64} (hA : VA A) (hr : qR A ≠ 0) (h : RV s A) : tm_press_ok s b ∧ tm_press s b = (0, sI s 230 0 1) := by
  have hrr := hA.1.2.2.2
  have r0 : ¬ gI s 230 9 ≤ 0 := by rw [h.2.2.1, i3_lit, i3_le (by omega)]; omega
  have r1 : ¬ gI (sI s 230 0 1) 230 9 = 0 := by rw [gI_sI, if_neg (by omega), h.2.2.1, i3_lit, i3_eq (by omega)]; omega
  rw [tm_press_eq]
  unfold tm_press_ok tm_press_d
  rw [decide_eq_false r0]
  have e : zb (!false) = 1 := rfl
  rw [e]
  obtain ⟨n, hn⟩ : ∃ n, xfu = n + 1 := ⟨xfu - 1, by rw [xfu_eq]⟩
  rw [hn]
  unfold tm_press_18 tm_press_18_ok
  rw [if_neg (show ¬ (64 : Int32) ≤ 0 by decide), if_pos (show ¬ _ from r1)]
  exact ⟨fun _ q => absurd q r1, rfl⟩
theorem trun {s : xS} {m : Int} (hm : -2147483648 ≤ m ∧ m < 2147483648) (hm2 : m < 0 ∨ 500 < m) : tm_run_ok s (i3 m) ∧ tm_run s (i3 m) = (0, sI s 230 0 1) := by
  have c0 : (i3 m < 0) = (m < 0) := by rw [i3_lit, i3_lt (by omega)]
  have c1 : (i3 m ≤ 500) = (m ≤ 500) := by rw [i3_lit, i3_le (by omega)]
  rw [tm_run_eq]
  unfold tm_run_ok tm_run_d
  simp only [c0, c1]
  have e : zb (decide (m < 0) || !decide (m ≤ 500)) = 1 := by
    rcases hm2 with w | w
    · rw [decide_eq_true w]; rfl
    · rw [decide_eq_false (show ¬ m ≤ 500 by omega)]; cases decide (m < 0) <;> rfl
  rw [e]
  obtain ⟨n, hn⟩ : ∃ n, xfu = n + 1 := ⟨xfu - 1, by rw [xfu_eq]⟩
  rw [hn]
  unfold tm_run_22 tm_run_22_ok
  have z : gI (sI s 230 0 1) 230 0 = 1 := by rw [gI_sI, if_pos ⟨rfl, rfl⟩]
  have n0 : ¬ gI (sI s 230 0 1) 230 0 = 0 := by rw [z]; decide
  have e51 : tm_run_51 (sI s 230 0 1) = (0, sI s 230 0 1) := by
    rw [tm_run_51_eq]; unfold tm_run_51_d; rw [z, decide_eq_true (show (0 : Int32) < 1 by decide)]; rfl
  rw [e51]
  refine ⟨fun _ q => absurd q n0, ?_⟩
  by_cases w : i3 m ≤ 0
  · rw [if_pos w]
  · rw [if_neg w, if_pos (show ¬ _ from n0)]
theorem tsolve {s : xS} {A : aA} {k : Int} (hk : -2147483648 ≤ k ∧ k < 2147483648) (hA : VA A) (h : RV s A) : (qR A ≠ 0 → tm_solve_ok s (i3 k) ∧ tm_solve s (i3 k) = (0, sI s 230 0 1)) ∧ (qR A = 0 → qM A ≠ 0 → tm_solve_ok s (i3 k) ∧ tm_solve s (i3 k) = (0, sI s 230 0 2)) ∧ (qR A = 0 → qM A = 0 → ¬ (0 ≤ k ∧ k ≤ 7) → tm_solve_ok s (i3 k) ∧ tm_solve s (i3 k) = (0, sI s 230 0 3)) := by
  have hrr := hA.1.2.2.2
  have hmm := hA.1.2.1
  have r0 : (gI s 230 9 ≤ 0) = (qR A = 0) := by rw [h.2.2.1, i3_lit, i3_le (by omega)]; apply propext; omega
  have m0 : (gI s 230 4 = 1) = (qM A ≠ 0) := by rw [h.1.2, i3_lit, i3_eq (by omega)]; apply propext; omega
  have c0 : (i3 k < 0) = (k < 0) := by rw [i3_lit, i3_lt (by omega)]
  have c1 : (i3 k ≤ 7) = (k ≤ 7) := by rw [i3_lit, i3_le (by omega)]
  rw [tm_solve_eq]
  unfold tm_solve_ok tm_solve_d
  simp only [r0, m0, c0, c1]
  refine ⟨fun g => ?_, fun g g2 => ?_, fun g g2 g3 => ?_⟩
  · rw [if_neg g, if_neg (show ¬ (1 : Int32) ≤ 0 by decide)]
    exact ⟨fun q => absurd q (by decide), rfl⟩
  · rw [if_pos g, if_pos g2, if_neg (show ¬ (2 : Int32) ≤ 0 by decide)]
    exact ⟨fun q => absurd q (by decide), rfl⟩
  · have e : (if qR A = 0 then (if qM A ≠ 0 then (2 : Int32) else (if k < 0 then (3 : Int32) else (if k ≤ 7 then (0 : Int32) else 3))) else 1) = 3 := by
      rw [if_pos g, if_neg (show ¬ qM A ≠ 0 from fun q => q g2)]
      by_cases w : k < 0
      · rw [if_pos w]
      · rw [if_neg w, if_neg (by omega)]
    rw [e, if_neg (show ¬ (3 : Int32) ≤ 0 by decide)]
    exact ⟨fun q => absurd q (by decide), rfl⟩
theorem tdigits {s : xS} {w : Int} (hw : -2147483648 ≤ w ∧ w < 2147483648) (hw2 : ¬ (0 ≤ w ∧ w ≤ 14)) : (tm_digits_ok s (i3 w) ∧ tm_digits s (i3 w) = (0, sI s 230 0 1)) ∧ (tm_exponent_ok s (i3 w) ∧ tm_exponent s (i3 w) = (0, sI s 230 0 1)) := by
  have c0 : (i3 w < 0) = (w < 0) := by rw [i3_lit, i3_lt (by omega)]
  have c1 : (i3 w ≤ 14) = (w ≤ 14) := by rw [i3_lit, i3_le (by omega)]
  have e : tm_noNumber (i3 w) = true := by
    unfold tm_noNumber
    simp only [c0, c1]
    by_cases g : w < 0
    · rw [decide_eq_true g]; rfl
    · rw [decide_eq_false (show ¬ w ≤ 14 by omega)]; cases decide (w < 0) <;> rfl
  rw [tm_digits_eq, tm_exponent_eq]
  unfold tm_digits_ok tm_digits_d tm_exponent_ok tm_exponent_d
  rw [e]
  have n : ¬ zb true ≤ 0 := by decide
  rw [if_neg n, if_neg n]
  exact ⟨⟨fun q => absurd q n, rfl⟩, fun q => absurd q n, rfl⟩
theorem tmode {s : xS} {k m : Int} (hk : -2147483648 ≤ k ∧ k < 2147483648) (hm : -2147483648 ≤ m ∧ m < 2147483648) (h2 : ¬ ((0 ≤ k ∧ k ≤ 1) ∧ 0 ≤ m ∧ m ≤ 9)) : tm_mode s (i3 k) (i3 m) = sI s 230 0 1 := by
  have c0 : (i3 k < 0) = (k < 0) := by rw [i3_lit, i3_lt (by omega)]
  have c1 : ((1 : Int32) < i3 k) = (1 < k) := by rw [i3_lit, i3_lt (by omega)]
  have c2 : (i3 m < 0) = (m < 0) := by rw [i3_lit, i3_lt (by omega)]
  have c3 : (i3 m ≤ 9) = (m ≤ 9) := by rw [i3_lit, i3_le (by omega)]
  rw [tm_mode_eq]
  unfold tm_mode_d
  simp only [c0, c1, c2, c3]
  have e : zb (decide (k < 0) || (decide (1 < k) || (decide (m < 0) || !decide (m ≤ 9)))) = 1 := by
    have : (k < 0 ∨ 1 < k ∨ m < 0 ∨ ¬ m ≤ 9) := by omega
    rcases this with w | w | w | w
    · rw [decide_eq_true w]; rfl
    · rw [decide_eq_true w]; cases decide (k < 0) <;> rfl
    · rw [decide_eq_true w]; cases decide (k < 0) <;> cases decide (1 < k) <;> rfl
    · rw [decide_eq_false w]; cases decide (k < 0) <;> cases decide (1 < k) <;> cases decide (m < 0) <;> rfl
  rw [e, if_pos (show ¬ (1 : Int32) = 0 by decide)]
theorem tstore {s : xS} {A : aA} {p : Int} {b : Int64} (hp : -2147483648 ≤ p ∧ p < 2147483648) (hA : VA A) (h : RV s A) : (qR A ≠ 0 → tm_store_ok s (i3 p) b ∧ tm_store s (i3 p) b = sI s 230 0 1) ∧ (qR A = 0 → ¬ (0 ≤ p ∧ p ≤ 92) → tm_store_ok s (i3 p) b ∧ tm_store s (i3 p) b = sI s 230 0 2) := by
  have hrr := hA.1.2.2.2
  have r0 : (gI s 230 9 ≤ 0) = (qR A = 0) := by rw [h.2.2.1, i3_lit, i3_le (by omega)]; apply propext; omega
  have c0 : (i3 p < 0) = (p < 0) := by rw [i3_lit, i3_lt (by omega)]
  have c1 : (i3 p ≤ 92) = (p ≤ 92) := by rw [i3_lit, i3_le (by omega)]
  rw [tm_store_eq]
  unfold tm_store_ok tm_store_d
  simp only [r0, c0, c1]
  have go : ∀ v : Int32, ¬ v = 0 → tm_store_33_ok xfu (sI s 230 0 v) (i3 p) b 0 ∧ tm_store_33 xfu (sI s 230 0 v) (i3 p) b 0 = sI s 230 0 v := by
    intro v hv
    obtain ⟨n, hn⟩ : ∃ n, xfu = n + 1 := ⟨xfu - 1, by rw [xfu_eq]⟩
    rw [hn]
    unfold tm_store_33 tm_store_33_ok
    have z : ¬ gI (sI s 230 0 v) 230 0 = 0 := by rw [gI_sI, if_pos ⟨rfl, rfl⟩]; exact hv
    rw [if_neg (show ¬ (8 : Int32) ≤ 0 by decide), if_pos (show ¬ _ from z)]
    exact ⟨fun _ q => absurd q z, rfl⟩
  refine ⟨fun g => ?_, fun g g2 => ?_⟩
  · rw [if_neg g]
    exact go 1 (by decide)
  · have e : (if qR A = 0 then (if p < 0 then (2 : Int32) else (if p ≤ 92 then (0 : Int32) else 2)) else 1) = 2 := by
      rw [if_pos g]
      by_cases w : p < 0
      · rw [if_pos w]
      · rw [if_neg w, if_neg (by omega)]
    rw [e]
    exact go 2 (by decide)
theorem tcode {s : xS} {p : Int} (hp : -2147483648 ≤ p ∧ p < 2147483648) (hp2 : ¬ (0 ≤ p ∧ p ≤ 99)) : tm_code_ok s (i3 p) ∧ tm_code s (i3 p) = (0, sI s 230 0 1) := by
  have c0 : (i3 p < 0) = (p < 0) := by rw [i3_lit, i3_lt (by omega)]
  have c1 : (i3 p ≤ 99) = (p ≤ 99) := by rw [i3_lit, i3_le (by omega)]
  rw [tm_code_eq]
  unfold tm_code_ok tm_code_d
  simp only [c0, c1]
  have e : zb (decide (p < 0) || !decide (p ≤ 99)) = 1 := by
    by_cases g : p < 0
    · rw [decide_eq_true g]; rfl
    · rw [decide_eq_false (show ¬ p ≤ 99 by omega)]; cases decide (p < 0) <;> rfl
  rw [e, if_neg (show ¬ (1 : Int32) ≤ 0 by decide)]
  exact ⟨fun q => absurd q (by decide), rfl⟩
theorem tout {s : xS} {A : aA} {i : Int} (hi : -2147483648 ≤ i ∧ i < 2147483648) (hi2 : ¬ (0 ≤ i ∧ i < qOn A)) (hA : VA A) (h : RV s A) : tm_out_ok s (i3 i) ∧ tm_out s (i3 i) = (0, sI s 230 0 1) := by
  have h100 := hA.2.2.2.2.2.2.2.2
  have c0 : (i3 i < 0) = (i < 0) := by rw [i3_lit, i3_lt (by omega)]
  have c1 : (i3 i < gI s 230 24) = (i < qOn A) := by rw [h.2.2.2.2.2.2.2.2.2.1, i3_lt (by omega)]
  rw [tm_out_eq]
  unfold tm_out_ok tm_out_d
  simp only [c0, c1]
  have e : zb (decide (i < 0) || !decide (i < qOn A)) = 1 := by
    by_cases g : i < 0
    · rw [decide_eq_true g]; rfl
    · rw [decide_eq_false (show ¬ i < qOn A by omega)]; cases decide (i < 0) <;> rfl
  rw [e, if_neg (show ¬ (1 : Int32) ≤ 0 by decide)]
  exact ⟨fun q => absurd q (by decide), rfl⟩
theorem tundo {s : xS} {A : aA} (hA : VA A) (hr : qR A ≠ 0) (h : RV s A) : tm_undo_ok s ∧ tm_undo s = (false, sI s 230 0 1) := by
  have hrr := hA.1.2.2.2
  have r0 : ¬ gI s 230 9 ≤ 0 := by rw [h.2.2.1, i3_lit, i3_le (by omega)]; omega
  rw [tm_undo_eq]
  unfold tm_undo_ok tm_undo_d
  rw [decide_eq_false r0]
  have e : zb (!false) = 1 := rfl
  rw [e, if_pos (show (0 : Int32) < 1 by decide)]
  exact ⟨fun q => absurd (show (0 : Int32) < 1 by decide) q, rfl⟩
theorem tshown {s : xS} {p : Int} (hp : -2147483648 ≤ p ∧ p < 2147483648) (hp2 : ¬ (0 ≤ p ∧ p ≤ 2)) : tm_shown_ok s (i3 p) ∧ tm_shown s (i3 p) = (0, sI s 230 0 1) := by
  have c0 : (i3 p < 0) = (p < 0) := by rw [i3_lit, i3_lt (by omega)]
  have c1 : (i3 p ≤ 2) = (p ≤ 2) := by rw [i3_lit, i3_le (by omega)]
  rw [tm_shown_eq]
  unfold tm_shown_ok tm_shown_d
  simp only [c0, c1]
  have e : zb (decide (p < 0) || !decide (p ≤ 2)) = 1 := by
    by_cases g : p < 0
    · rw [decide_eq_true g]; rfl
    · rw [decide_eq_false (show ¬ p ≤ 2 by omega)]; cases decide (p < 0) <;> rfl
  rw [e, if_neg (show ¬ (1 : Int32) ≤ 0 by decide)]
  exact ⟨fun q => absurd q (by decide), rfl⟩
