/-! THE SOLVER, at the reference -/
theorem rW_rB {s : xS} {k : Nat} {n : Int × Int} (h : rW s k n) : rB (gI s 235 k) (gJ s 236 k) (gI s 237 k) n := h
theorem rtell {s : xS} {D : aD} {k i : Nat} {n : Int × Int} (hk : k < 5) (hi : i < 15) (hn : rW s k n) (vn : vN n) (hv : vD D) (h : rD s 0 D) : tm_tell_ok s (i3 k) (i3 i) ∧ fr (Pn i) s (tm_tell s (i3 k) (i3 i)) ∧ rD (tm_tell s (i3 k) (i3 i)) 0 (sN D i n) := by
  rw [tm_tell_eq]
  unfold tm_tell_ok tm_tell_d
  rw [i3_natN (show k < 2147483648 by omega)]
  obtain ⟨p1, p2, p3⟩ := rset s (i := i) (by omega) (rA_of (rW_rB hn)) (vN_z vn)
  have hin : vp_in (i3 k) 5 := by rw [i3_inN (by omega)]; omega
  exact ⟨⟨hin, hin, hin, p1⟩, p2, rD_num hi p2 p3 hv h⟩
theorem rnote {s : xS} {i k : Nat} {n : Int × Int} (hk : k < 5) (hi : i < 23) (hn : rN s 0 i n) : tm_note_ok s (i3 i) (i3 k) ∧ fr (fun b j => (235 ≤ b ∧ b ≤ 237) ∧ j = k) s (tm_note s (i3 i) (i3 k)) ∧ rW (tm_note s (i3 i) (i3 k)) k n := by
  rw [tm_note_eq]
  unfold tm_note_ok tm_note_d
  have ei : (23 : Int32) + i3 i = i3 (23 + i : Nat) := by rw [i3_lit, i3_add]; rfl
  rw [ei, i3_natN (show i < 2147483648 by omega), i3_natN (show 23 + i < 2147483648 by omega), i3_natN (show k < 2147483648 by omega)]
  obtain ⟨a, b, c⟩ := rN_rB hn
  have hin : vp_in (i3 k) 5 := by rw [i3_inN (by omega)]; omega
  refine ⟨⟨by rw [i3_inN (by omega)]; omega, hin, by rw [i3_inN (by omega)]; omega, hin, by rw [i3_inN (by omega)]; omega, hin⟩, fr_sI (fr_sJ (fr_sI (fr_refl ..) ⟨by omega, rfl⟩) ⟨by omega, rfl⟩) ⟨by omega, rfl⟩, ?_, ?_, ?_⟩
  · rw [gI_sI, if_neg (by omega), gI_sJ, gI_sI, if_pos ⟨rfl, rfl⟩, a]
  · rw [gJ_sI, gJ_sJ, if_pos ⟨rfl, rfl⟩, b]
  · rw [gI_sI, if_pos ⟨rfl, rfl⟩, c]
/-- the parts that neither a step nor the solver's arithmetic touches -/
def RVy (s : xS) (A : aA) : Prop := gI s 230 4 = i3 (qM A) ∧ RVf s A ∧ RVp s A ∧ RVl s A ∧ RVt s A ∧ RVo s A
theorem RVy_fr {P : Nat → Nat → Prop} {s t : xS} {A : aA} (f : fr P s t) (h : ∀ b j, (b = 230 ∧ (j = 4 ∨ j = 5 ∨ (17 ≤ j ∧ j ≤ 24))) ∨ b = 233 ∨ b = 239 ∨ b = 240 → ¬ P b j) (q : RVy s A) : RVy t A := by
  obtain ⟨q1, q2, q3, q4, q5, q6⟩ := q
  exact ⟨(f.1 _ _ (h _ _ (by omega))).1.trans q1, RVf_fr f (h _ _ (by omega)) q2, RVp_fr f (fun j => h _ _ (by omega)) q3, RVl_fr f (fun j w => h _ _ (by omega)) q4, RVt_fr f (h _ _ (by omega)) (fun j => h _ _ (by omega)) q5, RVo_fr f (h _ _ (by omega)) (fun j => h _ _ (by omega)) q6⟩
theorem RV_y {s : xS} {A : aA} (h : RV s A) : RVy s A := ⟨h.1.2, h.2.1, h.2.2.2.2.1, h.2.2.2.2.2.2.2.1, h.2.2.2.2.2.2.2.2.1, h.2.2.2.2.2.2.2.2.2⟩
/-- what a step changes, at the reference -/
def Pre (b j : Nat) : Prop := (b = 230 ∧ (j = 3 ∨ j = 5 ∨ (8 ≤ j ∧ j ≤ 10) ∨ j = 12 ∨ j = 13 ∨ (29 ≤ j ∧ j ≤ 31))) ∨ b = 231 ∨ b = 232 ∨ b = 242 ∨ (234 ≤ b ∧ b ≤ 237)
theorem rfin2 {s : xS} {A : aA} {D : aD} (hA : VA A) (hr : qR A = 2) (hy : RVy s A) (hh : RVh s A) (hd : rD s 0 D) (hD : vD D) (hV : gI s 230 13 = i3 (qV A)) : tm_keep_ok (sI s 230 9 0) 7 ∧ fr Pre s (tm_keep (sI s 230 9 0) 7) ∧ RV (tm_keep (sI s 230 9 0) 7) (aFin1 A D) := by
  have vS := hA.2.1.2.2 hr
  have f0 : fr (fun b j => b = 230 ∧ j = 9) s (sI s 230 9 0) := fr_sI (fr_refl ..) ⟨rfl, rfl⟩
  have hK := hA.2.1.1
  obtain ⟨k1, k2, k3, k4⟩ := rkeep (A := A) (f := 7) (D := qS A) (s := sI s 230 9 0) (Or.inr rfl) hA.2.1 vS (rD_fr f0 (fun m _ _ => by omega) (fun m _ _ => by omega) vS (hh.2.2 hr)) ⟨(f0.1 _ _ (by omega)).1.trans hh.1, fun j j1 j2 => rD_fr f0 (fun m _ _ => by omega) (fun m _ _ => by omega) (hA.2.1.2.1 j j1 j2) (hh.2.1 j j1 j2)⟩
  have k1' : tm_keep_ok (sI s 230 9 0) 7 := k1
  have k2' : fr (fun b j => (b = 230 ∧ j = 3) ∨ (b = 231 ∧ 80 ≤ j ∧ j < 480) ∨ (b = 232 ∧ 24 ≤ j ∧ j < 144)) (sI s 230 9 0) (tm_keep (sI s 230 9 0) 7) := k2
  have k3' : gI (tm_keep (sI s 230 9 0) 7) 230 3 = i3 (kPush (qK A)) := k3
  have k4' : ∀ j, 1 ≤ j → j ≤ kPush (qK A) → rD (tm_keep (sI s 230 9 0) 7) j (hPush (qK A) (qH A) (qS A) j) := k4
  have f1 : fr (fun b j => (b = 230 ∧ (j = 3 ∨ j = 9)) ∨ (b = 231 ∧ 80 ≤ j ∧ j < 480) ∨ (b = 232 ∧ 24 ≤ j ∧ j < 144)) s (tm_keep (sI s 230 9 0) 7) := fr_trans (fr_mono f0 (fun b j q => by omega)) (fr_mono k2' (fun b j q => by omega))
  obtain ⟨y1, y2, y3, y4, y5, y6⟩ := RVy_fr f1 (fun b j w => by omega) hy
  refine ⟨k1', fr_mono f1 (fun b j q => by unfold Pre; omega), ⟨rD_fr f1 (fun m _ _ => by omega) (fun m _ _ => by omega) hD hd, y1⟩, y2, ?_, ⟨k3', k4', fun w => absurd w (by show ¬ (0 : Int) = 2; decide)⟩, y3, fun w => absurd rfl w, ⟨(f1.1 _ _ (by omega)).1.trans hV, fun w => absurd w (by show ¬ (0 : Int) = 2; decide)⟩, y4, y5, y6⟩
  show gI _ 230 9 = i3 0
  rw [(k2'.1 _ _ (by omega)).1, gI_sI, if_pos ⟨rfl, rfl⟩]; rfl
theorem rfl2 {s : xS} {A : aA} {c : Int} (hA : VA A) (hr : qR A = 2) (hy : RVy s A) (hh : RVh s A) (hR : gI s 230 9 = i3 2) (hV : gI s 230 13 = i3 (qV A)) : tm_fail_ok s (i3 c) ∧ fr Pre s (tm_fail s (i3 c)) ∧ RV (tm_fail s (i3 c)) (aFl A c) := by
  have vS := hA.2.1.2.2 hr
  rw [tm_fail_eq]
  unfold tm_fail_ok tm_fail_d
  have e2 : gI s 230 9 = 2 := hR
  rw [if_neg (show ¬ ¬ gI s 230 9 = 2 from fun q => q e2)]
  obtain ⟨p1, p2, p3⟩ := rcopy s (f := 7) (i := 0) (by omega) (by omega) (by omega)
  have p1' : tm_copy_ok s 7 0 := p1
  have p2' : fr (Pb 0) s (tm_copy s 7 0) := p2
  have p3' : rD (tm_copy s 7 0) 0 (qS A) := p3 _ vS (hh.2.2 hr)
  have f0 : fr (fun b j => b = 230 ∧ (j = 9 ∨ j = 5)) (tm_copy s 7 0) (sI (sI (tm_copy s 7 0) 230 9 0) 230 5 (i3 c)) := fr_sI (fr_sI (fr_refl ..) ⟨rfl, Or.inl rfl⟩) ⟨rfl, Or.inr rfl⟩
  have f1 : fr (fun b j => (b = 230 ∧ (j = 9 ∨ j = 5)) ∨ (b = 231 ∧ j < 80) ∨ (b = 232 ∧ j < 24)) s (sI (sI (tm_copy s 7 0) 230 9 0) 230 5 (i3 c)) := fr_trans (fr_mono p2' (fun b j q => by unfold Pb at q; omega)) (fr_mono f0 (fun b j q => by omega))
  obtain ⟨y1, y2, y3, y4, y5, y6⟩ := hy
  have hK := hA.2.1.1
  refine ⟨fun _ => p1', fr_mono f1 (fun b j q => by unfold Pre; omega), ⟨rD_fr f0 (fun m _ _ => by omega) (fun m _ _ => by omega) vS p3', (f1.1 _ _ (by omega)).1.trans y1⟩, ?_, ?_, ⟨(f1.1 _ _ (by omega)).1.trans hh.1, fun j j1 j2 => rD_fr f1 (fun m _ _ => by omega) (fun m _ _ => by omega) (hA.2.1.2.1 j j1 j2) (hh.2.1 j j1 j2), fun w => absurd w (by show ¬ (0 : Int) = 2; decide)⟩, RVp_fr f1 (fun j => by omega) y3, fun w => absurd rfl w, ⟨(f1.1 _ _ (by omega)).1.trans hV, fun w => absurd w (by show ¬ (0 : Int) = 2; decide)⟩, RVl_fr f1 (fun j w => by omega) y4, RVt_fr f1 (by omega) (fun j => by omega) y5, RVo_fr f1 (by omega) (fun j => by omega) y6⟩
  · show gI _ 230 5 = i3 c; rw [gI_sI, if_pos ⟨rfl, rfl⟩]
  · show gI _ 230 9 = i3 0; rw [gI_sI, if_neg (by omega), gI_sI, if_pos ⟨rfl, rfl⟩]; rfl
theorem rtk {s : xS} {A : aA} {k : Nat} {n : Int × Int} {w : Nat → Int × Int} (hv : vD (qD A)) (hva : VAh A) (hp : VAp A) (hlb : 0 ≤ qLb A ∧ qLb A ≤ 7) (hr : qR A = 2) (hk : k < 3) (hy : RVy s A) (hh : RVh s A) (hR : gI s 230 9 = i3 2) (hd : rD s 0 (qD A)) (hV : gI s 230 13 = i3 (qV A)) (hL : gI s 230 11 = i3 (qLb A)) (vn : vN n) (hn : rW s k n) (w0 : rW s 0 (w 0)) (w1 : rW s 1 (w 1)) (w2 : 2 ≤ qV A → rW s 2 (w 2)) (w3 : 1 ≤ qV A → rW s 3 (w 3)) (w4 : 2 ≤ qV A → rW s 4 (w 4)) (hph : (k : Int) = if qV A = 0 then 0 else if qV A = 1 then 1 else 2) : tm_take_ok s (i3 k) ∧ fr Pre s (tm_take s (i3 k)) ∧ RV (tm_take s (i3 k)) (aTk A n w) := by
  rw [tm_take_eq]
  unfold tm_take_ok tm_take_d
  have e1 : gI s 230 13 + 1 = i3 (qV A + 1 : Nat) := by rw [hV, i3_lit, i3_add]; rfl
  rw [e1]
  have f0 : fr (fun b j => b = 230 ∧ (j = 12 ∨ j = 13)) s (sI (sI s 230 12 (i3 k)) 230 13 (i3 (qV A + 1 : Nat))) := fr_sI (fr_sI (fr_refl ..) ⟨rfl, Or.inl rfl⟩) ⟨rfl, Or.inr rfl⟩
  have loop : ∀ (m i : Nat) (t : xS) (D : aD), 10 ≤ i → i ≤ 14 → 15 ≤ m + i → vD D → fr (fun b j => (b = 231 ∧ j < 80) ∨ (b = 232 ∧ j < 24)) (sI (sI s 230 12 (i3 k)) 230 13 (i3 (qV A + 1 : Nat))) t → rD t 0 D → ∃ u D', tm_take_18_ok m t (i3 k) (i3 i) ∧ tm_take_18 m t (i3 k) (i3 i) = tm_start (sI (sI u 231 56 1) 231 57 0) (i3 (qLb A)) ∧ tm_start_ok (sI (sI u 231 56 1) 231 57 0) (i3 (qLb A)) ∧ fr (fun b j => (b = 231 ∧ j < 80) ∨ (b = 232 ∧ j < 24)) (sI (sI s 230 12 (i3 k)) 230 13 (i3 (qV A + 1 : Nat))) u ∧ rD u 0 D' ∧ vD D' ∧ D'.2 = D.2 ∧ (∀ j, dN D' j = if i ≤ j ∧ j ≤ 13 then n else dN D j) := by
    intro m
    induction m with
    | zero => intro i t D h1 h2 h3; omega
    | succ m ih =>
      intro i t D h1 h2 h3 vD' ft ht
      unfold tm_take_18 tm_take_18_ok
      have c1 : ((13 : Int32) < i3 i) = (13 < i) := by rw [i3_lit, i3_lt (by omega)]; apply propext; omega
      have e2 : i3 i + 1 = i3 (i + 1 : Nat) := by rw [i3_lit, i3_add]; rfl
      have eL : gI t 230 11 = i3 (qLb A) := ((ft.1 _ _ (by omega)).1.trans (f0.1 _ _ (by omega)).1).trans hL
      simp only [c1, e2, eL]
      by_cases g : 13 < i
      · rw [if_pos g]
        have fp : fr (fun b j => (b = 231 ∧ j < 80) ∨ (b = 232 ∧ j < 24) ∨ (b = 230 ∧ (j = 12 ∨ j = 13))) s (sI (sI t 231 56 1) 231 57 0) := fr_sI (fr_sI (fr_trans (fr_mono f0 (fun b j q => by omega)) (fr_mono ft (fun b j q => by omega))) (Or.inl ⟨rfl, by omega⟩)) (Or.inl ⟨rfl, by omega⟩)
        obtain ⟨l1, l2⟩ := rlab (k := qLb A) (s := sI (sI t 231 56 1) 231 57 0) (RVp_fr fp (fun j => by omega) hy.2.2.1) hp (by omega)
        have ls : tm_start_ok (sI (sI t 231 56 1) 231 57 0) (i3 (qLb A)) := by unfold tm_start_ok; exact l1
        exact ⟨t, D, ⟨fun _ => ls, fun q => absurd g q⟩, rfl, ls, ft, ht, vD', rfl, fun j => by rw [if_neg (by omega)]⟩
      · rw [if_neg g]
        have hnt : rW t k n := rW_fr ft (fun b j w => by omega) (rW_fr f0 (fun b j w => by omega) hn)
        obtain ⟨p1, p2, p3⟩ := rtell (k := k) (i := i) (by omega) (by omega) hnt vn vD' ht
        obtain ⟨u, D', q1, q2, q3, q4, q5, q6, q7, q8⟩ := ih (i + 1) (tm_tell t (i3 k) (i3 i)) (sN D i n) (by omega) (by omega) (by omega) (vD_sN vD' vn) (fr_trans ft (fr_mono p2 (fun b j q => by unfold Pn at q; omega))) p3
        refine ⟨u, D', ⟨fun q => absurd q g, fun _ => ⟨p1, q1⟩⟩, q2, q3, q4, q5, q6, q7, fun j => ?_⟩
        rw [q8 j]
        show (if i + 1 ≤ j ∧ j ≤ 13 then n else if j = i then n else D.1 j) = _
        by_cases w1 : i + 1 ≤ j ∧ j ≤ 13
        · rw [if_pos w1, if_pos (by omega)]
        · rw [if_neg w1]
          by_cases w2 : j = i
          · rw [if_pos w2, if_pos (by omega)]
          · rw [if_neg w2, if_neg (by omega)]; rfl
  obtain ⟨u, D', q1, q2, q3, q4, q5, q6, q7, q8⟩ := loop xfu 10 _ (qD A) (by omega) (by omega) (by rw [xfu_eq]; omega) hv (fr_refl ..) (rD_fr f0 (fun m _ _ => by omega) (fun m _ _ => by omega) hv hd)
  have e10 : i3 ((10 : Nat) : Int) = 10 := rfl
  rw [e10] at q1 q2
  refine ⟨q1, ?_⟩
  rw [q2]
  have hDf : D' = sN (sN (sN (sN (qD A) 10 n) 11 n) 12 n) 13 n := by
    refine Prod.ext (funext fun j => ?_) q7
    refine Eq.trans (q8 j) ?_
    show _ = (if j = 13 then n else if j = 12 then n else if j = 11 then n else if j = 10 then n else (qD A).1 j)
    by_cases w : 10 ≤ j ∧ j ≤ 13
    · rw [if_pos w]
      have : j = 10 ∨ j = 11 ∨ j = 12 ∨ j = 13 := by omega
      rcases this with w | w | w | w <;> subst w <;> rfl
    · rw [if_neg w, if_neg (by omega), if_neg (by omega), if_neg (by omega), if_neg (by omega)]; rfl
  have d1 := rD_lift (b := true) q5 q6
  have d2 := rD_shut d1 (vD_sLi q6)
  have hD2 : sOn (sLi D' true) false = aFil n (qD A) := by rw [hDf]; rfl
  rw [hD2] at d2
  have vf := aFil_v hv vn
  have fp : fr (fun b j => (b = 231 ∧ j < 80) ∨ (b = 232 ∧ j < 24) ∨ (b = 230 ∧ (j = 12 ∨ j = 13))) s (sI (sI u 231 56 1) 231 57 0) := fr_sI (fr_sI (fr_trans (fr_mono f0 (fun b j q => by omega)) (fr_mono q4 (fun b j q => by omega))) (Or.inl ⟨rfl, by omega⟩)) (Or.inl ⟨rfl, by omega⟩)
  have v13 : gI (sI (sI u 231 56 1) 231 57 0) 230 13 = i3 (qV A + 1 : Nat) := by rw [gI_sI, if_neg (by omega), gI_sI, if_neg (by omega), (q4.1 _ _ (by omega)).1, gI_sI, if_pos ⟨rfl, rfl⟩]
  have v12 : gI (sI (sI u 231 56 1) 231 57 0) 230 12 = i3 k := by rw [gI_sI, if_neg (by omega), gI_sI, if_neg (by omega), (q4.1 _ _ (by omega)).1, gI_sI, if_neg (by omega), gI_sI, if_pos ⟨rfl, rfl⟩]
  have d2' : rD (sI (sI u 231 56 1) 231 57 0) 0 (aFil n (qD A)) := d2
  obtain ⟨l1, l2⟩ := rlab (k := qLb A) (s := sI (sI u 231 56 1) 231 57 0) (RVp_fr fp (fun j => by omega) hy.2.2.1) hp (by omega)
  generalize sI (sI u 231 56 1) 231 57 0 = x at *
  have hst : tm_start x (i3 (qLb A)) = sI (sI x 230 10 (i3 (aLab (qC A) (qLb A) + 1))) 230 8 0 := by
    rw [tm_start_eq]; unfold tm_start_d; rw [l2, i3_lit, i3_add]
  rw [hst]
  have fb : fr (fun b j => b = 230 ∧ (j = 8 ∨ j = 10)) x (sI (sI x 230 10 (i3 (aLab (qC A) (qLb A) + 1))) 230 8 0) := fr_sI (fr_sI (fr_refl ..) ⟨rfl, Or.inr rfl⟩) ⟨rfl, Or.inl rfl⟩
  have fs : fr (fun b j => (b = 231 ∧ j < 80) ∨ (b = 232 ∧ j < 24) ∨ (b = 230 ∧ (j = 12 ∨ j = 13 ∨ j = 8 ∨ j = 10))) s (sI (sI x 230 10 (i3 (aLab (qC A) (qLb A) + 1))) 230 8 0) := fr_trans (fr_mono fp (fun b j q => by omega)) (fr_mono fb (fun b j q => by omega))
  obtain ⟨y1, y2, y3, y4, y5, y6⟩ := RVy_fr fs (fun b j w => by omega) hy
  have hK := hva.1
  refine ⟨fr_mono fs (fun b j q => by unfold Pre; omega), ⟨rD_fr fb (fun m _ _ => by omega) (fun m _ _ => by omega) vf d2', y1⟩, y2, ?_, ⟨(fs.1 _ _ (by omega)).1.trans hh.1, fun j j1 j2 => rD_fr fs (fun m _ _ => by omega) (fun m _ _ => by omega) (hva.2.1 j j1 j2) (hh.2.1 j j1 j2), fun w => rD_fr fs (fun m _ _ => by omega) (fun m _ _ => by omega) (hva.2.2 hr) (hh.2.2 hr)⟩, y3, fun _ => ⟨?_, ?_, fun i hi => absurd hi (Nat.not_lt_zero i)⟩, ⟨?_, fun _ => ⟨?_, ?_, ?_, ?_, fun q => ?_, fun q => ?_, fun q => ?_⟩⟩, y4, y5, y6⟩
  · show gI _ 230 9 = i3 (qR A); rw [hr]; exact (fs.1 _ _ (by omega)).1.trans hR
  · rw [gI_sI, if_neg (by omega), gI_sI, if_pos ⟨rfl, rfl⟩]; rfl
  · rw [gI_sI, if_pos ⟨rfl, rfl⟩]; rfl
  · exact (fb.1 _ _ (by omega)).1.trans v13
  · exact (fs.1 _ _ (by omega)).1.trans hL
  · rw [(fb.1 _ _ (by omega)).1, v12]
    refine congrArg i3 ?_
    show (k : Int) = (if qV A + 1 = 1 then 0 else if qV A + 1 = 2 then 1 else 2)
    rw [hph]
    by_cases w0 : qV A = 0
    · rw [if_pos w0, if_pos (show qV A + 1 = 1 by omega)]
    · rw [if_neg w0, if_neg (show ¬ qV A + 1 = 1 by omega)]
      by_cases w1 : qV A = 1
      · rw [if_pos w1, if_pos (show qV A + 1 = 2 by omega)]
      · rw [if_neg w1, if_neg (show ¬ qV A + 1 = 2 by omega)]
  · exact rW_fr fs (fun b j w => by omega) w0
  · exact rW_fr fs (fun b j w => by omega) w1
  · have q' : 3 ≤ qV A + 1 := q
    exact rW_fr fs (fun b j w => by omega) (w2 (by omega))
  · have q' : 2 ≤ qV A + 1 := q
    exact rW_fr fs (fun b j w => by omega) (w3 (by omega))
  · have q' : 3 ≤ qV A + 1 := q
    exact rW_fr fs (fun b j w => by omega) (w4 (by omega))
theorem rfnd {s : xS} {A : aA} {D : aD} {k a b : Nat} {e v wa wb : Int × Int} (hA : VA A) (hr : qR A = 2) (hk : k < 5) (ha : a < 5) (hb : b < 5) (hy : RVy s A) (hh : RVh s A) (hd : rD s 0 D) (hv : vD D) (hx : dN D 10 = v) (hDD : ∀ j, j ≠ 10 → j ≠ 11 → dN D j = dN (qD A) j) (hD2 : D.2 = (qD A).2) (vv : vN v) (hV : gI s 230 13 = i3 (qV A)) (he : rW s k e) (ve : vN e) (hwa : rW s a wa) (va : vN wa) (hwb : rW s b wb) (vb : vN wb) : tm_find_ok s (i3 k) (i3 a) (i3 b) ∧ fr Pre s (tm_find s (i3 k) (i3 a) (i3 b)) ∧ RV (tm_find s (i3 k) (i3 a) (i3 b)) (aFin1 A (aFnd e v wa wb (qD A))) := by
  rw [tm_find_eq]
  unfold tm_find_ok tm_find_d
  obtain ⟨a1, a2, a3⟩ := rmv (show 11 < 15 by omega) (show 10 < 15 by omega) hd hv
  have a1' : tm_move_ok s 10 11 := a1
  have a2' : fr (Pn 11) s (tm_move s 10 11) := a2
  have a3' : rD (tm_move s 10 11) 0 (aMv D 11 10) := a3
  have v1 := vD_mv (i := 11) hv (show 10 < 15 by omega)
  have tr : ∀ {x y : xS} {i : Nat} {m : Nat} {p : Int × Int}, fr (Pn i) x y → rW x m p → rW y m p := fun f w => rW_fr f (fun b j q => by unfold Pn; omega) w
  have e1 := tr a2' he
  have wa1 := tr a2' hwa
  have wb1 := tr a2' hwb
  generalize tm_move s 10 11 = t1 at *
  obtain ⟨b1, b2, b3⟩ := rtell (k := k) (i := 10) hk (by omega) e1 ve v1 a3'
  have b1' : tm_tell_ok t1 (i3 k) 10 := b1
  have b2' : fr (Pn 10) t1 (tm_tell t1 (i3 k) 10) := b2
  have b3' : rD (tm_tell t1 (i3 k) 10) 0 (sN (aMv D 11 10) 10 e) := b3
  have v2 := vD_sN (i := 10) v1 ve
  have wa2 := tr b2' wa1
  have wb2 := tr b2' wb1
  generalize tm_tell t1 (i3 k) 10 = t2 at *
  obtain ⟨c1, c2, c3⟩ := rtell (k := a) (i := 12) ha (by omega) wa2 va v2 b3'
  have c1' : tm_tell_ok t2 (i3 a) 12 := c1
  have c2' : fr (Pn 12) t2 (tm_tell t2 (i3 a) 12) := c2
  have c3' : rD (tm_tell t2 (i3 a) 12) 0 (sN (sN (aMv D 11 10) 10 e) 12 wa) := c3
  have v3 := vD_sN (i := 12) v2 va
  have wb3 := tr c2' wb2
  generalize tm_tell t2 (i3 a) 12 = t3 at *
  obtain ⟨d1, d2, d3⟩ := rtell (k := b) (i := 13) hb (by omega) wb3 vb v3 c3'
  have d1' : tm_tell_ok t3 (i3 b) 13 := d1
  have d2' : fr (Pn 13) t3 (tm_tell t3 (i3 b) 13) := d2
  have d3' : rD (tm_tell t3 (i3 b) 13) 0 (sN (sN (sN (aMv D 11 10) 10 e) 12 wa) 13 wb) := d3
  have v4 := vD_sN (i := 13) v3 vb
  generalize tm_tell t3 (i3 b) 13 = t4 at *
  have f4 : fr (fun b j => (b = 231 ∧ j < 80) ∨ (b = 232 ∧ j < 24)) s t4 := fr_trans (fr_trans (fr_trans (fr_mono a2' (fun b j q => by unfold Pn at q; omega)) (fr_mono b2' (fun b j q => by unfold Pn at q; omega))) (fr_mono c2' (fun b j q => by unfold Pn at q; omega))) (fr_mono d2' (fun b j q => by unfold Pn at q; omega))
  have l1 := rD_lift (b := true) d3' v4
  have l2 := rD_shut l1 (vD_sLi v4)
  have hDe : sOn (sLi (sN (sN (sN (aMv D 11 10) 10 e) 12 wa) 13 wb) true) false = aFnd e v wa wb (qD A) := by
    have h1 : (sN (sN (sN (aMv D 11 10) 10 e) 12 wa) 13 wb).1 = (sN (sN (sN (sN (sN (sN (sN (qD A) 10 e) 11 e) 12 e) 13 e) 11 v) 12 wa) 13 wb).1 := by
      funext j
      show (if j = 13 then wb else if j = 12 then wa else if j = 10 then e else if j = 11 then dN D 10 else D.1 j) = (if j = 13 then wb else if j = 12 then wa else if j = 11 then v else if j = 13 then e else if j = 12 then e else if j = 11 then e else if j = 10 then e else (qD A).1 j)
      rw [hx]
      by_cases w13 : j = 13
      · rw [if_pos w13, if_pos w13]
      · by_cases w12 : j = 12
        · rw [if_neg w13, if_neg w13, if_pos w12, if_pos w12]
        · by_cases w11 : j = 11
          · rw [if_neg w13, if_neg w13, if_neg w12, if_neg w12, if_neg (by omega), if_pos w11, if_pos w11]
          · by_cases w10 : j = 10
            · rw [if_neg w13, if_neg w13, if_neg w12, if_neg w12, if_pos w10, if_neg w11, if_neg w13, if_neg w12, if_neg w11, if_pos w10]
            · rw [if_neg w13, if_neg w13, if_neg w12, if_neg w12, if_neg w10, if_neg w11, if_neg w11, if_neg w13, if_neg w12, if_neg w11, if_neg w10]
              exact hDD j w10 w11
    have h2 : (sN (sN (sN (aMv D 11 10) 10 e) 12 wa) 13 wb).2 = (qD A).2 := hD2
    have h3 : sN (sN (sN (aMv D 11 10) 10 e) 12 wa) 13 wb = ((sN (sN (sN (sN (sN (sN (sN (qD A) 10 e) 11 e) 12 e) 13 e) 11 v) 12 wa) 13 wb).1, (qD A).2) := Prod.ext h1 h2
    rw [h3]; rfl
  rw [hDe] at l2
  have l2' : rD (sI (sI t4 231 56 1) 231 57 0) 0 (aFnd e v wa wb (qD A)) := l2
  have f5 : fr (fun b j => (b = 231 ∧ j < 80) ∨ (b = 232 ∧ j < 24)) s (sI (sI t4 231 56 1) 231 57 0) := fr_sI (fr_sI f4 (Or.inl ⟨rfl, by omega⟩)) (Or.inl ⟨rfl, by omega⟩)
  generalize sI (sI t4 231 56 1) 231 57 0 = x at *
  have hK := hA.2.1.1
  obtain ⟨k1, k2, k3⟩ := rfin2 (D := aFnd e v wa wb (qD A)) hA hr (RVy_fr f5 (fun b j w => by omega) hy) ⟨(f5.1 _ _ (by omega)).1.trans hh.1, fun j j1 j2 => rD_fr f5 (fun m _ _ => by omega) (fun m _ _ => by omega) (hA.2.1.2.1 j j1 j2) (hh.2.1 j j1 j2), fun w => rD_fr f5 (fun m _ _ => by omega) (fun m _ _ => by omega) (hA.2.1.2.2 w) (hh.2.2 w)⟩ l2' (aFnd_v hA.1.1 ve vv va vb) ((f5.1 _ _ (by omega)).1.trans hV)
  exact ⟨⟨a1', b1', c1', d1', k1⟩, fr_trans (fr_mono f5 (fun b j q => by unfold Pre; omega)) k2, k3⟩
