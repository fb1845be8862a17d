/-! THE SOLVER, at the class -/
def Psv (b j : Nat) : Prop := Pc b j ∨ b = 35 ∨ (38 ≤ b ∧ b ≤ 45)
theorem Pc_sv {s t : xS} (f : fr Pc s t) : fr Psv s t := fr_mono f (fun b j q => Or.inl q)
theorem P31_sv {s t : xS} (f : fr P31 s t) : fr Psv s t := Pc_sv (P31_c f)
theorem put_sv {s : xS} {a : Nat} {p : Int × Int} (h : 38 ≤ a ∧ a ≤ 45) : fr Psv s (cput1 s a p) := fr_mono (cput1_fr s a p) (fun b j q => by unfold Psv; omega)
theorem Psv_cl {s t : xS} (f : fr Psv s t) : fr Pcl s t := fr_mono f (fun b j q => by unfold Psv Pc at q; unfold Pcl; omega)
theorem Psv_d {s t : xS} {D : aD} (h : fr (fun b _ => 38 ≤ b ∧ b ≤ 45) s t) (h8 : dS D ≤ 8) (hd : cD s 2 D) : cD t 2 D := cD_fr h (fun b j _ _ => by omega) hd h8
/-- an end is found: the value is used, the history keeps -/
theorem cfin {s t : xS} {A : aA} {D : aD} (hA : VA A) (hr : qR A = 2) (h : CV s A) (f : fr Psv s t) (hd : cD t 2 D) (hD : vD D) (hV : gI t 38 0 = i3 (qV A)) : te_endValue_24_ok t (-1) ∧ fr Pcl s (te_endValue_24 t (-1)) ∧ CV (te_endValue_24 t (-1)) (aFin1 A D) := by
  obtain ⟨q1, q2, q3, ⟨nx, q4⟩, q5, q6, q7, q8, q9, q10⟩ := h
  rw [te_endValue_24_eq]
  unfold te_endValue_24_ok te_endValue_24_d
  have n0 : ¬ (-1 : Int32) = 0 := by decide
  rw [if_pos n0, if_neg (show ¬ ¬ (-1 : Int32) = -1 from fun q => q rfl)]
  refine ⟨fun _ q => absurd rfl q, ?_⟩
  have f0 : fr (fun b j => b = 0 ∧ j = 6) t (sI t 0 6 0) := fr_sI (fr_refl ..) ⟨rfl, rfl⟩
  have f1 : fr (fun b j => Psv b j ∨ (b = 0 ∧ j = 6)) s (sI t 0 6 0) := fr_trans (fr_mono f (fun b j q => Or.inl q)) (fr_mono f0 (fun b j q => Or.inr q))
  have hn := q4.1
  have hS := q4.2.2.2.2 hr
  have vS := hA.2.1.2.2 hr
  have pS : cD (sI t 0 6 0) (49 + 29 * nx) (qS A) := cD_fr f1 (fun b j _ _ => by unfold Psv Pc; omega) hS vS.2.2.2.1
  have h4 : CVh (sI t 0 6 0) (zR A 0) nx := by
    have := CVh_fr f1 (fun b j w => by unfold Psv Pc; omega) hA.2.1 q4
    exact ⟨this.1, this.2.1, this.2.2.1, this.2.2.2.1, fun w => absurd w (by show ¬ (0 : Int) = 2; decide)⟩
  have hva : VAh (zR A 0) := ⟨hA.2.1.1, hA.2.1.2.1, fun w => absurd w (by show ¬ (0 : Int) = 2; decide)⟩
  obtain ⟨k1, k2⟩ := ckeep (D := qS A) hva (by show ¬ (0 : Int) = 2; decide) pS h4
  have f2 : fr (fun b j => Psv b j ∨ (b = 0 ∧ j = 6) ∨ (b = 47 ∧ (j = 0 ∨ j = 2))) s (hi_keep (sI t 0 6 0)) := fr_trans (fr_mono f1 (fun b j q => by rcases q with q | q; exact Or.inl q; exact Or.inr (Or.inl q))) (fr_mono k1 (fun b j q => Or.inr (Or.inr q)))
  have f3 : fr (fun b j => (b = 0 ∧ j = 6) ∨ (b = 47 ∧ (j = 0 ∨ j = 2))) t (hi_keep (sI t 0 6 0)) := fr_trans (fr_mono f0 (fun b j q => by omega)) (fr_mono k1 (fun b j q => by omega))
  refine ⟨fr_mono f2 (fun b j q => by unfold Psv Pc at q; unfold Pcl; omega), ⟨cD_fr f3 (fun b j _ _ => by omega) hd hD.2.2.2.1, (f2.1 _ _ (by unfold Psv Pc; omega)).1.trans q1.2.1, cN_fr f2 (by unfold Psv Pc; omega) (by unfold Psv Pc; omega) q1.2.2.1, cN_fr f2 (by unfold Psv Pc; omega) (by unfold Psv Pc; omega) q1.2.2.2⟩, (f2.1 _ _ (by unfold Psv Pc; omega)).1.trans q2, ?_, ⟨(nx + 1) % 6, k2⟩, CVp_fr f2 (fun j => by unfold Psv Pc; omega) q5, fun w => absurd rfl w, ⟨(f3.1 _ _ (by omega)).1.trans hV, fun w => absurd w (by show ¬ (0 : Int) = 2; decide)⟩, CVl_fr f2 (fun j w => by unfold Psv Pc; omega) q8, CVt_fr f2 (by unfold Psv Pc; omega) (fun j => by unfold Psv Pc; omega) q9, CVo_fr f2 (by unfold Psv Pc; omega) (fun j => by unfold Psv Pc; omega) q10⟩
  show gI _ 0 6 = i3 0
  rw [(k1.1 _ _ (by omega)).1, gI_sI, if_pos ⟨rfl, rfl⟩]; rfl
/-- it fails: what was prepared comes back -/
theorem cfl {s t : xS} {A : aA} {c : Int} (hA : VA A) (hr : qR A = 2) (hc : 1 ≤ c ∧ c ≤ 9) (h : CV s A) (f : fr Psv s t) (hV : gI t 38 0 = i3 (qV A)) : te_endValue_24_ok t (i3 c) ∧ fr Pcl s (te_endValue_24 t (i3 c)) ∧ CV (te_endValue_24 t (i3 c)) (aFl A c) := by
  obtain ⟨q1, q2, q3, ⟨nx, q4⟩, q5, q6, q7, q8, q9, q10⟩ := h
  rw [te_endValue_24_eq]
  unfold te_endValue_24_ok te_endValue_24_d
  have n0 : ¬ i3 c = 0 := by rw [i3_lit, i3_eq (by omega)]; omega
  have n1 : ¬ i3 c = -1 := by rw [i3_lit, i3_neg, i3_eq (by omega)]; omega
  rw [if_pos n0, if_pos n1]
  have f0 : fr (fun b j => b = 0 ∧ j = 6) t (sI t 0 6 0) := fr_sI (fr_refl ..) ⟨rfl, rfl⟩
  have f1 : fr (fun b j => Psv b j ∨ (b = 0 ∧ j = 6)) s (sI t 0 6 0) := fr_trans (fr_mono f (fun b j q => Or.inl q)) (fr_mono f0 (fun b j q => Or.inr q))
  have hn := q4.1
  have hS := q4.2.2.2.2 hr
  have vS := hA.2.1.2.2 hr
  have pS : cD (sI t 0 6 0) (49 + 29 * nx) (qS A) := cD_fr f1 (fun b j _ _ => by unfold Psv Pc; omega) hS vS.2.2.2.1
  have e47 : gI (sI t 0 6 0) 47 2 = i3 nx := (f1.1 _ _ (by unfold Psv Pc; omega)).1.trans q4.2.2.1
  obtain ⟨x1, x2, x3⟩ := R0_48 hn
  have hp : hi_prepared (sI t 0 6 0) = 49 + 29 * nx := by unfold hi_prepared; rw [e47, i3_natN (by omega), x1]
  have hpo : hi_prepared_ok (sI t 0 6 0) := by unfold hi_prepared_ok; rw [e47, i3_natN (by omega)]; exact ⟨by rw [i3_inN (by omega)]; omega, x2⟩
  rw [hp]
  obtain ⟨p1, p2, p3⟩ := ccopy xDn_2 x3 (by omega) vS pS
  refine ⟨fun _ _ => ⟨hpo, xDn_2.1, x3.1, p1⟩, ?_⟩
  have f2 : fr (fun b j => Psv b j ∨ (b = 0 ∧ j = 6) ∨ (b = 1 ∧ j = 3)) s (sI (dk_set (sI t 0 6 0) 2 (49 + 29 * nx)) 1 3 (i3 c)) := fr_sI (fr_trans (fr_mono f1 (fun b j q => by rcases q with q | q; exact Or.inl q; exact Or.inr (Or.inl q))) (fr_mono (Pc_sv (Pd2_c p2)) (fun b j q => Or.inl q))) (Or.inr (Or.inr ⟨rfl, rfl⟩))
  have f5 : fr (fun b j => b = 1 ∧ j = 3) (dk_set (sI t 0 6 0) 2 (49 + 29 * nx)) (sI (dk_set (sI t 0 6 0) 2 (49 + 29 * nx)) 1 3 (i3 c)) := fr_sI (fr_refl ..) ⟨rfl, rfl⟩
  have h4 := CVh_fr f2 (fun b j w => by unfold Psv Pc; omega) hA.2.1 q4
  refine ⟨fr_mono f2 (fun b j q => by unfold Psv Pc at q; unfold Pcl; omega), ⟨cD_fr f5 (fun b j _ _ => by omega) p3 vS.2.2.2.1, (f2.1 _ _ (by unfold Psv Pc; omega)).1.trans q1.2.1, cN_fr f2 (by unfold Psv Pc; omega) (by unfold Psv Pc; omega) q1.2.2.1, cN_fr f2 (by unfold Psv Pc; omega) (by unfold Psv Pc; omega) q1.2.2.2⟩, ?_, ?_, ⟨nx, ⟨h4.1, h4.2.1, h4.2.2.1, h4.2.2.2.1, fun w => absurd w (by show ¬ (0 : Int) = 2; decide)⟩⟩, CVp_fr f2 (fun j => by unfold Psv Pc; omega) q5, fun w => absurd rfl w, ⟨?_, fun w => absurd w (by show ¬ (0 : Int) = 2; decide)⟩, CVl_fr f2 (fun j w => by unfold Psv Pc; omega) q8, CVt_fr f2 (by unfold Psv Pc; omega) (fun j => by unfold Psv Pc; omega) q9, CVo_fr f2 (by unfold Psv Pc; omega) (fun j => by unfold Psv Pc; omega) q10⟩
  · show gI _ 1 3 = i3 c; rw [gI_sI, if_pos ⟨rfl, rfl⟩]
  · show gI _ 0 6 = i3 0
    rw [(f5.1 _ _ (by omega)).1, (p2.1 _ _ (by unfold Pd; omega)).1, gI_sI, if_pos ⟨rfl, rfl⟩]; rfl
  · show gI _ 38 0 = i3 (qV A)
    rw [(f5.1 _ _ (by omega)).1, (p2.1 _ _ (by unfold Pd; omega)).1, gI_sI, if_neg (by omega)]; exact hV
/-- a value is taken -/
theorem ctk {s t : xS} {A : aA} {a : Nat} {n : Int × Int} {w : Nat → Int × Int} (hA : VA A) (hr : qR A = 2) (hV : qV A ≤ 99) (h : CV s A) (f : fr Psv s t) (hd : cD t 2 (qD A)) (hV0 : gI t 38 0 = i3 (qV A)) (hst : gI t 38 1 = i3 (aLab (qC A) (qLb A) + 1)) (ha : a = 39 ∨ a = 40 ∨ a = 45) (hn : cN t a n) (vn : vN n) (w0 : cN t 39 (w 0)) (w1 : cN t 40 (w 1)) (w3 : cN t 41 (w 3)) (w4 : 2 ≤ qV A → cN t 42 (w 4)) (hcur : n = if qV A = 1 then w 1 else w 2) : (so_takeValueOf t a).1 = 0 ∧ te_endValue_24_ok (so_takeValueOf t a).2 0 ∧ fr Pcl s (te_endValue_24 (so_takeValueOf t a).2 0) ∧ CV (te_endValue_24 (so_takeValueOf t a).2 0) (aTk A n w) := by
  have hv := hA.1.1
  obtain ⟨q1, q2, q3, ⟨nx, q4⟩, q5, q6, q7, q8, q9, q10⟩ := h
  obtain ⟨k1, k2, k3, k4, _⟩ := hA.2.2.2.2.1.2 hr
  rw [so_takeValueOf_eq]
  unfold so_takeValueOf_d
  have c1 : (gI t 38 0 < 100) := by rw [hV0, i3_lit, i3_lt (by omega)]; omega
  have e1 : gI t 38 0 + 1 = i3 (qV A + 1 : Nat) := by rw [hV0, i3_lit, i3_add]; rfl
  rw [if_pos c1, e1]
  have f0 : fr (fun b j => b = 38 ∧ j = 0) t (sI t 38 0 (i3 (qV A + 1 : Nat))) := fr_sI (fr_refl ..) ⟨rfl, rfl⟩
  have n0 : cN (sI t 38 0 (i3 (qV A + 1 : Nat))) a n := cN_fr f0 (by omega) (by omega) hn
  rw [de_set_put n0]
  have f1 := cput1_fr (sI t 38 0 (i3 (qV A + 1 : Nat))) 43 n
  have n1 : cN (cput1 (sI t 38 0 (i3 (qV A + 1 : Nat))) 43 n) a n := cN_put (by omega) n0
  have d1 : cD (cput1 (sI t 38 0 (i3 (qV A + 1 : Nat))) 43 n) 2 (qD A) := cD_fr f1 (fun b j _ _ => by omega) (cD_fr f0 (fun b j _ _ => by omega) hd hv.2.2.2.1) hv.2.2.2.1
  obtain ⟨y1, y2⟩ := cfill (a := a) (by omega) (by omega) n1 vn hv d1
  have f01 : fr (fun b j => (b = 38 ∧ j = 0) ∨ b = 43) t (cput1 (sI t 38 0 (i3 (qV A + 1 : Nat))) 43 n) := fr_trans (fr_mono f0 (fun b j q => Or.inl q)) (fr_mono f1 (fun b j q => Or.inr q))
  have c43 : cN (dk_fill (cput1 (sI t 38 0 (i3 (qV A + 1 : Nat))) 43 n) a) 43 n := cN_fr y1 (by unfold Pc; omega) (by unfold Pc; omega) (cput1_cN ..)
  have v38 : gI (dk_fill (cput1 (sI t 38 0 (i3 (qV A + 1 : Nat))) 43 n) a) 38 0 = i3 (qV A + 1 : Nat) := by rw [(y1.1 _ _ (by unfold Pc; omega)).1, (f1.1 _ _ (by omega)).1, gI_sI, if_pos ⟨rfl, rfl⟩]
  have fu : fr (fun b j => Pc b j ∨ (b = 38 ∧ j = 0) ∨ b = 43) t (dk_fill (cput1 (sI t 38 0 (i3 (qV A + 1 : Nat))) 43 n) a) := fr_trans (fr_mono f01 (fun b j q => Or.inr q)) (fr_mono y1 (fun b j q => Or.inl q))
  generalize dk_fill (cput1 (sI t 38 0 (i3 (qV A + 1 : Nat))) 43 n) a = u at *
  have e38 : gI u 38 1 = i3 (aLab (qC A) (qLb A) + 1) := (fu.1 _ _ (by unfold Pc; omega)).1.trans hst
  rw [e38, pr_begin_eq]
  unfold pr_begin_d
  have fb : fr (fun b j => b = 35) u (sI (sI u 35 1 (i3 (aLab (qC A) (qLb A) + 1))) 35 2 0) := fr_sI (fr_sI (fr_refl ..) rfl) rfl
  have ft : fr (fun b j => Pc b j ∨ (b = 38 ∧ j = 0) ∨ b = 43 ∨ b = 35) t (sI (sI u 35 1 (i3 (aLab (qC A) (qLb A) + 1))) 35 2 0) := fr_trans (fr_mono fu (fun b j q => by rcases q with q | q | q; exact Or.inl q; exact Or.inr (Or.inl q); exact Or.inr (Or.inr (Or.inl q)))) (fr_mono fb (fun b j q => Or.inr (Or.inr (Or.inr q))))
  have fs : fr Psv s (sI (sI u 35 1 (i3 (aLab (qC A) (qLb A) + 1))) 35 2 0) := fr_trans f (fr_mono ft (fun b j q => by unfold Psv; rcases q with q | q | q | q; exact Or.inl q; omega; omega; omega))
  have e24 : te_endValue_24 (sI (sI u 35 1 (i3 (aLab (qC A) (qLb A) + 1))) 35 2 0) 0 = sI (sI u 35 1 (i3 (aLab (qC A) (qLb A) + 1))) 35 2 0 := by
    rw [te_endValue_24_eq]; unfold te_endValue_24_d; rw [if_neg (fun q => q rfl)]
  refine ⟨rfl, ?_, ?_⟩
  · unfold te_endValue_24_ok; exact fun q => absurd rfl q
  · dsimp only
    rw [e24]
    have vf := aFil_v hv vn
    refine ⟨Psv_cl fs, ⟨cD_fr fb (fun b j _ _ => by omega) y2 vf.2.2.2.1, (fs.1 _ _ (by unfold Psv Pc; omega)).1.trans q1.2.1, cN_fr fs (by unfold Psv Pc; omega) (by unfold Psv Pc; omega) q1.2.2.1, cN_fr fs (by unfold Psv Pc; omega) (by unfold Psv Pc; omega) q1.2.2.2⟩, (fs.1 _ _ (by unfold Psv Pc; omega)).1.trans q2, (fs.1 _ _ (by unfold Psv Pc; omega)).1.trans q3, ⟨nx, CVh_fr fs (fun b j w => by unfold Psv Pc; omega) hA.2.1 q4⟩, CVp_fr fs (fun j => by unfold Psv Pc; omega) q5, fun _ => ⟨by rw [gI_sI, if_neg (by omega), gI_sI, if_pos ⟨rfl, rfl⟩]; rfl, by rw [gI_sI, if_pos ⟨rfl, rfl⟩]; rfl, fun i hi => absurd hi (Nat.not_lt_zero i)⟩, ⟨?_, fun _ => ⟨?_, ?_, ?_, ?_, fun _ => ?_, fun q => ?_⟩⟩, CVl_fr fs (fun j w => by unfold Psv Pc; omega) q8, CVt_fr fs (by unfold Psv Pc; omega) (fun j => by unfold Psv Pc; omega) q9, CVo_fr fs (by unfold Psv Pc; omega) (fun j => by unfold Psv Pc; omega) q10⟩
    · show gI _ 38 0 = i3 (qV A + 1 : Nat)
      rw [(fb.1 _ _ (by omega)).1]; exact v38
    · exact (fb.1 _ _ (by omega)).1.trans e38
    · exact cN_fr ft (by unfold Pc; omega) (by unfold Pc; omega) w0
    · exact cN_fr ft (by unfold Pc; omega) (by unfold Pc; omega) w1
    · have hc2 : aCur (aTk A n w) = n := by
        show (if qV A + 1 = 1 then w 0 else if qV A + 1 = 2 then w 1 else w 2) = n
        rw [if_neg (by omega), hcur]
        by_cases g : qV A = 1
        · rw [if_pos (by omega), if_pos g]
        · rw [if_neg (by omega), if_neg g]
      rw [hc2]
      exact cN_fr fb (by omega) (by omega) c43
    · exact cN_fr ft (by unfold Pc; omega) (by unfold Pc; omega) w3
    · have q' : 3 ≤ qV A + 1 := q
      exact cN_fr ft (by unfold Pc; omega) (by unfold Pc; omega) (w4 (by omega))
/-- an end is laid on the stack -/
theorem cfnd {t : xS} {D : aD} {a b : Nat} {e v wa wb : Int × Int} (ha : 39 ≤ a ∧ a ≤ 43) (hb : 41 ≤ b ∧ b ≤ 44) (hv : vD D) (hd : cD t 2 D) (he : cN t a e) (ve : vN e) (hvv : cN t b v) (vv : vN v) (h39 : cN t 39 wa) (va : vN wa) (h40 : cN t 40 wb) : (so_find t a b).1 = -1 ∧ fr Pc t (so_find t a b).2 ∧ cD (so_find t a b).2 2 (aFnd e v wa wb D) := by
  rw [so_find_eq]
  unfold so_find_d
  obtain ⟨y1, y2⟩ := cfill (a := a) (by omega) (by omega) he ve hv hd
  have v1 := aFil_v hv ve
  have tr : ∀ {x : Nat} {p : Int × Int}, 39 ≤ x → x ≤ 44 → cN t x p → cN (dk_fill t a) x p := fun h1 h2 hp => cN_fr y1 (by unfold Pc; omega) (by unfold Pc; omega) hp
  have hb1 := tr (by omega) (by omega) hvv
  have h391 := tr (by omega) (by omega) h39
  have h401 := tr (by omega) (by omega) h40
  generalize dk_fill t a = u at *
  obtain ⟨z1, z2⟩ := cfrom (show 11 < 15 by omega) hb1 y2 v1
  have v2 := vD_sN (i := 11) v1 vv
  have z1' : fr Pc u (de_set u 19 b) := z1
  have z2' : cD (de_set u 19 b) 2 (sN (aFil e D) 11 v) := z2
  have h392 : cN (de_set u 19 b) 39 wa := cN_fr z1' (by unfold Pc; omega) (by unfold Pc; omega) h391
  have h402 : cN (de_set u 19 b) 40 wb := cN_fr z1' (by unfold Pc; omega) (by unfold Pc; omega) h401
  generalize de_set u 19 b = x at *
  obtain ⟨w1, w2⟩ := cfrom (show 12 < 15 by omega) h392 z2' v2
  have v3 := vD_sN (i := 12) v2 va
  have w1' : fr Pc x (de_set x 20 39) := w1
  have w2' : cD (de_set x 20 39) 2 (sN (sN (aFil e D) 11 v) 12 wa) := w2
  have h403 : cN (de_set x 20 39) 40 wb := cN_fr w1' (by unfold Pc; omega) (by unfold Pc; omega) h402
  generalize de_set x 20 39 = y at *
  obtain ⟨m1, m2⟩ := cfrom (show 13 < 15 by omega) h403 w2' v3
  exact ⟨rfl, fr_trans (fr_trans (fr_trans y1 z1') w1') m1, m2⟩
theorem csame {s : xS} {a b : Nat} {n m : Int × Int} (hn : cN s a n) (hm : cN s b m) (vn : vN n) (vm : vN m) : de_isSame s a b = decide (n = m) := by
  unfold de_isSame
  have b1 := vN_b vn
  have b2 := vN_b vm
  have c1 : (gJ s a 0 = gJ s b 0) = (n.1 = m.1) := by rw [hn.1, hm.1, j6_eq (by omega)]
  have c2 : (gI s a 1 = gI s b 1) = (n.2 = m.2) := by rw [hn.2, hm.2, i3_eq (by omega)]
  simp only [c1, c2]
  rw [← Bool.decide_and]
  apply decide_eq_decide.mpr
  constructor
  · rintro ⟨h1, h2⟩; exact Prod.ext h1 h2
  · intro h; rw [h]; exact ⟨rfl, rfl⟩
theorem csmall {s : xS} {a b : Nat} {n m : Int × Int} (hn : cN s a n) (hm : cN s b m) (vn : vN n) (vm : vN m) : de_isSmallerInSize s a b = aSm n m := by
  unfold de_isSmallerInSize aSm
  have b1 := vN_b vn
  have b2 := vN_b vm
  have c2 : (gI s a 1 = gI s b 1) = (n.2 = m.2) := by rw [hn.2, hm.2, i3_eq (by omega)]
  have c3 : (gI s b 1 ≤ gI s a 1) = (m.2 ≤ n.2) := by rw [hn.2, hm.2, i3_le (by omega)]
  have c4 : (labs (gJ s b 0) ≤ labs (gJ s a 0)) = (m.1.natAbs ≤ n.1.natAbs) := by rw [hn.1, hm.1, labs_j6 (by omega), labs_j6 (by omega)]; exact j6_leN (by omega) (by omega)
  simp only [c2, c3, c4]
  split
  · by_cases g : m.1.natAbs ≤ n.1.natAbs
    · rw [decide_eq_true g, decide_eq_false (by omega)]; rfl
    · rw [decide_eq_false g, decide_eq_true (by omega)]; rfl
  · by_cases g : m.2 ≤ n.2
    · rw [decide_eq_true g, decide_eq_false (by omega)]; rfl
    · rw [decide_eq_false g, decide_eq_true (by omega)]; rfl
theorem chalve {s t : xS} {A : aA} {w : Nat → Int × Int} (hA : VA A) (hr : qR A = 2) (hV2 : 2 ≤ qV A) (h : CV s A) (f : fr Psv s t) (hd : cD t 2 (qD A)) (hV0 : gI t 38 0 = i3 (qV A)) (hst : gI t 38 1 = i3 (aLab (qC A) (qLb A) + 1)) (h46 : cN t 46 aTwo) (w0 : cN t 39 (w 0)) (w1 : cN t 40 (w 1)) (w3 : cN t 41 (w 3)) (w4 : cN t 42 (w 4)) (v0 : vN (w 0)) (v1 : vN (w 1)) (v3 : vN (w 3)) (v4 : vN (w 4)) : so_halve_ok t ∧ te_endValue_24_ok (so_halve t).2 (so_halve t).1 ∧ fr Pcl s (te_endValue_24 (so_halve t).2 (so_halve t).1) ∧ CV (te_endValue_24 (so_halve t).2 (so_halve t).1) (aHlv A w) := by
  have hv := hA.1.1
  have hV := hA.2.2.2.2.1.1
  have s1 := aSum_v (w 1) (neg2 (w 0))
  have s2 := aDiv_v (aSum (w 1) (neg2 (w 0))).2 aTwo
  have s3 := aSum_v (w 0) (aDiv (aSum (w 1) (neg2 (w 0))).2 aTwo).2
  rw [so_halve_eq]
  unfold so_halve_ok so_halve_d
  rw [so_halve_50_eq]
  unfold so_halve_50_ok so_halve_50_d
  rw [so_halve_75_eq]
  unfold so_halve_75_d
  rw [so_halve_125_eq]
  unfold so_halve_125_d
  -- facts that the arithmetic keeps
  have keep : ∀ {x y : xS} {q : Int × (Int × Int)}, fr P31 x y → (fr (fun b _ => b = 31 ∨ b = 45) t x) → fr (fun b _ => b = 31 ∨ b = 45) t (cres y 45 q).2 := by
    intro x y q hxy hx
    unfold cres
    dsimp only
    split
    · exact fr_trans (fr_trans hx (fr_mono hxy (fun b j q => Or.inl q))) (fr_mono (cput1_fr _ _ _) (fun b j q => Or.inr q))
    · exact fr_trans hx (fr_mono hxy (fun b j q => Or.inl q))
  have facts : ∀ {x : xS}, fr (fun b _ => b = 31 ∨ b = 45) t x → fr Psv s x ∧ cD x 2 (qD A) ∧ gI x 38 0 = i3 (qV A) ∧ gI x 38 1 = i3 (aLab (qC A) (qLb A) + 1) ∧ cN x 46 aTwo ∧ cN x 39 (w 0) ∧ cN x 40 (w 1) ∧ cN x 41 (w 3) ∧ cN x 42 (w 4) := by
    intro x hx
    exact ⟨fr_trans f (fr_mono hx (fun b j q => by unfold Psv Pc; omega)), cD_fr hx (fun b j _ _ => by omega) hd hv.2.2.2.1, (hx.1 _ _ (by omega)).1.trans hV0, (hx.1 _ _ (by omega)).1.trans hst, cN_fr hx (by omega) (by omega) h46, cN_fr hx (by omega) (by omega) w0, cN_fr hx (by omega) (by omega) w1, cN_fr hx (by omega) (by omega) w3, cN_fr hx (by omega) (by omega) w4⟩
  have fail : ∀ {x : xS} {c : Int}, fr (fun b _ => b = 31 ∨ b = 45) t x → (1 ≤ c ∧ c ≤ 9) → te_endValue_24_ok x (i3 c) ∧ fr Pcl s (te_endValue_24 x (i3 c)) ∧ CV (te_endValue_24 x (i3 c)) (aFl A c) := by
    intro x c hx hc
    obtain ⟨y1, y2, y3, y4⟩ := facts hx
    exact cfl hA hr hc h y1 y3
  have e45 : i3 45 = 45 := rfl
  have e47 : i3 47 = 47 := rfl
  have e43 : i3 43 = 43 := rfl
  obtain ⟨o1, x1, o2, o3⟩ := ccombine t (k := 45) 40 39 45 (by omega) (by omega) (by omega) w1 w0 v1 v0
  rw [e45] at o1 o3
  have hop1 : aOp 45 (w 1) (w 0) = aSum (w 1) (neg2 (w 0)) := by unfold aOp; rw [if_neg (by decide), if_pos rfl]
  rw [hop1] at o3
  have fx1 := keep (q := aSum (w 1) (neg2 (w 0))) o2 (fr_refl ..)
  rw [o3]
  have z1 : ((cres x1 45 (aSum (w 1) (neg2 (w 0)))).1 = 0) = ((aSum (w 1) (neg2 (w 0))).1 = 0) := by show (i3 _ = 0) = _; rw [i3_lit, i3_eq (by omega)]
  simp only [z1]
  unfold aHlv
  by_cases g1 : (aSum (w 1) (neg2 (w 0))).1 = 0
  · rw [if_neg (show ¬ ¬ _ from fun q => q g1), if_pos g1]
    have m1 : cN (cres x1 45 (aSum (w 1) (neg2 (w 0)))).2 45 (aSum (w 1) (neg2 (w 0))).2 := by unfold cres; dsimp only; rw [if_pos g1]; exact cput1_cN ..
    generalize (cres x1 45 (aSum (w 1) (neg2 (w 0)))).2 = y1 at *
    obtain ⟨a1, a2, a3, a4, a5, a6, a7, a8, a9⟩ := facts fx1
    obtain ⟨p1, x2, p2, p3⟩ := ccombine y1 (k := 47) 45 46 45 (by omega) (by omega) (by omega) m1 a5 s1.1 vN_2
    rw [e47] at p1 p3
    have hop2 : aOp 47 (aSum (w 1) (neg2 (w 0))).2 aTwo = aDiv (aSum (w 1) (neg2 (w 0))).2 aTwo := by unfold aOp; rw [if_neg (by decide), if_neg (by decide), if_neg (by decide)]
    rw [hop2] at p3
    have fx2 := keep (q := aDiv (aSum (w 1) (neg2 (w 0))).2 aTwo) p2 fx1
    rw [p3]
    have z2 : ((cres x2 45 (aDiv (aSum (w 1) (neg2 (w 0))).2 aTwo)).1 = 0) = ((aDiv (aSum (w 1) (neg2 (w 0))).2 aTwo).1 = 0) := by show (i3 _ = 0) = _; rw [i3_lit, i3_eq (by omega)]
    simp only [z2]
    by_cases g2 : (aDiv (aSum (w 1) (neg2 (w 0))).2 aTwo).1 = 0
    · rw [if_neg (show ¬ ¬ _ from fun q => q g2), if_pos g2]
      have m2 : cN (cres x2 45 (aDiv (aSum (w 1) (neg2 (w 0))).2 aTwo)).2 45 (aDiv (aSum (w 1) (neg2 (w 0))).2 aTwo).2 := by unfold cres; dsimp only; rw [if_pos g2]; exact cput1_cN ..
      generalize (cres x2 45 (aDiv (aSum (w 1) (neg2 (w 0))).2 aTwo)).2 = y2 at *
      obtain ⟨b1, b2, b3, b4, b5, b6, b7, b8, b9⟩ := facts fx2
      obtain ⟨r1, x3, r2, r3⟩ := ccombine y2 (k := 43) 39 45 45 (by omega) (by omega) (by omega) b6 m2 v0 s2.1
      rw [e43] at r1 r3
      have hop3 : aOp 43 (w 0) (aDiv (aSum (w 1) (neg2 (w 0))).2 aTwo).2 = aSum (w 0) (aDiv (aSum (w 1) (neg2 (w 0))).2 aTwo).2 := by unfold aOp; rw [if_pos rfl]
      rw [hop3] at r3
      have fx3 := keep (q := aSum (w 0) (aDiv (aSum (w 1) (neg2 (w 0))).2 aTwo).2) r2 fx2
      rw [r3]
      generalize hm : aSum (w 0) (aDiv (aSum (w 1) (neg2 (w 0))).2 aTwo).2 = Q at *
      have z3 : ((cres x3 45 Q).1 = 0) = (Q.1 = 0) := by show (i3 _ = 0) = _; rw [i3_lit, i3_eq (by omega)]
      simp only [z3]
      refine ⟨⟨o1, fun q => absurd g1 q, fun _ => ⟨p1, fun _ => r1⟩⟩, ?_⟩
      by_cases g3 : Q.1 = 0
      · rw [if_pos g3, if_pos g3]
        have m3 : cN (cres x3 45 Q).2 45 Q.2 := by unfold cres; dsimp only; rw [if_pos g3]; exact cput1_cN ..
        generalize (cres x3 45 Q).2 = y3 at *
        obtain ⟨d1, d2, d3, d4, d5, d6, d7, d8, d9⟩ := facts fx3
        rw [csame m3 d6 s3.1 v0, csame m3 d7 s3.1 v1, csmall d9 d8 v4 v3]
        have found : te_endValue_24_ok (if aSm (w 4) (w 3) = false then so_find y3 39 41 else so_find y3 40 42).2 (if aSm (w 4) (w 3) = false then so_find y3 39 41 else so_find y3 40 42).1 ∧ fr Pcl s (te_endValue_24 (if aSm (w 4) (w 3) = false then so_find y3 39 41 else so_find y3 40 42).2 (if aSm (w 4) (w 3) = false then so_find y3 39 41 else so_find y3 40 42).1) ∧ CV (te_endValue_24 (if aSm (w 4) (w 3) = false then so_find y3 39 41 else so_find y3 40 42).2 (if aSm (w 4) (w 3) = false then so_find y3 39 41 else so_find y3 40 42).1) (if aSm (w 4) (w 3) = true then aFin1 A (aFnd (w 1) (w 4) (w 0) (w 1) (qD A)) else aFin1 A (aFnd (w 0) (w 3) (w 0) (w 1) (qD A))) := by
          cases gs : aSm (w 4) (w 3)
          · rw [if_pos (show false = false from rfl), if_neg (show ¬ false = true by decide)]
            obtain ⟨u1, u2, u3⟩ := cfnd (a := 39) (b := 41) (by omega) (by omega) hv d2 d6 v0 d8 v3 d6 v0 d7
            rw [u1]
            exact cfin hA hr h (fr_trans d1 (Pc_sv u2)) u3 (aFnd_v hv v0 v3 v0 v1) ((u2.1 _ _ (by unfold Pc; omega)).1.trans d3)
          · rw [if_neg (show ¬ true = false by decide), if_pos (show true = true from rfl)]
            obtain ⟨u1, u2, u3⟩ := cfnd (a := 40) (b := 42) (by omega) (by omega) hv d2 d7 v1 d9 v4 d6 v0 d7
            rw [u1]
            exact cfin hA hr h (fr_trans d1 (Pc_sv u2)) u3 (aFnd_v hv v1 v4 v0 v1) ((u2.1 _ _ (by unfold Pc; omega)).1.trans d3)
        by_cases g4 : Q.2 = w 0
        · rw [decide_eq_true g4, if_pos (show true = true from rfl), if_pos (Or.inl g4)]
          exact found
        · rw [decide_eq_false g4, if_neg (show ¬ false = true by decide)]
          by_cases g5 : Q.2 = w 1
          · rw [decide_eq_true g5, if_pos (show true = true from rfl), if_pos (Or.inr g5)]
            exact found
          · rw [decide_eq_false g5, if_neg (show ¬ false = true by decide), if_neg (show ¬ (Q.2 = w 0 ∨ Q.2 = w 1) from fun q => by rcases q with q | q; exact g4 q; exact g5 q)]
            by_cases g6 : qV A = 100
            · rw [if_pos g6]
              have : so_takeValueOf y3 45 = (9, y3) := by
                rw [so_takeValueOf_eq]; unfold so_takeValueOf_d
                rw [if_neg (by rw [d3, i3_lit, i3_lt (by omega)]; omega)]
              rw [this]
              exact fail (c := 9) fx3 (by omega)
            · rw [if_neg g6]
              obtain ⟨u1, u2, u3, u4⟩ := ctk (a := 45) (n := Q.2) (w := updA w 2 Q.2) hA hr (by omega) h d1 d2 d3 d4 (Or.inr (Or.inr rfl)) m3 s3.1 d6 d7 d8 (fun _ => d9) (by rw [if_neg (show ¬ qV A = 1 by omega)]; rfl)
              rw [u1]
              exact ⟨u2, u3, u4⟩
      · rw [if_neg g3, if_neg g3]
        exact fail (c := Q.1) fx3 (by omega)
    · rw [if_pos (show ¬ _ from g2), if_neg g2]
      have n0 : ¬ (cres x2 45 (aDiv (aSum (w 1) (neg2 (w 0))).2 aTwo)).1 = 0 := by rw [z2]; exact g2
      rw [if_neg g2]
      exact ⟨⟨o1, fun q => absurd g1 q, fun _ => ⟨p1, fun q => absurd q g2⟩⟩, fail (c := (aDiv (aSum (w 1) (neg2 (w 0))).2 aTwo).1) fx2 (by omega)⟩
  · rw [if_pos (show ¬ _ from g1), if_neg g1]
    simp only [g1, not_false_eq_true, if_true, if_false]
    exact ⟨⟨o1, fun _ q => q.elim, fun q => q.elim⟩, fail (c := (aSum (w 1) (neg2 (w 0))).1) fx1 (by omega)⟩
