/-! VALUES USED, AND RUNS, at the class -/
theorem cval {s : xS} {A : aA} (hA : VA A) (hr : qR A = 2) (h : CV s A) : so_useValue_ok s ∧ te_endValue_24_ok (so_useValue s).2 (so_useValue s).1 ∧ fr Pcl s (te_endValue_24 (so_useValue s).2 (so_useValue s).1) ∧ CV (te_endValue_24 (so_useValue s).2 (so_useValue s).1) (aVal A) := by
  have hv := hA.1.1
  have hx := cget h.1.1 (show 10 < 15 by omega)
  have vx := hv.1 10 (by omega)
  have bx := vN_b vx
  have hV := hA.2.2.2.2.1.1
  obtain ⟨k1, k2, k3, k4, k5, k6, k7, k8, k9⟩ := hA.2.2.2.2.1.2 hr
  obtain ⟨c1, c2⟩ := h.2.2.2.2.2.2.1
  obtain ⟨y1, y2, y3, y4, y5, y6⟩ := c2 hr
  have h46 := h.1.2.2.2
  have hcur : vN (aCur A) := by
    unfold aCur
    split
    · exact k5
    · split
      · exact k6
      · exact k7 (by omega)
  rw [so_useValue_eq]
  unfold so_useValue_ok so_useValue_d
  have e44 : de_set s 44 18 = cput1 s 44 (dN (qD A) 10) := de_set_put hx
  rw [e44]
  have f1 := cput1_fr s 44 (dN (qD A) 10)
  have fs1 : fr (fun b _ => 38 ≤ b ∧ b ≤ 45) s (cput1 s 44 (dN (qD A) 10)) := fr_mono f1 (fun b j q => by omega)
  have n44 : cN (cput1 s 44 (dN (qD A) 10)) 44 (dN (qD A) 10) := cput1_cN ..
  have g1 : ∀ {a p}, a ≠ 44 → cN s a p → cN (cput1 s 44 (dN (qD A) 10)) a p := fun ha hp => cN_put ha hp
  have t38 : gI (cput1 s 44 (dN (qD A) 10)) 38 0 = i3 (qV A) := (f1.1 _ _ (by omega)).1.trans c1
  have t381 : gI (cput1 s 44 (dN (qD A) 10)) 38 1 = i3 (aLab (qC A) (qLb A) + 1) := (f1.1 _ _ (by omega)).1.trans y1
  have n39 := g1 (by omega) y2
  have n40 := g1 (by omega) y3
  have n43 := g1 (by omega) y4
  have n41 : 2 ≤ qV A → cN (cput1 s 44 (dN (qD A) 10)) 41 (qW A 3) := fun w => g1 (by omega) (y5 w)
  have n42 : 3 ≤ qV A → cN (cput1 s 44 (dN (qD A) 10)) 42 (qW A 4) := fun w => g1 (by omega) (y6 w)
  have n46 := g1 (by omega) h46
  generalize cput1 s 44 (dN (qD A) 10) = t at *
  have z1 : (gJ t 44 0 = 0) = ((dN (qD A) 10).1 = 0) := by rw [n44.1, j6_lit, j6_eq (by omega)]
  have z2 : (gI t 38 0 = 1) = (qV A = 1) := by rw [t38, i3_lit, i3_eq (by omega)]; apply propext; omega
  have z3 : (gI t 38 0 = 2) = (qV A = 2) := by rw [t38, i3_lit, i3_eq (by omega)]; apply propext; omega
  simp only [z1, z2, z3]
  -- states that differ from s in the solver alone
  have upto : ∀ {x : xS}, fr (fun b _ => 38 ≤ b ∧ b ≤ 45) s x → fr Psv s x ∧ cD x 2 (qD A) := fun hx => ⟨fr_mono hx (fun b j q => by unfold Psv; omega), cD_fr hx (fun b j _ _ => by omega) h.1.1 hv.2.2.2.1⟩
  have putf : ∀ {x : xS} {a : Nat} {p : Int × Int}, 38 ≤ a → a ≤ 45 → fr (fun b _ => 38 ≤ b ∧ b ≤ 45) s x → fr (fun b _ => 38 ≤ b ∧ b ≤ 45) s (cput1 x a p) := fun h1 h2 hx => fr_trans hx (fr_mono (cput1_fr _ _ _) (fun b j q => by omega))
  unfold aVal
  by_cases gx : (dN (qD A) 10).1 = 0
  · rw [if_neg (show ¬ ¬ _ from fun q => q gx), if_pos gx]
    have e39 : de_set t 39 43 = cput1 t 39 (aCur A) := de_set_put n43
    rw [e39]
    have m43 : cN (cput1 t 39 (aCur A)) 43 (aCur A) := cN_put (by omega) n43
    have e40 : de_set (cput1 t 39 (aCur A)) 40 43 = cput1 (cput1 t 39 (aCur A)) 40 (aCur A) := de_set_put m43
    rw [e40]
    have fr2 := putf (a := 40) (p := aCur A) (by omega) (by omega) (putf (a := 39) (p := aCur A) (by omega) (by omega) fs1)
    obtain ⟨u1, u2⟩ := upto fr2
    obtain ⟨w1, w2, w3⟩ := cfnd (a := 43) (b := 44) (t := cput1 (cput1 t 39 (aCur A)) 40 (aCur A)) (by omega) (by omega) hv u2 (cN_put (by omega) m43) hcur (cN_put (by omega) (cN_put (by omega) n44)) vx (cN_put (by omega) (cput1_cN ..)) hcur (cput1_cN ..)
    rw [w1]
    have hV0 : gI (so_find (cput1 (cput1 t 39 (aCur A)) 40 (aCur A)) 43 44).2 38 0 = i3 (qV A) := by
      rw [(w2.1 _ _ (by unfold Pc; omega)).1, ((cput1_fr (cput1 t 39 (aCur A)) 40 (aCur A)).1 _ _ (by omega)).1, ((cput1_fr t 39 (aCur A)).1 _ _ (by omega)).1]; exact t38
    exact ⟨fun q => absurd gx q, cfin hA hr h (fr_trans u1 (Pc_sv w2)) w3 (aFnd_v hv hcur vx hcur hcur) hV0⟩
  · rw [if_pos (show ¬ _ from gx), if_neg gx]
    by_cases gv1 : qV A = 1
    · rw [if_neg (show ¬ ¬ _ from fun q => q gv1), if_pos gv1]
      have e41 : de_set t 41 44 = cput1 t 41 (dN (qD A) 10) := de_set_put n44
      rw [e41]
      have fr2 := putf (a := 41) (p := dN (qD A) 10) (by omega) (by omega) fs1
      obtain ⟨u1, u2⟩ := upto fr2
      have f2 := cput1_fr t 41 (dN (qD A) 10)
      obtain ⟨w1, w2, w3, w4⟩ := ctk (a := 40) (n := qW A 1) (w := updA (qW A) 3 (dN (qD A) 10)) hA hr (by omega) h u1 u2 ((f2.1 _ _ (by omega)).1.trans t38) ((f2.1 _ _ (by omega)).1.trans t381) (Or.inr (Or.inl rfl)) (cN_put (by omega) n40) k6 (cN_put (by omega) n39) (cN_put (by omega) n40) (cput1_cN ..) (fun q => by omega) (by rw [if_pos gv1]; rfl)
      rw [w1]
      exact ⟨fun _ q => absurd gv1 q, w2, w3, w4⟩
    · rw [if_pos (show ¬ _ from gv1), if_neg gv1]
      obtain ⟨v3, nz3⟩ := k8 (by omega)
      have m41 := n41 (by omega)
      rw [below t n44 vx, below t m41 v3]
      have zz : (zb (decide ((dN (qD A) 10).1 < 0)) = zb (decide ((qW A 3).1 < 0))) = (decide ((dN (qD A) 10).1 < 0) = decide ((qW A 3).1 < 0)) := zb_inj
      simp only [zz]
      -- the two ways to halve
      have hl : ∀ {x4 : Int32}, ((x4 = 0 ∧ (qV A = 2 ∨ 3 ≤ qV A) ∧ decide ((dN (qD A) 10).1 < 0) ≠ decide ((qW A 3).1 < 0)) ∨ (¬ x4 = 0 ∧ 3 ≤ qV A)) → so_useValue_134_ok t x4 ∧ te_endValue_24_ok (so_useValue_134 t x4).2 (so_useValue_134 t x4).1 ∧ fr Pcl s (te_endValue_24 (so_useValue_134 t x4).2 (so_useValue_134 t x4).1) ∧ CV (te_endValue_24 (so_useValue_134 t x4).2 (so_useValue_134 t x4).1) (if x4 = 0 then (if qV A = 2 then aHlv A (updA (qW A) 4 (dN (qD A) 10)) else aHlv A (updA (updA (qW A) 1 (qW A 2)) 4 (dN (qD A) 10))) else aHlv A (updA (updA (qW A) 0 (qW A 2)) 3 (dN (qD A) 10))) := by
        intro x4 hx4
        rw [so_useValue_134_eq]
        unfold so_useValue_134_ok so_useValue_134_d
        rw [so_useValue_186_eq]
        unfold so_useValue_186_ok so_useValue_186_d
        by_cases g0 : x4 = 0
        · have hq : qV A = 2 ∨ 3 ≤ qV A := by rcases hx4 with w | w; exact w.2.1; exact absurd g0 w.1
          simp only [g0, if_true, not_true_eq_false, false_implies, true_implies, and_true]
          have e40 : de_set t 40 43 = cput1 t 40 (aCur A) := de_set_put n43
          rw [e40]
          have m44 : cN (cput1 t 40 (aCur A)) 44 (dN (qD A) 10) := cN_put (by omega) n44
          have e42 : de_set (cput1 t 40 (aCur A)) 42 44 = cput1 (cput1 t 40 (aCur A)) 42 (dN (qD A) 10) := de_set_put m44
          rw [e42]
          have fr2 := putf (a := 42) (p := dN (qD A) 10) (by omega) (by omega) (putf (a := 40) (p := aCur A) (by omega) (by omega) fs1)
          obtain ⟨u1, u2⟩ := upto fr2
          have f2 := cput1_fr t 40 (aCur A)
          have f3 := cput1_fr (cput1 t 40 (aCur A)) 42 (dN (qD A) 10)
          have hV0 : gI (cput1 (cput1 t 40 (aCur A)) 42 (dN (qD A) 10)) 38 0 = i3 (qV A) := ((f3.1 _ _ (by omega)).1.trans (f2.1 _ _ (by omega)).1).trans t38
          have hst : gI (cput1 (cput1 t 40 (aCur A)) 42 (dN (qD A) 10)) 38 1 = i3 (aLab (qC A) (qLb A) + 1) := ((f3.1 _ _ (by omega)).1.trans (f2.1 _ _ (by omega)).1).trans t381
          by_cases gv2 : qV A = 2
          · rw [if_pos gv2]
            have hc1 : aCur A = qW A 1 := by unfold aCur; rw [if_neg gv1, if_pos gv2]
            rw [hc1] at u1 u2 hV0 hst ⊢
            exact chalve (w := updA (qW A) 4 (dN (qD A) 10)) hA hr (by omega) h u1 u2 hV0 hst (cN_put (by omega) (cN_put (by omega) n46)) (cN_put (by omega) (cN_put (by omega) n39)) (cN_put (by omega) (cput1_cN ..)) (cN_put (by omega) (cN_put (by omega) m41)) (cput1_cN ..) k5 k6 v3 vx
          · rw [if_neg gv2]
            have hc1 : aCur A = qW A 2 := by unfold aCur; rw [if_neg gv1, if_neg gv2]
            rw [hc1] at u1 u2 hV0 hst ⊢
            exact chalve (w := updA (updA (qW A) 1 (qW A 2)) 4 (dN (qD A) 10)) hA hr (by omega) h u1 u2 hV0 hst (cN_put (by omega) (cN_put (by omega) n46)) (cN_put (by omega) (cN_put (by omega) n39)) (cN_put (by omega) (cput1_cN ..)) (cN_put (by omega) (cN_put (by omega) m41)) (cput1_cN ..) k5 (k7 (by omega)) v3 vx
        · have hq : 3 ≤ qV A := by rcases hx4 with w | w; exact absurd w.1 g0; exact w.2
          simp only [g0, if_false, not_false_eq_true, false_implies, true_implies, true_and]
          have hc1 : aCur A = qW A 2 := by unfold aCur; rw [if_neg gv1, if_neg (by omega)]
          have e39 : de_set t 39 43 = cput1 t 39 (aCur A) := de_set_put n43
          rw [e39]
          have m44 : cN (cput1 t 39 (aCur A)) 44 (dN (qD A) 10) := cN_put (by omega) n44
          have e41 : de_set (cput1 t 39 (aCur A)) 41 44 = cput1 (cput1 t 39 (aCur A)) 41 (dN (qD A) 10) := de_set_put m44
          rw [e41]
          have fr2 := putf (a := 41) (p := dN (qD A) 10) (by omega) (by omega) (putf (a := 39) (p := aCur A) (by omega) (by omega) fs1)
          obtain ⟨u1, u2⟩ := upto fr2
          have f2 := cput1_fr t 39 (aCur A)
          have f3 := cput1_fr (cput1 t 39 (aCur A)) 41 (dN (qD A) 10)
          have hV0 : gI (cput1 (cput1 t 39 (aCur A)) 41 (dN (qD A) 10)) 38 0 = i3 (qV A) := ((f3.1 _ _ (by omega)).1.trans (f2.1 _ _ (by omega)).1).trans t38
          have hst : gI (cput1 (cput1 t 39 (aCur A)) 41 (dN (qD A) 10)) 38 1 = i3 (aLab (qC A) (qLb A) + 1) := ((f3.1 _ _ (by omega)).1.trans (f2.1 _ _ (by omega)).1).trans t381
          obtain ⟨v4, nz4⟩ := k9 hq
          rw [hc1] at *
          exact chalve (w := updA (updA (qW A) 0 (qW A 2)) 3 (dN (qD A) 10)) hA hr (by omega) h u1 u2 hV0 hst (cN_put (by omega) (cN_put (by omega) n46)) (cN_put (by omega) (cput1_cN ..)) (cN_put (by omega) (cN_put (by omega) n40)) (cput1_cN ..) (cN_put (by omega) (cN_put (by omega) (n42 hq))) (k7 hq) k6 vx v4
      by_cases gl : decide ((dN (qD A) 10).1 < 0) = decide ((qW A 3).1 < 0)
      · rw [decide_eq_true gl]
        by_cases gv2 : qV A = 2
        · rw [if_neg (show ¬ ¬ _ from fun q => q gv2), if_neg (show ¬ true = false by decide), if_pos gv2, if_pos gl]
          obtain ⟨u1, u2⟩ := upto fs1
          exact ⟨fun _ _ => ⟨fun q => absurd gv2 q, fun _ q => (by cases q)⟩, cfl (c := 9) hA hr (by omega) h u1 t38⟩
        · rw [if_pos (show ¬ _ from gv2), if_neg gv2, if_pos gl]
          have nz : ¬ zb true = 0 := by decide
          obtain ⟨p1, p2⟩ := hl (x4 := zb true) (Or.inr ⟨nz, by omega⟩)
          rw [if_neg nz] at p2
          exact ⟨fun _ _ => ⟨fun _ => p1, fun q => absurd q gv2⟩, p2⟩
      · rw [decide_eq_false gl]
        have z : zb false = 0 := rfl
        obtain ⟨p1, p2⟩ := hl (x4 := zb false) (Or.inl ⟨z, by omega, gl⟩)
        rw [if_pos z] at p2
        by_cases gv2 : qV A = 2
        · rw [if_neg (show ¬ ¬ _ from fun q => q gv2), if_pos (show false = false from rfl), if_pos gv2, if_neg gl]
          rw [if_pos gv2] at p2
          exact ⟨fun _ _ => ⟨fun q => absurd gv2 q, fun _ _ => p1⟩, p2⟩
        · rw [if_pos (show ¬ _ from gv2), if_neg gv2, if_neg gl]
          rw [if_neg gv2] at p2
          exact ⟨fun _ _ => ⟨fun _ => p1, fun q => absurd q gv2⟩, p2⟩
noncomputable def aRuns : Nat → aA → aA
  | 0, A => A
  | n + 1, A => if qR A = 0 then A else aRuns n (aStep A)
theorem aStp_R (A : aA) : qR (aStp A).2 = qR A := by
  unfold aStp
  repeat' split
  all_goals rfl
theorem aRuns_0 (n : Nat) {A : aA} (h : qR A = 0) : aRuns n A = A := by
  cases n with
  | zero => rfl
  | succ n => unfold aRuns; rw [if_pos h]
theorem crun_21 : ∀ (n m i : Nat) (s : xS) (A : aA), i ≤ m → m ≤ 500 → m + 1 ≤ n + i → VA A → CV s A → te_run_21_ok n s (i3 m) (i3 i) ∧ fr Pcl s (te_run_21 n s (i3 m) (i3 i)).2 ∧ (te_run_21 n s (i3 m) (i3 i)).1 = zb (!decide (qR (aRuns (m - i) A) = 0)) ∧ CV (te_run_21 n s (i3 m) (i3 i)).2 (aRuns (m - i) A) ∧ VA (aRuns (m - i) A) := by
  intro n
  induction n with
  | zero => intro m i s A h1 h2 h3; omega
  | succ n ih =>
    intro m i s A h1 h2 h3 hA h
    unfold te_run_21 te_run_21_ok
    rw [te_run_80_eq]
    unfold te_run_80_d
    have hR := hA.1.2.2.2
    have c1 : (i3 m ≤ i3 i) = (m ≤ i) := i3_leN (by omega) (by omega)
    have c2 : (gI s 0 6 = 0) = (qR A = 0) := by rw [h.2.2.1, i3_lit, i3_eq (by omega)]
    have e1 : i3 i + 1 = i3 (i + 1 : Nat) := by rw [i3_lit, i3_add]; rfl
    simp only [c1, c2, e1]
    by_cases g : m ≤ i
    · rw [if_pos g, show m - i = 0 by omega]
      exact ⟨fun q => absurd g q, fr_refl .., rfl, h, hA⟩
    · rw [if_neg g]
      by_cases g0 : qR A = 0
      · rw [if_pos g0, aRuns_0 _ g0]
        exact ⟨fun _ q => absurd g0 q, fr_refl .., by rw [decide_eq_true g0], h, hA⟩
      · rw [if_neg g0]
        have hr0 : qR A ≠ 0 := g0
        obtain ⟨p1, p2, p3, p4⟩ := cstep hA hr0 h
        have hc := aStp_c hA.1.1
        obtain ⟨k, hk⟩ : ∃ k, m - i = k + 1 := ⟨m - i - 1, by omega⟩
        have hk' : m - (i + 1) = k := by omega
        have hstep : aRuns (m - i) A = aRuns k (aStep A) := by
          rw [hk]
          show (if qR A = 0 then A else aRuns k (aStep A)) = _
          rw [if_neg g0]
        rw [hstep]
        have hAs := VA_step (by omega) hA
        have z1 : ((pr_step s).1 = 0) = ((aStp A).1 = 0) := by rw [p3, i3_lit, i3_eq (by omega)]
        have z2 : (gI (pr_step s).2 0 6 = 2) = (qR A = 2) := by rw [p4.2.2.1, aStp_R, i3_lit, i3_eq (by omega)]
        simp only [z1, z2]
        have go : ∀ {t : xS}, CV t (aStep A) → fr Pcl s t → te_run_21_ok n t (i3 m) (i3 (i + 1 : Nat)) ∧ fr Pcl s (te_run_21 n t (i3 m) (i3 (i + 1 : Nat))).2 ∧ (te_run_21 n t (i3 m) (i3 (i + 1 : Nat))).1 = zb (!decide (qR (aRuns k (aStep A)) = 0)) ∧ CV (te_run_21 n t (i3 m) (i3 (i + 1 : Nat))).2 (aRuns k (aStep A)) ∧ VA (aRuns k (aStep A)) := by
          intro t ht ft
          obtain ⟨q1, q2, q3⟩ := ih m (i + 1) t (aStep A) (by omega) h2 (by omega) hAs ht
          rw [hk'] at q3
          exact ⟨q1, fr_trans ft q2, q3⟩
        by_cases g1 : (aStp A).1 = 0
        · rw [if_pos g1, if_pos g1]
          have hst : aStep A = (aStp A).2 := by unfold aStep; rw [if_pos g1]
          obtain ⟨q1, q2⟩ := go (t := (pr_step s).2) (by rw [hst]; exact p4) (Pst_cl p2)
          exact ⟨fun _ _ => ⟨p1, fun _ => ⟨fun _ => q1, fun q => absurd g1 q⟩, fun q => absurd g1 q⟩, q2⟩
        · rw [if_neg g1]
          by_cases g2 : qR A = 2
          · rw [if_neg (show ¬ ¬ _ from fun q => q g2)]
            have hr2 : qR (aStp A).2 = 2 := by rw [aStp_R]; exact g2
            have hVs := VA_stp hr0 hA
            have main : te_endValue_ok (pr_step s).2 (pr_step s).1 ∧ fr Pcl s (te_endValue (pr_step s).2 (pr_step s).1) ∧ CV (te_endValue (pr_step s).2 (pr_step s).1) (aStep A) := by
              rw [te_endValue_eq]
              unfold te_endValue_ok te_endValue_d
              have z3 : ((pr_step s).1 = -1) = ((aStp A).1 = -1) := by rw [p3, i3_lit, i3_neg, i3_eq (by omega)]
              simp only [z3]
              by_cases g3 : (aStp A).1 = -1
              · rw [if_neg (show ¬ ¬ _ from fun q => q g3)]
                obtain ⟨y1, y2, y3, y4⟩ := cval hVs hr2 p4
                have hst : aStep A = aVal (aStp A).2 := by unfold aStep; rw [if_neg g1, if_pos g3, if_neg (by omega)]
                rw [hst]
                exact ⟨⟨fun q => absurd g3 q, fun _ => ⟨y1, y2⟩⟩, fr_trans (Pst_cl p2) y3, y4⟩
              · rw [if_pos (show ¬ _ from g3), p3]
                have hsm := aStp_same g1 g3
                have hst : aStep A = aFl A (aStp A).1 := by unfold aStep; rw [if_neg g1, if_neg g3, if_neg (by omega)]
                rw [hst]
                rw [hsm] at p4
                obtain ⟨y1, y2, y3⟩ := cfl (c := (aStp A).1) hA g2 (by omega) p4 (fr_refl ..) p4.2.2.2.2.2.2.1.1
                exact ⟨⟨fun _ => y1, fun q => absurd q g3⟩, fr_trans (Pst_cl p2) y2, y3⟩
            obtain ⟨q1, q2⟩ := go main.2.2 main.2.1
            exact ⟨fun _ _ => ⟨p1, fun q => absurd q g1, fun _ => ⟨fun q => absurd g2 q, fun _ => ⟨main.1, q1⟩⟩⟩, q2⟩
          · rw [if_pos (show ¬ _ from g2), if_neg g1]
            have r1 : qR A = 1 := by omega
            have main : fr Pcl s (te_endProgram (pr_step s).2 (pr_step s).1) ∧ CV (te_endProgram (pr_step s).2 (pr_step s).1) (aStep A) := by
              rw [te_endProgram_eq]
              unfold te_endProgram_d
              have z3 : ((pr_step s).1 = -1) = ((aStp A).1 = -1) := by rw [p3, i3_lit, i3_neg, i3_eq (by omega)]
              simp only [z3]
              have ends : ∀ {B : aA} {t : xS}, VA B → qR B = 1 → CV t B → CV (sI t 0 6 0) (zR B 0) := by
                intro B t hB hb ht
                obtain ⟨q1, q2, q3, ⟨nx, q4⟩, q5, q6, q7, q8, q9, q10⟩ := ht
                have f : fr (fun b j => b = 0 ∧ j = 6) t (sI t 0 6 0) := fr_sI (fr_refl ..) ⟨rfl, rfl⟩
                have h4 := CVh_fr f (fun b j w => by omega) hB.2.1 q4
                exact ⟨CVd_fr f (fun b j w => by omega) hB.1.1 q1, CVf_fr f (by omega) q2, by show gI _ 0 6 = i3 0; rw [gI_sI, if_pos ⟨rfl, rfl⟩]; rfl, ⟨nx, ⟨h4.1, h4.2.1, h4.2.2.1, h4.2.2.2.1, fun w => absurd w (by show ¬ (0 : Int) = 2; decide)⟩⟩, CVp_fr f (fun j => by omega) q5, fun w => absurd rfl w, ⟨(f.1 _ _ (by omega)).1.trans q7.1, fun w => absurd w (by show ¬ (0 : Int) = 2; decide)⟩, CVl_fr f (fun j w => by omega) q8, CVt_fr f (by omega) (fun j => by omega) q9, CVo_fr f (by omega) (fun j => by omega) q10⟩
              by_cases g3 : (aStp A).1 = -1
              · rw [if_pos g3]
                have hst : aStep A = zR (aStp A).2 0 := by unfold aStep; rw [if_neg g1, if_pos g3, if_pos r1]
                rw [hst]
                exact ⟨fr_trans (Pst_cl p2) (fr_sI (fr_refl ..) (by unfold Pcl; omega)), ends (VA_stp hr0 hA) (by rw [aStp_R]; exact r1) p4⟩
              · rw [if_neg g3, p3]
                have hsm := aStp_same g1 g3
                have hst : aStep A = zF (zR A 0) (aStp A).1 := by unfold aStep; rw [if_neg g1, if_neg g3, if_pos r1]
                rw [hst]
                rw [hsm] at p4
                have h5 := ends hA r1 p4
                refine ⟨fr_trans (Pst_cl p2) (fr_sI (fr_sI (fr_refl ..) (by unfold Pcl; omega)) (by unfold Pcl; omega)), ?_⟩
                obtain ⟨q1, q2, q3, ⟨nx, q4⟩, q5, q6, q7, q8, q9, q10⟩ := h5
                have f : fr (fun b j => b = 1 ∧ j = 3) (sI (pr_step s).2 0 6 0) (sI (sI (pr_step s).2 0 6 0) 1 3 (i3 (aStp A).1)) := fr_sI (fr_refl ..) ⟨rfl, rfl⟩
                have hva : VAh (zR A 0) := ⟨hA.2.1.1, hA.2.1.2.1, fun w => absurd w (by show ¬ (0 : Int) = 2; decide)⟩
                exact ⟨CVd_fr f (fun b j w => by omega) hA.1.1 q1, by show gI _ 1 3 = i3 (aStp A).1; rw [gI_sI, if_pos ⟨rfl, rfl⟩], CVr_fr f (by omega) q3, ⟨nx, CVh_fr f (fun b j w => by omega) hva q4⟩, CVp_fr f (fun j => by omega) q5, fun w => absurd rfl w, CVs_fr f (fun b j w => by omega) q7, CVl_fr f (fun j w => by omega) q8, CVt_fr f (by omega) (fun j => by omega) q9, CVo_fr f (by omega) (fun j => by omega) q10⟩
            obtain ⟨q1, q2⟩ := go main.2 main.1
            exact ⟨fun _ _ => ⟨p1, fun q => absurd q g1, fun _ => ⟨fun _ => ⟨fun q => absurd q g1, fun _ => q1⟩, fun q => absurd q g2⟩⟩, q2⟩
