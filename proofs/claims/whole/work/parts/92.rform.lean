/-! THE REFERENCE'S STACK AND FORMULAS -/
theorem isOp_tm {k : Int} (hk : 0 ≤ k ∧ k ≤ 255) : tm_isOperation (i3 k) = isOp k := by
  unfold tm_isOperation isOp
  have c1 : (i3 k = 43) = (k = 43) := by rw [i3_lit, i3_eq (by omega)]
  have c2 : (i3 k = 45) = (k = 45) := by rw [i3_lit, i3_eq (by omega)]
  have c3 : (i3 k = 42) = (k = 42) := by rw [i3_lit, i3_eq (by omega)]
  have c4 : (i3 k = 47) = (k = 47) := by rw [i3_lit, i3_eq (by omega)]
  simp only [c1, c2, c3, c4]
theorem isOp_k {k : Int} (h : isOp k = true) : k = 42 ∨ k = 43 ∨ k = 45 ∨ k = 47 := by
  unfold isOp at h
  simp only [Bool.or_eq_true, decide_eq_true_eq] at h
  omega
theorem rstack {s : xS} {D : aD} {k : Int} (hk : 0 ≤ k ∧ k ≤ 255) (h : rD s 0 (aEnd D)) (hv : vD D) : tm_stackKey_ok s (i3 k) ∧ rRs s (tm_stackKey s (i3 k)) (if isOp k = true then aOper k D else aStack k D) := by
  have ve := vD_end hv
  rw [tm_stackKey_eq]
  unfold tm_stackKey_ok tm_stackKey_d
  rw [isOp_tm hk]
  have c1 : (i3 k = 61) = (k = 61) := by rw [i3_lit, i3_eq (by omega)]
  have c2 : (i3 k = 87) = (k = 87) := by rw [i3_lit, i3_eq (by omega)]
  have c3 : (i3 k = 68) = (k = 68) := by rw [i3_lit, i3_eq (by omega)]
  have c4 : (i3 k = 76) = (k = 76) := by rw [i3_lit, i3_eq (by omega)]
  simp only [c1, c2, c3, c4]
  rw [tm_stackKey_182_eq]
  unfold tm_stackKey_182_d
  simp only [c1]
  cases go : isOp k
  · rw [if_pos (show false = false from rfl), if_neg (show ¬ false = true by decide)]
    unfold aStack
    by_cases g1 : k = 61
    · rw [if_neg (show ¬ ¬ k = 61 from fun q => q g1), if_pos g1]
      obtain ⟨b1, b2, b3⟩ := rraise h ve
      refine ⟨⟨fun _ => ⟨fun q => absurd g1 q, fun _ => b1⟩, fun q => (by cases q)⟩, fr_sI (raise_r b2) (by unfold Pr; omega), rfl, fun _ => ?_⟩
      rw [decide_eq_true g1]
      exact rD_lift (b := false) b3 (vD_raise ve)
    · rw [if_pos (show ¬ k = 61 from g1), if_neg g1]
      have l1 : zb (!decide (k = 61)) = zb true := by rw [decide_eq_false g1]; rfl
      have wd : k = 87 ∨ k = 68 → tm_stackKey_93_ok s (i3 k) ∧ rRs s (tm_stackKey_93 s (i3 k)) (if k = 87 then (0, sLi (sN (aMv (aEnd D) 10 11) 11 (dN (aEnd D) 10)) true) else if k = 68 then (0, sLi (sN (aMv (aMv (aMv (aEnd D) 10 11) 11 12) 12 13) 13 (dN (aEnd D) 10)) true) else (1, D)) := by
        intro hw
        rw [tm_stackKey_93_eq]
        unfold tm_stackKey_93_ok tm_stackKey_93_d
        rw [tm_stackKey_129_eq]
        unfold tm_stackKey_129_ok tm_stackKey_129_d
        rw [tm_stackKey_182_eq]
        unfold tm_stackKey_182_d
        simp only [c1, c3]
        rw [l1]
        obtain ⟨a1, a2, a3, a4⟩ := rrecall (show 10 < 15 by omega) h ve
        have a1' : tm_recall_ok s 10 := a1
        have a2' : fr Prow s (tm_recall s 10) := a2
        have a3' : rF (tm_recall s 10) (dN (aEnd D) 10) := a3
        have a4' : rD (tm_recall s 10) 0 (aEnd D) := a4
        have vx := ve.1 10 (by omega)
        generalize tm_recall s 10 = t at *
        obtain ⟨b1, b2, b3⟩ := rmv (show 10 < 15 by omega) (show 11 < 15 by omega) a4' ve
        have b1' : tm_move_ok t 11 10 := b1
        have b2' : fr (Pn 10) t (tm_move t 11 10) := b2
        have b3' : rD (tm_move t 11 10) 0 (aMv (aEnd D) 10 11) := b3
        have v1 := vD_mv (i := 10) ve (show 11 < 15 by omega)
        generalize tm_move t 11 10 = u at *
        have fu : fr Pr s u := fr_trans (Prow_r a2') (Pn_r (by omega) b2')
        have pu : rF u (dN (aEnd D) 10) := rF_n b2' a3'
        rcases hw with w | w
        · rw [if_pos (show ¬ k = 68 by omega), if_pos w, if_neg (show ¬ k = 68 by omega)]
          obtain ⟨d1, d2, d3⟩ := rsetF (show 11 < 15 by omega) pu vx b3' v1
          exact ⟨⟨a1', b1', fun _ => d1, fun q => absurd q (by omega)⟩, fr_sI (fr_trans fu (Pn_r (by omega) d2)) (by unfold Pr; omega), rfl, fun _ => rD_lift (b := true) d3 (vD_sN v1 vx)⟩
        · rw [if_neg (show ¬ ¬ k = 68 from fun q => q w), if_neg (show ¬ k = 87 by omega), if_pos w, if_pos w]
          obtain ⟨d1, d2, d3⟩ := rmv (show 11 < 15 by omega) (show 12 < 15 by omega) b3' v1
          have d1' : tm_move_ok u 12 11 := d1
          have d2' : fr (Pn 11) u (tm_move u 12 11) := d2
          have d3' : rD (tm_move u 12 11) 0 (aMv (aMv (aEnd D) 10 11) 11 12) := d3
          have v2 := vD_mv (i := 11) v1 (show 12 < 15 by omega)
          generalize tm_move u 12 11 = y at *
          obtain ⟨e1, e2, e3⟩ := rmv (show 12 < 15 by omega) (show 13 < 15 by omega) d3' v2
          have e1' : tm_move_ok y 13 12 := e1
          have e2' : fr (Pn 12) y (tm_move y 13 12) := e2
          have e3' : rD (tm_move y 13 12) 0 (aMv (aMv (aMv (aEnd D) 10 11) 11 12) 12 13) := e3
          have v3 := vD_mv (i := 12) v2 (show 13 < 15 by omega)
          generalize tm_move y 13 12 = x at *
          obtain ⟨w1, w2, w3⟩ := rsetF (show 13 < 15 by omega) (rF_n e2' (rF_n d2' pu)) vx e3' v3
          exact ⟨⟨a1', b1', fun q => absurd w q, fun _ => ⟨d1', e1', w1⟩⟩, fr_sI (fr_trans (fr_trans (fr_trans fu (Pn_r (by omega) d2')) (Pn_r (by omega) e2')) (Pn_r (by omega) w2)) (by unfold Pr; omega), rfl, fun _ => rD_lift (b := true) w3 (vD_sN v3 vx)⟩
      by_cases g2 : k = 76
      · have n87 : ¬ k = 87 := by omega
        have n68 : ¬ k = 68 := by omega
        rw [if_neg n87, if_pos (show ¬ k = 68 from n68), if_neg (show ¬ ¬ k = 76 from fun q => q g2), if_pos g2]
        obtain ⟨a1, a2, a3, a4⟩ := rrecall (show 14 < 15 by omega) h ve
        have a1' : tm_recall_ok s 14 := a1
        have a2' : fr Prow s (tm_recall s 14) := a2
        have a3' : rF (tm_recall s 14) (dN (aEnd D) 14) := a3
        have a4' : rD (tm_recall s 14) 0 (aEnd D) := a4
        have vx := ve.1 14 (by omega)
        generalize tm_recall s 14 = t at *
        obtain ⟨b1, b2, b3⟩ := rpush a3' vx a4' ve
        rw [l1]
        exact ⟨⟨fun _ => ⟨fun _ => ⟨fun q => absurd q n87, fun _ => ⟨fun _ _ => ⟨a1', b1⟩, fun q => absurd q n68⟩⟩, fun q => absurd q g1⟩, fun q => (by cases q)⟩, fr_sI (fr_trans (Prow_r a2') b2) (by unfold Pr; omega), rfl, fun _ => rD_lift (b := true) b3 (vD_bring ve vx)⟩
      · rw [if_neg g2]
        by_cases g3 : k = 87
        · rw [if_pos g3]
          obtain ⟨p1, p2⟩ := wd (Or.inl g3)
          exact ⟨⟨fun _ => ⟨fun _ => ⟨fun _ => p1, fun q => absurd g3 q⟩, fun q => absurd q g1⟩, fun q => (by cases q)⟩, p2⟩
        · rw [if_neg g3]
          by_cases g4 : k = 68
          · rw [if_neg (show ¬ ¬ k = 68 from fun q => q g4)]
            obtain ⟨p1, p2⟩ := wd (Or.inr g4)
            exact ⟨⟨fun _ => ⟨fun _ => ⟨fun q => absurd q g3, fun _ => ⟨fun q => absurd g4 q, fun _ => p1⟩⟩, fun q => absurd q g1⟩, fun q => (by cases q)⟩, p2⟩
          · rw [if_pos (show ¬ k = 68 from g4), if_pos (show ¬ k = 76 from g2), if_neg g3, if_neg g4]
            exact ⟨⟨fun _ => ⟨fun _ => ⟨fun q => absurd q g3, fun _ => ⟨fun _ q => absurd q g2, fun q => absurd q g4⟩⟩, fun q => absurd q g1⟩, fun q => (by cases q)⟩, fr_refl .., rfl, fun q => absurd q (show ¬ (1 : Int) = 0 by decide)⟩
  · rw [if_neg (show ¬ true = false by decide), if_pos (show true = true from rfl)]
    have hop := isOp_k go
    obtain ⟨p1, f1, f2, f3⟩ := rwork s (k := k) (i := 11) (j := 10) (by omega) (by omega) hop (h.1 11 (by omega)) (h.1 10 (by omega)) (ve.1 11 (by omega)) (ve.1 10 (by omega))
    have e11 : i3 ((11 : Nat) : Int) = 11 := rfl
    have e10 : i3 ((10 : Nat) : Int) = 10 := rfl
    rw [e11, e10] at p1 f1 f2 f3
    rw [dN_end] at f2 f3
    have hq := aOp_v k (dN D 11) (dN D 10)
    unfold aOper
    have d1 : ((tm_work s (i3 k) 11 10).1 ≤ 0) = ((aOp k (dN D 11) (dN D 10)).1 = 0) := by rw [f2, i3_lit, i3_le (by omega)]; apply propext; omega
    simp only [d1]
    have l1 : zb (!decide (k = 61)) = zb true := by rw [decide_eq_false (show ¬ k = 61 by omega)]; rfl
    rw [l1]
    have hd1 : rD (tm_work s (i3 k) 11 10).2 0 (aEnd D) := rD_row f1 ve h
    have fp := Prow_r f1
    by_cases g : (aOp k (dN D 11) (dN D 10)).1 = 0
    · rw [if_pos g, if_pos g]
      have hp := f3 g
      generalize (tm_work s (i3 k) 11 10).2 = t at *
      obtain ⟨a1, a2, a3⟩ := rmv (show 14 < 15 by omega) (show 10 < 15 by omega) hd1 ve
      have a1' : tm_move_ok t 10 14 := a1
      have a2' : fr (Pn 14) t (tm_move t 10 14) := a2
      have a3' : rD (tm_move t 10 14) 0 (aMv (aEnd D) 14 10) := a3
      generalize tm_move t 10 14 = u at *
      have v1 := vD_mv (i := 14) ve (show 10 < 15 by omega)
      obtain ⟨b1, b2, b3⟩ := rsetF (show 10 < 15 by omega) (rF_n a2' hp) hq.1 a3' v1
      have v2 := vD_sN (i := 10) v1 hq.1
      have b1' : tm_set_ok u 10 (gI u 230 29) (gJ u 230 30) (gI u 230 31) := b1
      have b2' : fr (Pn 10) u (tm_set u 10 (gI u 230 29) (gJ u 230 30) (gI u 230 31)) := b2
      have b3' : rD (tm_set u 10 (gI u 230 29) (gJ u 230 30) (gI u 230 31)) 0 (sN (aMv (aEnd D) 14 10) 10 (aOp k (dN D 11) (dN D 10)).2) := b3
      generalize tm_set u 10 (gI u 230 29) (gJ u 230 30) (gI u 230 31) = y at *
      obtain ⟨d1, d2, d3⟩ := rmv (show 11 < 15 by omega) (show 12 < 15 by omega) b3' v2
      have d1' : tm_move_ok y 12 11 := d1
      have d2' : fr (Pn 11) y (tm_move y 12 11) := d2
      have v3 := vD_mv (i := 11) v2 (show 12 < 15 by omega)
      have d3' : rD (tm_move y 12 11) 0 (aMv (sN (aMv (aEnd D) 14 10) 10 (aOp k (dN D 11) (dN D 10)).2) 11 12) := d3
      generalize tm_move y 12 11 = x at *
      obtain ⟨e1, e2, e3⟩ := rmv (show 12 < 15 by omega) (show 13 < 15 by omega) d3' v3
      have v4 := vD_mv (i := 12) v3 (show 13 < 15 by omega)
      exact ⟨⟨fun q => (by cases q), fun _ => ⟨p1, fun _ => ⟨a1', b1', d1', e1⟩⟩⟩, fr_sI (fr_trans (fr_trans (fr_trans (fr_trans fp (Pn_r (by omega) a2')) (Pn_r (by omega) b2')) (Pn_r (by omega) d2')) (Pn_r (by omega) e2)) (by unfold Pr; omega), rfl, fun _ => rD_lift (b := true) e3 v4⟩
    · rw [if_neg g, if_neg g]
      exact ⟨⟨fun q => (by cases q), fun _ => ⟨p1, fun q => absurd q g⟩⟩, fp, f2, fun q => absurd q g⟩
/-! closing -/
noncomputable def aClose (D : aD) : Int × aD := if dT D (dS D - 1) = 40 then (0, sSz D (dS D - 1)) else if (aOp (dT D (dS D - 1)) (dN D (15 + (dS D - 1))) (dN D 10)).1 = 0 then (0, sN (sSz D (dS D - 1)) 10 (aOp (dT D (dS D - 1)) (dN D (15 + (dS D - 1))) (dN D 10)).2) else ((aOp (dT D (dS D - 1)) (dN D (15 + (dS D - 1))) (dN D 10)).1, D)
theorem kI_eq {v : Int} (h : isK v) : (kI v = 0) = (v = 40) := by
  unfold kI
  split
  · rename_i g; rw [g]; simp
  · rename_i g
    exact propext ⟨fun q => by unfold isK at h; omega, fun q => absurd q g⟩
theorem kI_rng {v : Int} (h : isK v) : 0 ≤ kI v ∧ kI v ≤ 255 := by unfold kI isK at *; split <;> omega
theorem rclose {s : xS} {D : aD} (h : rD s 0 D) (hv : vD D) (hs : 1 ≤ dS D) : tm_close_ok s ∧ rRs s (tm_close s) (aClose D) := by
  have h8 := hv.2.2.2.1
  rw [tm_close_eq]
  unfold tm_close_ok tm_close_d aClose
  obtain ⟨j, hj⟩ : ∃ j, dS D = j + 1 := ⟨dS D - 1, by omega⟩
  have hj1 : dS D - 1 = j := by omega
  rw [hj1]
  have e0 : gI s 231 54 = i3 (dS D) := h.2.2.2.1.1
  have e1 : gI s 231 54 - 1 = i3 j := by rw [e0, i3_lit, i3_sub]; exact congrArg i3 (by omega)
  have e2 : (46 : Int32) + i3 j = i3 (46 + j : Nat) := by rw [i3_lit, i3_add]; rfl
  have e3 : (15 : Int32) + i3 j = i3 (15 + j : Nat) := by rw [i3_lit, i3_add]; rfl
  rw [e1, e2, e3, i3_natN (by omega)]
  have d1 := rD_size (n := j) (by omega) h hv
  have v1 := vD_size (n := j) (by omega) hv
  have f1 : fr Pr s (sI s 231 54 (i3 j)) := fr_sI (fr_refl ..) (by unfold Pr; omega)
  have hkj := hv.2.2.1 j (by omega)
  have hkr := kI_rng hkj
  have hT : gI (sI s 231 54 (i3 j)) 231 (46 + j) = i3 (kI (dT D j)) := by
    rw [gI_sI, if_neg (by omega)]
    have := h.2.2.1 j (by omega)
    rwa [show 80 * 0 + 46 + j = 46 + j by omega] at this
  rw [hT]
  have c1 : (i3 (kI (dT D j)) = 0) = (dT D j = 40) := by rw [i3_lit, i3_eq (by omega), kI_eq hkj]
  simp only [c1]
  have hin : vp_in (i3 (46 + j : Nat)) 640 := by rw [i3_inN (by omega)]; omega
  by_cases g : dT D j = 40
  · rw [if_neg (show ¬ ¬ dT D j = 40 from fun q => q g), if_pos g]
    exact ⟨⟨hin, fun q => absurd g q⟩, f1, rfl, fun _ => d1⟩
  · rw [if_pos (show ¬ dT D j = 40 from g), if_neg g]
    have hkI : kI (dT D j) = dT D j := by unfold kI; rw [if_neg g]
    rw [hkI]
    have hop : dT D j = 42 ∨ dT D j = 43 ∨ dT D j = 45 ∨ dT D j = 47 := by unfold isK at hkj; omega
    have hn : rN (sI s 231 54 (i3 j)) 0 (15 + j) (dN D (15 + j)) := by
      have := h.2.1 j (by omega) g
      have f : fr (fun b k => b = 231 ∧ k = 54) s (sI s 231 54 (i3 j)) := fr_sI (fr_refl ..) ⟨rfl, rfl⟩
      exact rN_fr f (by omega) (by omega) (by omega) this
    obtain ⟨p1, q1, q2, q3⟩ := rwork (sI s 231 54 (i3 j)) (k := dT D j) (i := 15 + j) (j := 10) (by omega) (by omega) hop hn (d1.1 10 (by omega)) (hv.2.1 j (by omega) g) (hv.1 10 (by omega))
    have e10 : i3 ((10 : Nat) : Int) = 10 := rfl
    rw [e10] at p1 q1 q2 q3
    have q2' : (tm_work (sI s 231 54 (i3 j)) (i3 (dT D j)) (i3 (15 + j : Nat)) 10).1 = i3 (aOp (dT D j) (dN D (15 + j)) (dN D 10)).1 := q2
    have q3' : (aOp (dT D j) (dN D (15 + j)) (dN D 10)).1 = 0 → rF (tm_work (sI s 231 54 (i3 j)) (i3 (dT D j)) (i3 (15 + j : Nat)) 10).2 (aOp (dT D j) (dN D (15 + j)) (dN D 10)).2 := q3
    rw [tm_put_eq]
    unfold tm_put_ok tm_put_d
    have hq := aOp_v (dT D j) (dN D (15 + j)) (dN D 10)
    have c2 : ((tm_work (sI s 231 54 (i3 j)) (i3 (dT D j)) (i3 (15 + j : Nat)) 10).1 = 0) = ((aOp (dT D j) (dN D (15 + j)) (dN D 10)).1 = 0) := by rw [q2', i3_lit, i3_eq (by omega)]
    simp only [c2]
    have dd : rD (tm_work (sI s 231 54 (i3 j)) (i3 (dT D j)) (i3 (15 + j : Nat)) 10).2 0 (sSz D j) := rD_row q1 v1 d1
    by_cases g2 : (aOp (dT D j) (dN D (15 + j)) (dN D 10)).1 = 0
    · rw [if_neg (show ¬ ¬ _ from fun q => q g2), if_pos g2]
      obtain ⟨a1, a2, a3⟩ := rsetF (show 10 < 15 by omega) (q3' g2) hq.1 dd v1
      exact ⟨⟨hin, fun _ => ⟨hin, p1, fun _ => a1⟩⟩, fr_trans (fr_trans f1 (Prow_r q1)) (Pn_r (by omega) a2), by show (tm_work _ _ _ _).1 = i3 0; rw [q2', g2], fun _ => a3⟩
    · rw [if_pos (show ¬ _ from g2), if_neg g2]
      exact ⟨⟨hin, fun _ => ⟨hin, p1, fun q => absurd q g2⟩⟩, fr_trans f1 (Prow_r q1), q2', fun q => absurd q g2⟩
/-! the loops -/
def Dm (D : aD) (a : Int × Int) (m : Nat) : aD := sSz (sN (aEnd D) 10 a) m
theorem Dm_v {D : aD} {a : Int × Int} {m : Nat} (hv : vD D) (ha : vN a) (hm : m ≤ dS D) : vD (Dm D a m) := vD_size (by show m ≤ dS (aEnd D); rw [dS_end]; exact hm) (vD_sN (vD_end hv) ha)
theorem Dm_T (D : aD) (a : Int × Int) (m : Nat) : dT (Dm D a m) = dT D := dT_end D
theorem Dm_N (D : aD) (a : Int × Int) (m j : Nat) : dN (Dm D a m) (15 + j) = dN D (15 + j) := by
  show (if 15 + j = 10 then a else (aEnd D).1 (15 + j)) = _
  rw [if_neg (by omega)]
  exact congrFun (dN_end D) (15 + j)
theorem Dm_x (D : aD) (a : Int × Int) (m : Nat) : dN (Dm D a m) 10 = a := rfl
theorem Dm_sN (D : aD) (a b : Int × Int) (m : Nat) : sN (Dm D a m) 10 b = Dm D b m := by
  unfold Dm sSz sN
  refine Prod.ext (funext fun j => ?_) rfl
  dsimp only
  by_cases g : j = 10
  · rw [if_pos g, if_pos g]
  · rw [if_neg g, if_neg g, if_neg g]
theorem Dm_sSz (D : aD) (a : Int × Int) (m n : Nat) : sSz (Dm D a m) n = Dm D a n := rfl
/-- one closing, as a step of the folding -/
theorem aClose_Dm {D : aD} {a : Int × Int} {j l : Nat} (hl : l ≤ j) : aClose (Dm D a (j + 1)) = (if dT D j = 40 then (0, Dm D a j) else if (aOp (dT D j) (dN D (15 + j)) a).1 = 0 then (0, Dm D (aOp (dT D j) (dN D (15 + j)) a).2 j) else ((aOp (dT D j) (dN D (15 + j)) a).1, Dm D a (j + 1))) := by
  unfold aClose
  rw [show dS (Dm D a (j + 1)) - 1 = j from rfl, Dm_T, Dm_N, Dm_x, Dm_sSz, Dm_sN]
theorem rk_tgt {v : Int} (h : isK v) : tm_tightness (i3 (kI v)) = i3 (tgt v) := by
  unfold isK at h
  rcases h with h | h | h | h | h <;> subst h <;> rfl
theorem op_tgt {k : Int} (h : isOp k = true) : tm_tightness (i3 k) = i3 (tgt k) ∧ 1 ≤ tgt k := by
  rcases isOp_k h with h | h | h | h <;> subst h <;> exact ⟨rfl, by decide⟩
/-- what is laid on the row -/
theorem rlayon {s : xS} {D : aD} {k : Int} {a : Int × Int} {l : Nat} (hk : 0 ≤ k ∧ k ≤ 255) (hk' : k = 40 ∨ isOp k = true) (hv : vD D) (ha : vN a) (hl : l ≤ dS D) (h : rD s 0 (Dm D a l)) : tm_formulaKey_103_ok s (i3 k) 0 ∧ rRs s (tm_formulaKey_103 s (i3 k) 0) (if 8 ≤ l then (6, D) else (0, aFollow k l a D)) := by
  have h8 := hv.2.2.2.1
  rw [tm_formulaKey_103_eq]
  unfold tm_formulaKey_103_ok tm_formulaKey_103_d
  have e0 : gI s 231 54 = i3 l := h.2.2.2.1.1
  have c0 : ¬ ((0 : Int32) < 0) := by decide
  have c1 : (gI s 231 54 = 8) = (l = 8) := by rw [e0, i3_lit, i3_eq (by omega)]; apply propext; omega
  have c2 : (i3 k = 40) = (k = 40) := by rw [i3_lit, i3_eq (by omega)]
  rw [if_neg c0]
  simp only [c1, c2]
  by_cases g : l = 8
  · rw [if_neg (show ¬ ¬ l = 8 from fun q => q g), if_pos (show 8 ≤ l by omega), tm_formulaKey_119_eq]
    unfold tm_formulaKey_119_d
    rw [if_pos (show (0 : Int32) ≤ 0 by decide)]
    exact ⟨fun _ q => absurd g q, fr_refl .., rfl, fun q => absurd q (show ¬ (6 : Int) = 0 by decide)⟩
  · rw [if_pos (show ¬ l = 8 from g), if_neg (show ¬ 8 ≤ l by omega)]
    have e1 : (46 : Int32) + gI s 231 54 = i3 (46 + l : Nat) := by rw [e0, i3_lit, i3_add]; rfl
    have e2 : (if k = 40 then (0 : Int32) else i3 k) = i3 (kI k) := by unfold kI; split <;> rfl
    rw [e1, e2, i3_natN (by omega)]
    have f1 : fr (fun b j => b = 231 ∧ j = 46 + l) s (sI s 231 (46 + l) (i3 (kI k))) := fr_sI (fr_refl ..) ⟨rfl, rfl⟩
    have e3 : (15 : Int32) + gI (sI s 231 (46 + l) (i3 (kI k))) 231 54 = i3 (15 + l : Nat) := by rw [gI_sI, if_neg (by omega), e0, i3_lit, i3_add]; rfl
    rw [e3]
    have hx : rN (sI s 231 (46 + l) (i3 (kI k))) 0 10 a := rN_fr f1 (by omega) (by omega) (by omega) (h.1 10 (by omega))
    obtain ⟨p1, p2, p3⟩ := rmove (sI s 231 (46 + l) (i3 (kI k))) (f := 10) (i := 15 + l) (by omega) (by omega) hx (vN_z ha)
    have p1' : tm_move_ok (sI s 231 (46 + l) (i3 (kI k))) 10 (i3 (15 + l : Nat)) := p1
    have p2' : fr (Pn (15 + l)) (sI s 231 (46 + l) (i3 (kI k))) (tm_move (sI s 231 (46 + l) (i3 (kI k))) 10 (i3 (15 + l : Nat))) := p2
    have p3' : rN (tm_move (sI s 231 (46 + l) (i3 (kI k))) 10 (i3 (15 + l : Nat))) 0 (15 + l) a := p3
    have hK46 : gI (tm_move (sI s 231 (46 + l) (i3 (kI k))) 10 (i3 (15 + l : Nat))) 231 (46 + l) = i3 (kI k) := by
      rw [(p2'.1 _ _ (by unfold Pn; omega)).1, gI_sI, if_pos ⟨rfl, rfl⟩]
    have f2 : fr (fun b j => (b = 231 ∧ (j = 46 + l ∨ j = 15 + l ∨ j = 38 + l)) ∨ (b = 232 ∧ j = 15 + l)) s (tm_move (sI s 231 (46 + l) (i3 (kI k))) 10 (i3 (15 + l : Nat))) := fr_trans (fr_mono f1 (fun b j q => by omega)) (fr_mono p2' (fun b j q => by unfold Pn at q; omega))
    generalize tm_move (sI s 231 (46 + l) (i3 (kI k))) 10 (i3 (15 + l : Nat)) = t at *
    have e4 : gI t 231 54 + 1 = i3 (l + 1 : Nat) := by rw [(f2.1 231 54 (by omega)).1, e0, i3_lit, i3_add]; rfl
    rw [e4]
    refine ⟨fun _ _ => ⟨by rw [i3_inN (by omega)]; omega, p1'⟩, fr_sI (fr_sI (fr_mono f2 (fun b j q => by unfold Pr; omega)) (by unfold Pr; omega)) (by unfold Pr; omega), rfl, fun _ => ?_⟩
    have f3 : fr (fun b j => (b = 231 ∧ (j = 54 ∨ j = 55))) t (sI (sI t 231 54 (i3 (l + 1 : Nat))) 231 55 1) := fr_sI (fr_sI (fr_refl ..) ⟨rfl, Or.inl rfl⟩) ⟨rfl, Or.inr rfl⟩
    have hfo : aFollow k l a D = sP (sSz (sT (sN (sN (aEnd D) 10 a) (15 + l) a) l k) (l + 1)) 1 := by
      unfold aFollow
      rw [if_neg, if_neg]
      · rcases hk' with w | w
        · omega
        · rcases isOp_k w with w | w | w | w <;> omega
      · rcases hk' with w | w
        · omega
        · rcases isOp_k w with w | w | w | w <;> omega
    rw [hfo]
    have vE' : ∀ q : dOn (aEnd D) = true, eN (dE (aEnd D)) ≤ 13 ∧ ePl (dE (aEnd D)) ≤ 2 := fun q => vE_n ((vD_end hv).2.2.2.2.2 q)
    obtain ⟨h1, h2, h3, ⟨h4, h4'⟩, h5, h6, h7⟩ := h
    refine ⟨fun i hi => ?_, fun i hi h40 => ?_, fun i hi => ?_, ⟨?_, ?_⟩, ?_, ?_, fun q => ?_⟩
    · show rN _ _ _ (if i = 15 + l then a else (sN (aEnd D) 10 a).1 i)
      rw [if_neg (by omega)]
      exact rN_fr f3 (by omega) (by omega) (by omega) (rN_fr f2 (by omega) (by omega) (by omega) (h1 i hi))
    · have hi' : i < l + 1 := hi
      have h40' : (if i = l then k else (aEnd D).2.1 i) ≠ 40 := h40
      show rN _ _ _ (if 15 + i = 15 + l then a else (sN (aEnd D) 10 a).1 (15 + i))
      by_cases q : i = l
      · subst q
        rw [if_pos rfl]
        exact rN_fr f3 (by omega) (by omega) (by omega) p3'
      · rw [if_neg q] at h40'
        rw [if_neg (by omega)]
        exact rN_fr f3 (by omega) (by omega) (by omega) (rN_fr f2 (by omega) (by omega) (by omega) (h2 i (by show i < l; omega) h40'))
    · have hi' : i < l + 1 := hi
      show gI _ 231 (80 * 0 + 46 + i) = i3 (kI (if i = l then k else (aEnd D).2.1 i))
      rw [(f3.1 _ _ (by omega)).1]
      by_cases q : i = l
      · subst q
        rw [if_pos rfl, show 80 * 0 + 46 + i = 46 + i by omega]; exact hK46
      · rw [if_neg q, (f2.1 _ _ (by omega)).1]
        exact h3 i (by show i < l; omega)
    · rw [gI_sI, if_neg (by omega), gI_sI, if_pos ⟨rfl, rfl⟩]; rfl
    · rw [gI_sI, if_pos ⟨rfl, rfl⟩]; rfl
    · exact ((f3.1 _ _ (by omega)).1.trans (f2.1 _ _ (by omega)).1).trans h5
    · exact ((f3.1 _ _ (by omega)).1.trans (f2.1 _ _ (by omega)).1).trans h6
    · exact rE_fr f3 (fun j _ _ => by omega) (vE' q) (rE_fr f2 (fun j _ _ => by omega) (vE' q) (h7 q))
theorem rform_48 {D : aD} {k : Int} (hk : 0 ≤ k ∧ k ≤ 255) (ho : isOp k = true) (hv : vD D) : ∀ (n m : Nat) (s : xS) (a : Int × Int), m ≤ dS D → m + 2 ≤ n → vN a → rD s 0 (Dm D a m) → tm_formulaKey_48_ok n s (i3 k) 0 ∧ rRs s (tm_formulaKey_48 n s (i3 k) 0) (if (aFold D (aLeft (dT D) (tgt k) m) m a).1 = 0 then (if 8 ≤ aLeft (dT D) (tgt k) m then (6, D) else (0, aFollow k (aLeft (dT D) (tgt k) m) (aFold D (aLeft (dT D) (tgt k) m) m a).2 D)) else ((aFold D (aLeft (dT D) (tgt k) m) m a).1, D)) := by
  have h8 := hv.2.2.2.1
  have n40 : ¬ k = 40 := by rcases isOp_k ho with w | w | w | w <;> omega
  obtain ⟨tk1, tk2⟩ := op_tgt ho
  have tkr := tgt_rng k
  intro n
  induction n with
  | zero => intro m s a h1 h2; omega
  | succ n ih =>
    intro m s a hm hn va hd
    have hlay := fun (l : Nat) (b : Int × Int) (t : xS) (hb : vN b) (hl : l ≤ dS D) (w : rD t 0 (Dm D b l)) => rlayon (k := k) hk (Or.inr ho) hv hb hl w
    unfold tm_formulaKey_48 tm_formulaKey_48_ok
    have e0 : gI s 231 54 = i3 m := hd.2.2.2.1.1
    have c1 : (i3 k = 40) = (k = 40) := by rw [i3_lit, i3_eq (by omega)]
    have c2 : (gI s 231 54 ≤ 0) = (m = 0) := by rw [e0, i3_lit, i3_le (by omega)]; apply propext; omega
    simp only [c1, c2]
    rw [if_neg n40, if_neg (show ¬ ¬ True from fun q => q trivial)]
    cases m with
    | zero =>
      rw [if_pos rfl]
      obtain ⟨p1, p2⟩ := hlay 0 a s va (by omega) hd
      refine ⟨⟨fun q => absurd q n40, fun _ => ⟨fun q => absurd trivial q, fun _ => ⟨fun _ => p1, fun q => absurd rfl q⟩⟩⟩, ?_⟩
      show rRs s _ (if (0 : Int) = 0 then (if 8 ≤ 0 then _ else _) else _)
      rw [if_pos rfl]
      exact p2
    | succ j =>
      rw [if_neg (by omega)]
      have e1 : (46 : Int32) + gI s 231 54 - 1 = i3 (46 + j : Nat) := by rw [e0, i3_lit, i3_add, i3_lit, i3_sub]; exact congrArg i3 (by omega)
      have hT : gI s 231 (46 + j) = i3 (kI (dT D j)) := by
        have := hd.2.2.1 j (by show j < j + 1; omega)
        rw [Dm_T, show 80 * 0 + 46 + j = 46 + j by omega] at this
        exact this
      have hkj := hv.2.2.1 j (by omega)
      have tr := tgt_rng (dT D j)
      have c3 : (tm_tightness (gI s 231 (46 + j)) < tm_tightness (i3 k)) = (¬ tgt k ≤ tgt (dT D j)) := by
        rw [hT, rk_tgt hkj, tk1, i3_lt (by omega)]; apply propext; omega
      have hin : vp_in (i3 (46 + j : Nat)) 640 := by rw [i3_inN (by omega)]; omega
      rw [e1, i3_natN (by omega)]
      simp only [c3]
      unfold aLeft
      by_cases g : tgt k ≤ tgt (dT D j)
      · rw [if_neg (show ¬ ¬ tgt k ≤ tgt (dT D j) from fun q => q g), if_pos g]
        have hle := aLeft_le (dT D) (tgt k) j
        have hn40 : ¬ dT D j = 40 := by
          intro q
          rw [q] at g
          have : tgt 40 = 0 := rfl
          omega
        obtain ⟨k1, k2⟩ := rclose hd (Dm_v hv va hm) (by show 1 ≤ j + 1; omega)
        rw [aClose_Dm hle, if_neg hn40] at k2
        unfold aFold
        rw [if_neg (show ¬ j < aLeft (dT D) (tgt k) j by omega), if_neg hn40]
        have hq := aOp_v (dT D j) (dN D (15 + j)) a
        by_cases g2 : (aOp (dT D j) (dN D (15 + j)) a).1 = 0
        · rw [if_pos g2] at k2
          rw [if_pos g2]
          obtain ⟨f1, f2, f3⟩ := k2
          have f2' : (tm_close s).1 = 0 := f2
          rw [f2']
          obtain ⟨p1, p2⟩ := ih j (tm_close s).2 (aOp (dT D j) (dN D (15 + j)) a).2 (by omega) (by omega) hq.1 (f3 rfl)
          exact ⟨⟨fun q => absurd q n40, fun _ => ⟨fun q => absurd trivial q, fun _ => ⟨fun q => absurd q (by omega), fun _ => ⟨hin, fun q => absurd g q, fun _ => ⟨k1, p1⟩⟩⟩⟩⟩, fr_trans f1 p2.1, p2.2⟩
        · rw [if_neg g2] at k2
          rw [if_neg g2, if_neg g2]
          obtain ⟨f1, f2, f3⟩ := k2
          have f2' : (tm_close s).1 = i3 (aOp (dT D j) (dN D (15 + j)) a).1 := f2
          obtain ⟨n', rfl⟩ : ∃ n', n = n' + 1 := ⟨n - 1, by omega⟩
          rw [f2']
          unfold tm_formulaKey_48 tm_formulaKey_48_ok
          have nz : ¬ i3 (aOp (dT D j) (dN D (15 + j)) a).1 = 0 := by rw [i3_lit, i3_eq (by omega)]; exact g2
          have c5 : (0 : Int32) < i3 (aOp (dT D j) (dN D (15 + j)) a).1 := by rw [i3_lit, i3_lt (by omega)]; omega
          simp only [c1]
          rw [if_neg n40, if_pos nz, tm_formulaKey_103_eq]
          unfold tm_formulaKey_103_ok tm_formulaKey_103_d
          rw [if_pos c5, tm_formulaKey_119_eq]
          unfold tm_formulaKey_119_d
          have c6 : ¬ i3 (aOp (dT D j) (dN D (15 + j)) a).1 ≤ 0 := by rw [i3_lit, i3_le (by omega)]; omega
          rw [if_neg c6]
          exact ⟨⟨fun q => absurd q n40, fun _ => ⟨fun q => absurd trivial q, fun _ => ⟨fun q => absurd q (by omega), fun _ => ⟨hin, fun q => absurd g q, fun _ => ⟨k1, fun q => absurd q n40, fun _ => ⟨fun _ q => absurd c5 q, fun q => absurd q nz⟩⟩⟩⟩⟩⟩, f1, rfl, fun q => absurd q g2⟩
      · rw [if_pos (show ¬ tgt k ≤ tgt (dT D j) from g), if_neg g]
        obtain ⟨p1, p2⟩ := hlay (j + 1) a s va hm hd
        have hf : aFold D (j + 1) (j + 1) a = (0, a) := by unfold aFold; rw [if_pos (by omega)]
        rw [hf]
        refine ⟨⟨fun q => absurd q n40, fun _ => ⟨fun q => absurd trivial q, fun _ => ⟨fun q => absurd q (by omega), fun _ => ⟨hin, fun _ => p1, fun q => absurd g q⟩⟩⟩⟩, ?_⟩
        rw [if_pos (show (0, a).1 = (0 : Int) from rfl)]
        exact p2
