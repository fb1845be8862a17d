/-! THE REFERENCE'S KEYS -/
def Pr (b j : Nat) : Prop := (b = 231 ∧ j < 80) ∨ (b = 232 ∧ j < 24) ∨ b = 242 ∨ (b = 230 ∧ 29 ≤ j ∧ j ≤ 31)
def rRs (s : xS) (q : Int32 × xS) (r : Int × aD) : Prop := fr Pr s q.2 ∧ q.1 = i3 r.1 ∧ (r.1 = 0 → rD q.2 0 r.2)
def rK (mdl : Int) (s : xS) (D : aD) : Prop := rD s 0 D ∧ vD D ∧ gI s 230 4 = i3 mdl ∧ (mdl = 0 ∨ mdl = 1)
theorem rK_fr {mdl : Int} {s t : xS} {D D' : aD} (h : rK mdl s D) (f : fr Pr s t) (hd : rD t 0 D') (hv : vD D') : rK mdl t D' :=
  ⟨hd, hv, (f.1 230 4 (by unfold Pr; omega)).1.trans h.2.2.1, h.2.2.2⟩
theorem Prow_r {s t : xS} (h : fr Prow s t) : fr Pr s t := fr_mono h (fun b j q => by unfold Prow at q; unfold Pr; omega)
theorem Pn_r {i : Nat} {s t : xS} (hi : i < 23) (h : fr (Pn i) s t) : fr Pr s t := fr_mono h (fun b j q => by unfold Pn at q; unfold Pr; omega)
theorem rD_row {s t : xS} {D : aD} (h : fr Prow s t) (hv : vD D) (hd : rD s 0 D) : rD t 0 D := rD_fr h (fun j _ _ => by unfold Prow; omega) (fun j _ _ => by unfold Prow; omega) hv hd
theorem rF_fr {P : Nat → Nat → Prop} {s t : xS} {p : Int × Int} (h : fr P s t) (h1 : ¬ P 230 29) (h2 : ¬ P 230 30) (h3 : ¬ P 230 31) (hp : rF s p) : rF t p := ⟨(h.1 _ _ h1).1.trans hp.1, fun q => ⟨(h.1 _ _ h2).2.trans (hp.2 q).1, (h.1 _ _ h3).1.trans (hp.2 q).2⟩⟩
theorem rF_n {i : Nat} {s t : xS} {p : Int × Int} (h : fr (Pn i) s t) (hp : rF s p) : rF t p := rF_fr h (by unfold Pn; omega) (by unfold Pn; omega) (by unfold Pn; omega) hp
theorem vN_z' {p : Int × Int} (h : vN p) : p.1 = 0 → p.2 = 0 := vN_z h
theorem rmv {s : xS} {D : aD} {i j : Nat} (hi : i < 15) (hj : j < 15) (h : rD s 0 D) (hv : vD D) : tm_move_ok s (i3 j) (i3 i) ∧ fr (Pn i) s (tm_move s (i3 j) (i3 i)) ∧ rD (tm_move s (i3 j) (i3 i)) 0 (aMv D i j) := by
  obtain ⟨p1, p2, p3⟩ := rmove s (show j < 23 by omega) (show i < 23 by omega) (h.1 j hj) (vN_z (hv.1 j hj))
  exact ⟨p1, p2, rD_num hi p2 p3 hv h⟩
theorem rsetF {s : xS} {D : aD} {i : Nat} {p : Int × Int} (hi : i < 15) (hp : rF s p) (vp : vN p) (h : rD s 0 D) (hv : vD D) : tm_set_ok s (i3 i) (gI s 230 29) (gJ s 230 30) (gI s 230 31) ∧ fr (Pn i) s (tm_set s (i3 i) (gI s 230 29) (gJ s 230 30) (gI s 230 31)) ∧ rD (tm_set s (i3 i) (gI s 230 29) (gJ s 230 30) (gI s 230 31)) 0 (sN D i p) := by
  obtain ⟨p1, p2, p3⟩ := rset s (show i < 23 by omega) hp (vN_z vp)
  exact ⟨p1, p2, rD_num hi p2 p3 hv h⟩
theorem rD_lift {s : xS} {D : aD} {b : Bool} (h : rD s 0 D) (hv : vD D) : rD (sI s 231 56 (zb b)) 0 (sLi D b) := by
  obtain ⟨p1, p2, p3, p4, p5, p6⟩ := rD_cell (k := 56) (v := zb b) (by omega) hv h
  obtain ⟨h1, h2, h3, ⟨h4, h4'⟩, h5, h6, h7⟩ := h
  exact ⟨p1, p2, p3, ⟨(p5 _ (by omega)).trans h4, (p5 _ (by omega)).trans h4'⟩, p6, (p5 _ (by omega)).trans h6, p4⟩
theorem rD_place {s : xS} {D : aD} {v : Int} (h : rD s 0 D) (hv : vD D) : rD (sI s 231 55 (i3 v)) 0 (sP D v) := by
  obtain ⟨p1, p2, p3, p4, p5, p6⟩ := rD_cell (k := 55) (v := i3 v) (by omega) hv h
  obtain ⟨h1, h2, h3, ⟨h4, h4'⟩, h5, h6, h7⟩ := h
  exact ⟨p1, p2, p3, ⟨(p5 _ (by omega)).trans h4, p6⟩, (p5 _ (by omega)).trans h5, (p5 _ (by omega)).trans h6, p4⟩
theorem rD_shut {s : xS} {D : aD} (h : rD s 0 D) (hv : vD D) : rD (sI s 231 57 0) 0 (sOn D false) := by
  obtain ⟨p1, p2, p3, p4, p5, p6⟩ := rD_cell (k := 57) (v := 0) (by omega) hv h
  obtain ⟨h1, h2, h3, ⟨h4, h4'⟩, h5, h6, h7⟩ := h
  exact ⟨p1, p2, p3, ⟨(p5 _ (by omega)).trans h4, (p5 _ (by omega)).trans h4'⟩, (p5 _ (by omega)).trans h5, p6, fun q => by cases q⟩
theorem rD_size {s : xS} {D : aD} {n : Nat} (hn : n ≤ dS D) (h : rD s 0 D) (hv : vD D) : rD (sI s 231 54 (i3 n)) 0 (sSz D n) := by
  obtain ⟨p1, p2, p3, p4, p5, p6⟩ := rD_cell (k := 54) (v := i3 n) (by omega) hv h
  obtain ⟨h1, h2, h3, ⟨h4, h4'⟩, h5, h6, h7⟩ := h
  exact ⟨p1, fun i hi => p2 i (by have : i < n := hi; omega), fun i hi => p3 i (by have : i < n := hi; omega), ⟨p6, (p5 _ (by omega)).trans h4'⟩, (p5 _ (by omega)).trans h5, (p5 _ (by omega)).trans h6, p4⟩
theorem vD_size {D : aD} {n : Nat} (hn : n ≤ dS D) (hv : vD D) : vD (sSz D n) := ⟨hv.1, fun i hi => hv.2.1 i (by have : i < n := hi; omega), fun i hi => hv.2.2.1 i (by have : i < n := hi; omega), by show n ≤ 8; have := hv.2.2.2.1; omega, hv.2.2.2.2.1, hv.2.2.2.2.2⟩
theorem rend {s : xS} {D : aD} (h : rD s 0 D) (hv : vD D) : fr Pr s (tm_end s) ∧ rD (tm_end s) 0 (aEnd D) := by
  rw [tm_end_eq]
  unfold tm_end_d aEnd
  have ho : gI s 231 57 = zb (dOn D) := h.2.2.2.2.2.1
  have hl : gI s 231 56 = zb (dLi D) := h.2.2.2.2.1
  rw [ho, hl]
  cases go : dOn D
  · rw [if_pos (by decide)]
    refine ⟨fr_sI (fr_sI (fr_refl ..) (by unfold Pr; omega)) (by unfold Pr; omega), ?_⟩
    have := rD_shut (rD_lift (b := dLi D) h hv) (vD_sLi hv)
    have e : sOn (sLi D (dLi D)) false = D := by rw [← go]; rfl
    rw [e] at this
    exact this
  · rw [if_neg (by decide)]
    exact ⟨fr_sI (fr_sI (fr_refl ..) (by unfold Pr; omega)) (by unfold Pr; omega), rD_shut (rD_lift (b := true) h hv) (vD_sLi hv)⟩
theorem rraise {s : xS} {D : aD} (h : rD s 0 D) (hv : vD D) : tm_lift_ok s ∧ fr (fun b j => Pn 13 b j ∨ Pn 12 b j ∨ Pn 11 b j) s (tm_lift s) ∧ rD (tm_lift s) 0 (aRaise D) := by
  rw [tm_lift_eq]
  unfold tm_lift_ok tm_lift_d
  obtain ⟨a1, a2, a3⟩ := rmv (show 13 < 15 by omega) (show 12 < 15 by omega) h hv
  have v1 : vD (aMv D 13 12) := vD_mv hv (by omega)
  have a1' : tm_move_ok s 12 13 := a1
  have a2' : fr (Pn 13) s (tm_move s 12 13) := a2
  have a3' : rD (tm_move s 12 13) 0 (aMv D 13 12) := a3
  generalize tm_move s 12 13 = t at *
  obtain ⟨b1, b2, b3⟩ := rmv (show 12 < 15 by omega) (show 11 < 15 by omega) a3' v1
  have v2 : vD (aMv (aMv D 13 12) 12 11) := vD_mv v1 (by omega)
  have b1' : tm_move_ok t 11 12 := b1
  have b2' : fr (Pn 12) t (tm_move t 11 12) := b2
  have b3' : rD (tm_move t 11 12) 0 (aMv (aMv D 13 12) 12 11) := b3
  generalize tm_move t 11 12 = u at *
  obtain ⟨c1, c2, c3⟩ := rmv (show 11 < 15 by omega) (show 10 < 15 by omega) b3' v2
  exact ⟨⟨a1', b1', c1⟩, fr_trans (fr_trans (fr_mono a2' (fun b j q => Or.inl q)) (fr_mono b2' (fun b j q => Or.inr (Or.inl q)))) (fr_mono c2 (fun b j q => Or.inr (Or.inr q))), c3⟩
theorem raise_r {s t : xS} (h : fr (fun b j => Pn 13 b j ∨ Pn 12 b j ∨ Pn 11 b j) s t) : fr Pr s t := fr_mono h (fun b j q => by unfold Pn at q; unfold Pr; omega)
theorem rpush {s : xS} {D : aD} {p : Int × Int} (hp : rF s p) (vp : vN p) (h : rD s 0 D) (hv : vD D) : tm_push_ok s ∧ fr Pr s (tm_push s) ∧ rD (tm_push s) 0 (aBring 0 p D) := by
  rw [tm_push_eq]
  unfold tm_push_ok tm_push_d aBring
  rw [tm_push_15_eq]
  unfold tm_push_15_ok tm_push_15_d
  have hl : gI s 231 56 = zb (dLi D) := h.2.2.2.2.1
  rw [hl, if_neg (show ¬ (0 : Int) = 1 by decide)]
  cases dLi D
  · rw [if_pos (by decide)]
    obtain ⟨a1, a2, a3⟩ := rsetF (show 10 < 15 by omega) hp vp h hv
    exact ⟨⟨fun _ => a1, fun q => absurd q (by decide)⟩, Pn_r (by omega) a2, a3⟩
  · rw [if_neg (by decide)]
    obtain ⟨b1, b2, b3⟩ := rraise h hv
    have hp2 : rF (tm_lift s) p := rF_fr b2 (by unfold Pn; omega) (by unfold Pn; omega) (by unfold Pn; omega) hp
    obtain ⟨a1, a2, a3⟩ := rsetF (show 10 < 15 by omega) hp2 vp b3 (vD_raise hv)
    exact ⟨⟨fun q => absurd (by decide) q, fun _ => ⟨b1, a1⟩⟩, fr_trans (raise_r b2) (Pn_r (by omega) a2), a3⟩
theorem rrecall {s : xS} {D : aD} {i : Nat} (hi : i < 15) (h : rD s 0 D) (hv : vD D) : tm_recall_ok s (i3 i) ∧ fr Prow s (tm_recall s (i3 i)) ∧ rF (tm_recall s (i3 i)) (dN D i) ∧ rD (tm_recall s (i3 i)) 0 D := by
  rw [tm_recall_eq]
  unfold tm_recall_ok tm_recall_d
  have ei : (23 : Int32) + i3 i = i3 (23 + i : Nat) := by rw [i3_lit, i3_add]; rfl
  rw [ei, i3_natN (show i < 2147483648 by omega), i3_natN (show 23 + i < 2147483648 by omega)]
  obtain ⟨a, b, c⟩ := rN_rB (h.1 i hi)
  have f : fr Prow s (sI (sJ (sI s 230 29 (gI s 231 i)) 230 30 (gJ s 232 i)) 230 31 (gI s 231 (23 + i))) := fr_sI (fr_sJ (fr_sI (fr_refl ..) (Or.inr ⟨rfl, by omega⟩)) (Or.inr ⟨rfl, by omega⟩)) (Or.inr ⟨rfl, by omega⟩)
  refine ⟨⟨by rw [i3_inN (by omega)]; omega, by rw [i3_inN (by omega)]; omega, by rw [i3_inN (by omega)]; omega⟩, f, ⟨?_, fun _ => ⟨?_, ?_⟩⟩, rD_row f hv h⟩
  · rw [gI_sI, if_neg (by omega), gI_sJ, gI_sI, if_pos ⟨rfl, rfl⟩, a]
  · rw [gJ_sI, gJ_sJ, if_pos ⟨rfl, rfl⟩, b]
  · rw [gI_sI, if_pos ⟨rfl, rfl⟩, c]
theorem rset0 {s : xS} {D : aD} (h : rD s 0 D) (hv : vD D) : tm_set_ok s 10 0 0 0 ∧ fr (Pn 10) s (tm_set s 10 0 0 0) ∧ rD (tm_set s 10 0 0 0) 0 (sN D 10 (0, 0)) := by
  obtain ⟨p1, p2, p3⟩ := rset s (i := 10) (z := 0) (d := 0) (e := 0) (p := (0, 0)) (by omega) ⟨rfl, fun q => absurd rfl q⟩ (fun _ => rfl)
  exact ⟨p1, p2, rD_num (by omega) p2 p3 hv h⟩
/-- what ends a common key -/
theorem rcommon_203 {s : xS} {D : aD} {mdl k : Int} (hk : 0 ≤ k ∧ k ≤ 255) (h : rK mdl s D) : rRs s (tm_common_203 s (i3 k)) (0, if mdl = 0 then sLi D (!(aCl k)) else sP D 2) := by
  rw [tm_common_203_eq]
  unfold tm_common_203_d
  have c1 : (gI s 230 4 = 0) = (mdl = 0) := by rw [h.2.2.1, i3_lit, i3_eq (by have := h.2.2.2; omega)]
  have c2 : (i3 k = 67) = (k = 67) := by rw [i3_lit, i3_eq (by omega)]
  have c3 : (i3 k = 66) = (k = 66) := by rw [i3_lit, i3_eq (by omega)]
  simp only [c1, c2, c3]
  by_cases g : mdl = 0
  · rw [if_neg (fun q => q g), if_pos g]
    have e : (!decide (k = 67) && !decide (k = 66)) = !(aCl k) := by unfold aCl; rw [Bool.not_or]
    rw [e]
    exact ⟨fr_sI (fr_refl ..) (by unfold Pr; omega), rfl, fun _ => rD_lift h.1 h.2.1⟩
  · rw [if_pos g, if_neg g]
    exact ⟨fr_sI (fr_refl ..) (by unfold Pr; omega), rfl, fun _ => rD_place (v := 2) h.1 h.2.1⟩
theorem rsingle {s : xS} {D : aD} {k : Int} (hk : k = 81 ∨ k = 83 ∨ k = 73) (h : rD s 0 D) (hv : vD D) : tm_single_ok s (i3 k) ∧ rRes s (tm_single s (i3 k)) (aFnq k D) := by
  rw [tm_single_eq]
  unfold tm_single_ok tm_single_d aFnq
  have c1 : (i3 k = 81) = (k = 81) := by rw [i3_lit, i3_eq (by omega)]
  have c2 : (i3 k = 83) = (k = 83) := by rw [i3_lit, i3_eq (by omega)]
  simp only [c1, c2]
  have hx := rN_rB (h.1 10 (by omega))
  have vx := hv.1 10 (by omega)
  by_cases g1 : k = 81
  · rw [if_neg (fun q => q g1), if_pos g1]
    obtain ⟨p1, p2⟩ := rroot s hx vx
    exact ⟨⟨fun q => absurd g1 q, fun _ => p1⟩, p2⟩
  · rw [if_pos g1, if_neg g1]
    by_cases g2 : k = 83
    · rw [if_neg (fun q => q g2), if_pos g2]
      obtain ⟨p1, p2⟩ := rwork s (k := 42) (i := 10) (j := 10) (by omega) (by omega) (Or.inl rfl) (h.1 10 (by omega)) (h.1 10 (by omega)) vx vx
      have e1 : i3 42 = 42 := rfl
      have e2 : i3 ((10 : Nat) : Int) = 10 := rfl
      rw [e1, e2] at p1 p2
      exact ⟨⟨fun _ => ⟨fun q => absurd g2 q, fun _ => p1⟩, fun q => absurd q g1⟩, p2⟩
    · rw [if_pos g2, if_neg g2]
      obtain ⟨p1, p2⟩ := rdiv s (z := 1) (d := 100000000000) (e := 0) (n := aOne) ⟨rfl, fun _ => ⟨rfl, rfl⟩⟩ (rA_of hx) vN_1 vx
      have e : aOp 47 aOne (dN D 10) = aDiv aOne (dN D 10) := by unfold aOp; rw [if_neg (by decide), if_neg (by decide), if_neg (by decide)]
      rw [e]
      exact ⟨⟨fun _ => ⟨fun _ => p1, fun q => absurd q g2⟩, fun q => absurd q g1⟩, p2⟩
theorem rcommon {s : xS} {D : aD} {mdl k : Int} (hk : (97 ≤ k ∧ k ≤ 116) ∨ k = 67 ∨ k = 66 ∨ k = 78 ∨ k = 81 ∨ k = 83 ∨ k = 73) (h : rK mdl s (aEnd D)) (hv : vD D) : tm_common_ok s (i3 k) ∧ rRs s (tm_common s (i3 k)) (if k = 81 ∨ k = 83 ∨ k = 73 then aFn mdl k D else (0, aNum mdl k D)) := by
  have hk0 : 0 ≤ k ∧ k ≤ 255 := by omega
  have hm := h.2.2.2
  have hd := h.1
  have ve := h.2.1
  have mm : ∀ {t : xS}, fr Pr s t → (gI t 230 4 = 0) = (mdl = 0) := fun f => by rw [(f.1 230 4 (by unfold Pr; omega)).1, h.2.2.1, i3_lit, i3_eq (by omega)]
  rw [tm_common_eq]
  unfold tm_common_ok tm_common_d
  rw [tm_common_49_eq]
  unfold tm_common_49_ok tm_common_49_d
  rw [tm_common_104_eq]
  unfold tm_common_104_ok tm_common_104_d
  have c1 : (i3 k < 107) = (k < 107) := by rw [i3_lit, i3_lt (by omega)]
  have c2 : ((116 : Int32) < i3 k) = (116 < k) := by rw [i3_lit, i3_lt (by omega)]
  have c3 : (i3 k < 97) = (k < 97) := by rw [i3_lit, i3_lt (by omega)]
  have c4 : ((106 : Int32) < i3 k) = (106 < k) := by rw [i3_lit, i3_lt (by omega)]
  have c5 : (i3 k = 81) = (k = 81) := by rw [i3_lit, i3_eq (by omega)]
  have c6 : (i3 k = 83) = (k = 83) := by rw [i3_lit, i3_eq (by omega)]
  have c7 : (i3 k = 73) = (k = 73) := by rw [i3_lit, i3_eq (by omega)]
  have c8 : (i3 k = 78) = (k = 78) := by rw [i3_lit, i3_eq (by omega)]
  simp only [c1, c2, c3, c4, c5, c6, c7, c8]
  have tail : ∀ {t : xS} {D1 : aD}, fr Pr s t → rD t 0 D1 → vD D1 → D1 = aNumD mdl k (aEnd D) → k < 107 → rRs s (tm_common_203 t (i3 k)) (0, aNum mdl k D) := by
    intro t D1 f hd hv hD hlt
    have hK : rK mdl t D1 := ⟨hd, hv, (f.1 230 4 (by unfold Pr; omega)).1.trans h.2.2.1, hm⟩
    have := rcommon_203 hk0 hK
    have e : aNum mdl k D = if mdl = 0 then sLi D1 (!(aCl k)) else sP D1 2 := by
      unfold aNum; rw [← hD, if_neg (show ¬ 107 ≤ k by omega)]
    rw [e]
    exact ⟨fr_trans f this.1, this.2⟩
  by_cases g1 : k < 107
  · rw [if_pos g1]
    by_cases g2 : k < 97
    · rw [if_pos g2]
      by_cases gf : k = 81 ∨ k = 83 ∨ k = 73
      · rw [if_pos gf]
        have main : tm_common_122_ok s (i3 k) ∧ rRs s (tm_common_122 s (i3 k)) (aFn mdl k D) := by
          rw [tm_common_122_eq]
          unfold tm_common_122_ok tm_common_122_d
          rw [tm_common_149_eq]
          unfold tm_common_149_ok tm_common_149_d
          obtain ⟨q1, q2⟩ := rsingle gf hd ve
          have he : aFnq k (aEnd D) = aFnq k D := by unfold aFnq; rw [dN_end]
          rw [he] at q2
          have hq := aFnq_v (k := k) hv
          obtain ⟨f1, f2, f3⟩ := q2
          have d1 : ((tm_single s (i3 k)).1 ≤ 0) = ((aFnq k D).1 = 0) := by rw [f2, i3_lit, i3_le (by omega)]; apply propext; omega
          have m1 := mm (Prow_r f1)
          simp only [d1, m1]
          have hd1 : rD (tm_single s (i3 k)).2 0 (aEnd D) := rD_row f1 ve hd
          have fp := Prow_r f1
          unfold aFn
          by_cases g : (aFnq k D).1 = 0
          · rw [if_pos g, if_pos g]
            have hp := f3 g
            generalize (tm_single s (i3 k)).2 = t at *
            have hcl : aCl k = false := by unfold aCl; rcases gf with w | w | w <;> subst w <;> rfl
            by_cases g0 : mdl = 0
            · rw [if_neg (fun q => q g0)]
              obtain ⟨a1, a2, a3⟩ := rmv (show 14 < 15 by omega) (show 10 < 15 by omega) hd1 ve
              have a1' : tm_move_ok t 10 14 := a1
              have a2' : fr (Pn 14) t (tm_move t 10 14) := a2
              have a3' : rD (tm_move t 10 14) 0 (aMv (aEnd D) 14 10) := a3
              generalize tm_move t 10 14 = u at *
              have vu := vD_mv (i := 14) ve (show 10 < 15 by omega)
              obtain ⟨b1, b2, b3⟩ := rsetF (show 10 < 15 by omega) (rF_n a2' hp) hq.1 a3' vu
              have vb := vD_sN (i := 10) vu hq.1
              have fb := fr_trans (fr_trans fp (Pn_r (by omega) a2')) (Pn_r (by omega) b2)
              have hK : rK mdl _ (sN (aMv (aEnd D) 14 10) 10 (aFnq k D).2) := ⟨b3, vb, (fb.1 230 4 (by unfold Pr; omega)).1.trans h.2.2.1, hm⟩
              have r := rcommon_203 hk0 hK
              refine ⟨⟨q1, fun _ => ⟨fun q => absurd g0 q, fun _ => ⟨a1', b1⟩⟩⟩, fr_trans fb r.1, r.2.1, fun _ => ?_⟩
              have := r.2.2 rfl
              dsimp only at this
              rw [if_pos g0, hcl] at this
              unfold aFnD
              rw [if_pos g0]
              exact this
            · rw [if_pos g0]
              obtain ⟨b1, b2, b3⟩ := rsetF (show 10 < 15 by omega) hp hq.1 hd1 ve
              have vb := vD_sN (i := 10) ve hq.1
              have fb := fr_trans fp (Pn_r (by omega) b2)
              have hK : rK mdl _ (sN (aEnd D) 10 (aFnq k D).2) := ⟨b3, vb, (fb.1 230 4 (by unfold Pr; omega)).1.trans h.2.2.1, hm⟩
              have r := rcommon_203 hk0 hK
              refine ⟨⟨q1, fun _ => ⟨fun _ => b1, fun q => absurd q g0⟩⟩, fr_trans fb r.1, r.2.1, fun _ => ?_⟩
              have := r.2.2 rfl
              dsimp only at this
              rw [if_neg g0] at this
              unfold aFnD
              rw [if_neg g0]
              exact this
          · rw [if_neg g, if_neg g]
            exact ⟨⟨q1, fun q => absurd q g⟩, fp, f2, fun q => absurd q g⟩
        rcases gf with w | w | w
        · rw [if_pos w]
          exact ⟨⟨fun _ => ⟨fun _ => ⟨fun _ => main.1, fun q => absurd w q⟩, fun q => absurd g2 q⟩, fun q => absurd g1 q⟩, main.2⟩
        · rw [if_neg (show ¬ k = 81 by omega), if_pos w]
          exact ⟨⟨fun _ => ⟨fun _ => ⟨fun q => absurd q (by omega), fun _ => ⟨fun _ => main.1, fun q => absurd w q⟩⟩, fun q => absurd g2 q⟩, fun q => absurd g1 q⟩, main.2⟩
        · rw [if_neg (show ¬ k = 81 by omega), if_neg (show ¬ k = 83 by omega), if_neg (show ¬ ¬ k = 73 from fun q => q w)]
          exact ⟨⟨fun _ => ⟨fun _ => ⟨fun q => absurd q (by omega), fun _ => ⟨fun q => absurd q (by omega), fun _ => ⟨fun q => absurd w q, fun _ => main.1⟩⟩⟩, fun q => absurd g2 q⟩, fun q => absurd g1 q⟩, main.2⟩
      · rw [if_neg gf, if_neg (show ¬ k = 81 by omega), if_neg (show ¬ k = 83 by omega), if_pos (show ¬ k = 73 by omega)]
        by_cases g3 : k = 78
        · rw [if_neg (show ¬ ¬ k = 78 from fun q => q g3)]
          refine ⟨⟨fun _ => ⟨fun _ => ⟨fun q => absurd q (by omega), fun _ => ⟨fun q => absurd q (by omega), fun _ => ⟨fun _ q => absurd g3 q, fun q => absurd q (by omega)⟩⟩⟩, fun q => absurd g2 q⟩, fun q => absurd g1 q⟩, ?_⟩
          obtain ⟨a, b, c⟩ := hd.1 10 (by omega)
          have a' : gI s 231 10 = i3 (dN (aEnd D) 10).1.sign := a
          rw [a', i3_neg]
          have f : fr (Pn 10) s (sI s 231 10 (i3 (-(dN (aEnd D) 10).1.sign))) := fr_sI (fr_refl ..) (Or.inl ⟨rfl, Or.inl rfl⟩)
          refine tail (Pn_r (by omega) f) (rD_num (i := 10) (p := neg2 (dN (aEnd D) 10)) (by omega) f ⟨?_, ?_, ?_⟩ ve hd) (vD_sN ve (neg2_v (ve.1 10 (by omega)))) ?_ g1
          · rw [gI_sI, if_pos ⟨rfl, rfl⟩]
            show _ = i3 (-(dN (aEnd D) 10).1).sign
            rw [Int.sign_neg]
          · rw [gJ_sI]
            show _ = j6 ((-(dN (aEnd D) 10).1).natAbs : Nat)
            rw [Int.natAbs_neg]; exact b
          · rw [gI_sI, if_neg (by omega)]; exact c
          · unfold aNumD aCl
            rw [if_neg (by omega), if_neg (by omega), g3]; rfl
        · rw [if_pos (show ¬ k = 78 from g3)]
          obtain ⟨p1, p2, p3⟩ := rset0 hd ve
          refine ⟨⟨fun _ => ⟨fun _ => ⟨fun q => absurd q (by omega), fun _ => ⟨fun q => absurd q (by omega), fun _ => ⟨fun _ _ => p1, fun q => absurd q (by omega)⟩⟩⟩, fun q => absurd g2 q⟩, fun q => absurd g1 q⟩, ?_⟩
          refine tail (Pn_r (by omega) p2) p3 (vD_sN ve vN_0) ?_ g1
          have hcl : aCl k = true := by unfold aCl; simp; omega
          unfold aNumD
          rw [if_neg (by omega), if_neg (by omega), hcl]; rfl
    · rw [if_neg g2, if_neg (show ¬ 106 < k by omega), if_neg (show ¬ (k = 81 ∨ k = 83 ∨ k = 73) by omega)]
      obtain ⟨i, hi⟩ : ∃ i : Nat, k = 97 + i := ⟨(k - 97).toNat, by omega⟩
      have e1 : i3 k - 97 = i3 i := by rw [i3_lit, i3_sub]; exact congrArg i3 (by omega)
      have e2 : (k - 97).toNat = i := by omega
      rw [e1]
      obtain ⟨a1, a2, a3, a4⟩ := rrecall (show i < 15 by omega) hd ve
      have vi := ve.1 i (by omega)
      simp only [mm (Prow_r a2)]
      generalize tm_recall s (i3 i) = t at *
      by_cases g0 : mdl = 0
      · rw [if_neg (fun q => q g0)]
        obtain ⟨b1, b2, b3⟩ := rpush a3 vi a4 ve
        refine ⟨⟨fun _ => ⟨fun q => absurd q g2, fun _ => ⟨fun q => absurd q (by omega), fun _ => ⟨a1, fun q => absurd g0 q, fun _ => b1⟩⟩⟩, fun q => absurd g1 q⟩, ?_⟩
        refine tail (fr_trans (Prow_r a2) b2) b3 (vD_bring ve vi) ?_ g1
        unfold aNumD
        rw [if_neg (by omega), if_pos (by omega), e2, g0]
      · rw [if_pos g0]
        obtain ⟨b1, b2, b3⟩ := rsetF (show 10 < 15 by omega) a3 vi a4 ve
        refine ⟨⟨fun _ => ⟨fun q => absurd q g2, fun _ => ⟨fun q => absurd q (by omega), fun _ => ⟨a1, fun _ => b1, fun q => absurd q g0⟩⟩⟩, fun q => absurd g1 q⟩, ?_⟩
        have fb := fr_trans (Prow_r a2) (Pn_r (by omega) b2)
        have hK : rK mdl _ (sN (aEnd D) 10 (dN (aEnd D) i)) := ⟨b3, vD_sN ve vi, (fb.1 230 4 (by unfold Pr; omega)).1.trans h.2.2.1, hm⟩
        have r := rcommon_203 hk0 hK
        refine ⟨fr_trans fb r.1, r.2.1, fun _ => ?_⟩
        have := r.2.2 rfl
        dsimp only at this
        rw [if_neg g0] at this
        unfold aNum aNumD aBring
        rw [if_neg g0, if_neg (by omega), if_neg (by omega), if_pos (by omega), if_pos (show mdl = 1 by omega), e2]
        exact this
  · rw [if_neg g1, if_neg (show ¬ 116 < k by omega), if_neg (show ¬ (k = 81 ∨ k = 83 ∨ k = 73) by omega)]
    obtain ⟨i, hi⟩ : ∃ i : Nat, k = 107 + i := ⟨(k - 107).toNat, by omega⟩
    have e1 : i3 k - 107 = i3 i := by rw [i3_lit, i3_sub]; exact congrArg i3 (by omega)
    have e2 : (k - 107).toNat = i := by omega
    rw [e1]
    obtain ⟨a1, a2, a3⟩ := rmv (show i < 15 by omega) (show 10 < 15 by omega) hd ve
    have a1' : tm_move_ok s 10 (i3 i) := a1
    have a2' : fr (Pn i) s (tm_move s 10 (i3 i)) := a2
    have a3' : rD (tm_move s 10 (i3 i)) 0 (aMv (aEnd D) i 10) := a3
    have fa := Pn_r (show i < 23 by omega) a2'
    simp only [mm fa]
    generalize tm_move s 10 (i3 i) = t at *
    have vu := vD_mv (i := i) ve (show 10 < 15 by omega)
    have hcl : aCl k = false := by unfold aCl; rw [← Bool.not_eq_true]; simp; omega
    refine ⟨⟨fun q => absurd q g1, fun _ => ⟨fun q => absurd q (by omega), fun _ => a1'⟩⟩, ?_⟩
    unfold aNum aNumD
    rw [if_pos (show 107 ≤ k by omega), if_pos (show 107 ≤ k by omega), e2, hcl]
    by_cases g0 : mdl = 0
    · rw [if_neg (fun q => q g0), if_pos g0]
      exact ⟨fr_sI fa (by unfold Pr; omega), rfl, fun _ => rD_lift (b := true) a3' vu⟩
    · rw [if_pos g0, if_neg g0]
      have hl : gI t 231 56 = zb (dLi (aMv (aEnd D) i 10)) := a3'.2.2.2.2.1
      rw [hl]
      exact ⟨fr_sI fa (by unfold Pr; omega), rfl, fun _ => rD_lift (b := dLi (aMv (aEnd D) i 10)) a3' vu⟩
