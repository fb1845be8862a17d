/-! HALVING, at the reference -/
theorem rsame {s : xS} {j k : Nat} {n m : Int × Int} (hj : j < 5) (hk : k < 5) (hn : rW s j n) (hm : rW s k m) (vn : vN n) (vm : vN m) : tm_isSame_ok s (i3 j) (i3 k) ∧ tm_isSame s (i3 j) (i3 k) = decide (n = m) := by
  unfold tm_isSame_ok tm_isSame
  have i1 : vp_in (i3 j) 5 := by rw [i3_inN (by omega)]; omega
  have i2 : vp_in (i3 k) 5 := by rw [i3_inN (by omega)]; omega
  rw [i3_natN (show j < 2147483648 by omega), i3_natN (show k < 2147483648 by omega)]
  have b1 := vN_b vn
  have b2 := vN_b vm
  have c1 : (gI s 235 j = gI s 235 k) = (n.1.sign = m.1.sign) := by rw [hn.1, hm.1]; exact i3_sg
  have c2 : (gJ s 236 j = gJ s 236 k) = (n.1.natAbs = m.1.natAbs) := by rw [hn.2.1, hm.2.1]; exact j6_eqN (by omega) (by omega)
  have c3 : (gI s 237 j = gI s 237 k) = (n.2 = m.2) := by rw [hn.2.2, hm.2.2, i3_eq (by omega)]
  simp only [c1, c2, c3]
  refine ⟨⟨i1, i2, fun _ => ⟨i1, i2, fun _ => ⟨i1, i2⟩⟩⟩, ?_⟩
  by_cases g1 : n.1.sign = m.1.sign
  · rw [if_neg (show ¬ ¬ _ from fun q => q g1)]
    by_cases g2 : n.1.natAbs = m.1.natAbs
    · rw [if_neg (show ¬ ¬ _ from fun q => q g2)]
      apply decide_eq_decide.mpr
      constructor
      · intro h3
        refine Prod.ext ?_ h3
        have e1 := sgn_abs n.1
        have e2 := sgn_abs m.1
        rw [e1, e2, g1, g2]
      · intro h; rw [h]
    · rw [if_pos (show ¬ _ from g2)]
      symm; apply decide_eq_false; intro h; exact g2 (by rw [h])
  · rw [if_pos (show ¬ _ from g1)]
    symm; apply decide_eq_false; intro h; exact g1 (by rw [h])
theorem rsmall {s : xS} {n m : Int × Int} (hn : rW s 4 n) (hm : rW s 3 m) (vn : vN n) (vm : vN m) : (!decide (0 ≤ tm_compare (gJ s 236 4) (gI s 237 4) (gJ s 236 3) (gI s 237 3))) = aSm n m := by
  have b1 := vN_b vn
  have b2 := vN_b vm
  rw [hn.2.1, hn.2.2, hm.2.1, hm.2.2]
  have cl := compare_lt (d1 := n.1.natAbs) (d2 := m.1.natAbs) b1.2 b2.2 b1.1 b2.1
  have c : (0 ≤ tm_compare (j6 n.1.natAbs) (i3 n.2) (j6 m.1.natAbs) (i3 m.2)) = (¬ (n.2 < m.2 ∨ (n.2 = m.2 ∧ n.1.natAbs < m.1.natAbs))) := by
    rw [← cl]; exact propext Int32.not_lt.symm
  simp only [c]
  unfold aSm
  by_cases g : n.2 = m.2
  · rw [if_pos g]
    by_cases g2 : n.1.natAbs < m.1.natAbs
    · rw [decide_eq_true g2, decide_eq_false (show ¬ ¬ _ from fun q => q (Or.inr ⟨g, g2⟩))]; rfl
    · rw [decide_eq_false g2, decide_eq_true (show ¬ _ from fun q => by omega)]; rfl
  · rw [if_neg g]
    by_cases g2 : n.2 < m.2
    · rw [decide_eq_true g2, decide_eq_false (show ¬ ¬ _ from fun q => q (Or.inl g2))]; rfl
    · rw [decide_eq_false g2, decide_eq_true (show ¬ _ from fun q => by omega)]; rfl
/-- what halving starts from, and what the arithmetic keeps of it -/
def rHv (s : xS) (A : aA) (w : Nat → Int × Int) : Prop := RVy s A ∧ RVh s A ∧ gI s 230 9 = i3 2 ∧ rD s 0 (qD A) ∧ gI s 230 13 = i3 (qV A) ∧ gI s 230 11 = i3 (qLb A) ∧ rW s 0 (w 0) ∧ rW s 1 (w 1) ∧ rW s 3 (w 3) ∧ rW s 4 (w 4)
theorem rHv_fr {P : Nat → Nat → Prop} {s t : xS} {A : aA} {w : Nat → Int × Int} (hA : VA A) (f : fr P s t) (h : ∀ b j, P b j → b = 242 ∨ (b = 230 ∧ 29 ≤ j ∧ j ≤ 31) ∨ ((235 ≤ b ∧ b ≤ 237) ∧ j = 2)) (q : rHv s A w) : rHv t A w := by
  have n : ∀ b j, ¬ (b = 242 ∨ (b = 230 ∧ 29 ≤ j ∧ j ≤ 31) ∨ ((235 ≤ b ∧ b ≤ 237) ∧ j = 2)) → ¬ P b j := fun b j w p => w (h b j p)
  obtain ⟨q1, q2, q3, q4, q5, q6, q7, q8, q9, q10⟩ := q
  have rw' : ∀ {k : Nat} {p : Int × Int}, k ≠ 2 → rW s k p → rW t k p := fun hk hp => ⟨(f.1 _ _ (n _ _ (by omega))).1.trans hp.1, (f.1 _ _ (n _ _ (by omega))).2.trans hp.2.1, (f.1 _ _ (n _ _ (by omega))).1.trans hp.2.2⟩
  exact ⟨RVy_fr f (fun b j w => n _ _ (by omega)) q1, RVh_fr f (fun j w => n _ _ (by omega)) (fun j w => n _ _ (by omega)) (n _ _ (by omega)) hA.2.1 q2, (f.1 _ _ (n _ _ (by omega))).1.trans q3, rD_fr f (fun j _ _ => n _ _ (by omega)) (fun j _ _ => n _ _ (by omega)) hA.1.1 q4, (f.1 _ _ (n _ _ (by omega))).1.trans q5, (f.1 _ _ (n _ _ (by omega))).1.trans q6, rw' (by omega) q7, rw' (by omega) q8, rw' (by omega) q9, rw' (by omega) q10⟩
theorem Prow_pre {s t : xS} (f : fr Prow s t) : fr Pre s t := fr_mono f (fun b j q => by unfold Prow at q; unfold Pre; omega)
theorem rhalve {s : xS} {A : aA} {w : Nat → Int × Int} (hA : VA A) (hr : qR A = 2) (hV2 : 2 ≤ qV A) (h : rHv s A w) (v0 : vN (w 0)) (v1 : vN (w 1)) (v3 : vN (w 3)) (v4 : vN (w 4)) : tm_halve_ok s ∧ fr Pre s (tm_halve s) ∧ RV (tm_halve s) (aHlv A w) := by
  have hv := hA.1.1
  have hV := hA.2.2.2.2.1.1
  obtain ⟨kk1, kk2, kk3, kk4, _⟩ := hA.2.2.2.2.1.2 hr
  have s1 := aSum_v (w 1) (neg2 (w 0))
  have s2 := aDiv_v (aSum (w 1) (neg2 (w 0))).2 aTwo
  have s3 := aSum_v (w 0) (aDiv (aSum (w 1) (neg2 (w 0))).2 aTwo).2
  have kp : ∀ {x y : xS}, rHv x A w → fr Prow x y → rHv y A w := fun hx f => rHv_fr hA f (fun b j q => by unfold Prow at q; omega) hx
  have fail : ∀ {x : xS} {c : Int}, rHv x A w → fr Pre s x → tm_fail_ok x (i3 c) ∧ fr Pre s (tm_fail x (i3 c)) ∧ RV (tm_fail x (i3 c)) (aFl A c) := by
    intro x c hx fx
    obtain ⟨y1, y2, y3⟩ := rfl2 (c := c) hA hr hx.1 hx.2.1 hx.2.2.1 hx.2.2.2.2.1
    exact ⟨y1, fr_trans fx y2, y3⟩
  have bad : ∀ {x : xS} {c : Int}, 1 ≤ c → c ≤ 9 → rHv x A w → fr Pre s x → tm_halve_114_ok x (i3 c) ∧ fr Pre s (tm_halve_114 x (i3 c)) ∧ RV (tm_halve_114 x (i3 c)) (aFl A c) := by
    intro x c c1 c2 hx fx
    rw [tm_halve_114_eq]
    unfold tm_halve_114_ok tm_halve_114_d
    have n0 : ¬ i3 c ≤ 0 := by rw [i3_lit, i3_le (by omega)]; omega
    rw [if_neg n0]
    obtain ⟨y1, y2, y3⟩ := fail (c := c) hx fx
    exact ⟨⟨fun q => absurd q n0, fun _ => y1⟩, y2, y3⟩
  -- the middle is there
  have mid : ∀ {x : xS} {m : Int × Int}, vN m → rF x m → rHv x A w → fr Pre s x → tm_halve_114_ok x 0 ∧ fr Pre s (tm_halve_114 x 0) ∧ RV (tm_halve_114 x 0) (if m = w 0 ∨ m = w 1 then (if aSm (w 4) (w 3) = true then aFin1 A (aFnd (w 1) (w 4) (w 0) (w 1) (qD A)) else aFin1 A (aFnd (w 0) (w 3) (w 0) (w 1) (qD A))) else if qV A = 100 then aFl A 9 else aTk A m (updA w 2 m)) := by
    intro x m vm hm hx fx
    rw [tm_halve_114_eq]
    unfold tm_halve_114_ok tm_halve_114_d
    have p0 : (0 : Int32) ≤ 0 := by decide
    rw [if_pos p0]
    have hsg := sgn_rng m.1
    have hz : (gI x 230 29 = 0) = (m.1 = 0) := by rw [hm.1]; exact i3_sg0
    have e1 : (if gI x 230 29 = 0 then (0 : Int64) else gJ x 230 30) = j6 m.1.natAbs := by
      simp only [hz]
      by_cases g : m.1 = 0
      · rw [if_pos g, g]; rfl
      · rw [if_neg g]; exact (hm.2 g).1
    have e2 : (if gI x 230 29 = 0 then (0 : Int32) else gI x 230 31) = i3 m.2 := by
      simp only [hz]
      by_cases g : m.1 = 0
      · rw [if_pos g, vN_z vm g]; rfl
      · rw [if_neg g]; exact (hm.2 g).2
    rw [e1, e2, hm.1]
    have f2 : fr (fun b j => (235 ≤ b ∧ b ≤ 237) ∧ j = 2) x (sI (sJ (sI x 235 2 (i3 m.1.sign)) 236 2 (j6 m.1.natAbs)) 237 2 (i3 m.2)) := fr_sI (fr_sJ (fr_sI (fr_refl ..) ⟨by omega, rfl⟩) ⟨by omega, rfl⟩) ⟨by omega, rfl⟩
    have w2 : rW (sI (sJ (sI x 235 2 (i3 m.1.sign)) 236 2 (j6 m.1.natAbs)) 237 2 (i3 m.2)) 2 m := ⟨by rw [gI_sI, if_neg (by omega), gI_sJ, gI_sI, if_pos ⟨rfl, rfl⟩], by rw [gJ_sI, gJ_sJ, if_pos ⟨rfl, rfl⟩], by rw [gI_sI, if_pos ⟨rfl, rfl⟩]⟩
    have hy := rHv_fr hA f2 (fun b j q => Or.inr (Or.inr q)) hx
    have e13 : gI x 230 13 = gI (sI (sJ (sI x 235 2 (i3 m.1.sign)) 236 2 (j6 m.1.natAbs)) 237 2 (i3 m.2)) 230 13 := (f2.1 _ _ (by omega)).1.symm
    rw [e13]
    have fy : fr Pre s (sI (sJ (sI x 235 2 (i3 m.1.sign)) 236 2 (j6 m.1.natAbs)) 237 2 (i3 m.2)) := fr_trans fx (fr_mono f2 (fun b j q => by unfold Pre; omega))
    generalize sI (sJ (sI x 235 2 (i3 m.1.sign)) 236 2 (j6 m.1.natAbs)) 237 2 (i3 m.2) = y at *
    obtain ⟨y1, y2, y3, y4, y5, y6, y7, y8, y9, y10⟩ := hy
    obtain ⟨a1, a2⟩ := rsame (j := 2) (k := 0) (by omega) (by omega) w2 y7 vm v0
    obtain ⟨b1, b2⟩ := rsame (j := 2) (k := 1) (by omega) (by omega) w2 y8 vm v1
    have a1' : tm_isSame_ok y 2 0 := a1
    have a2' : tm_isSame y 2 0 = decide (m = w 0) := a2
    have b1' : tm_isSame_ok y 2 1 := b1
    have b2' : tm_isSame y 2 1 = decide (m = w 1) := b2
    rw [a2', b2']
    have found : tm_halve_195_ok y ∧ fr Pre s (tm_halve_195 y) ∧ RV (tm_halve_195 y) (if aSm (w 4) (w 3) = true then aFin1 A (aFnd (w 1) (w 4) (w 0) (w 1) (qD A)) else aFin1 A (aFnd (w 0) (w 3) (w 0) (w 1) (qD A))) := by
      rw [tm_halve_195_eq]
      unfold tm_halve_195_ok tm_halve_195_d
      rw [rsmall y10 y9 v4 v3, tm_halve_230_eq]
      unfold tm_halve_230_ok tm_halve_230_d
      have go : ∀ {k : Nat} {e v : Int × Int}, k < 2 → rW y k e → vN e → rW y (3 + k) v → vN v → (tm_tell_ok y (i3 (3 + k : Nat)) 10 ∧ tm_find_ok (tm_tell y (i3 (3 + k : Nat)) 10) (i3 k) 0 1) ∧ fr Pre s (tm_find (tm_tell y (i3 (3 + k : Nat)) 10) (i3 k) 0 1) ∧ RV (tm_find (tm_tell y (i3 (3 + k : Nat)) 10) (i3 k) 0 1) (aFin1 A (aFnd e v (w 0) (w 1) (qD A))) := by
        intro k e v hk he ve hvv vv
        obtain ⟨t1, t2, t3⟩ := rtell (k := 3 + k) (i := 10) (by omega) (by omega) hvv vv hv y4
        have t1' : tm_tell_ok y (i3 (3 + k : Nat)) 10 := t1
        have t2' : fr (Pn 10) y (tm_tell y (i3 (3 + k : Nat)) 10) := t2
        have t3' : rD (tm_tell y (i3 (3 + k : Nat)) 10) 0 (sN (qD A) 10 v) := t3
        have tr : ∀ {m : Nat} {p : Int × Int}, rW y m p → rW (tm_tell y (i3 (3 + k : Nat)) 10) m p := fun w => rW_fr t2' (fun b j q => by unfold Pn; omega) w
        have he' := tr he
        have w0' := tr y7
        have w1' := tr y8
        have hK := hA.2.1.1
        obtain ⟨u1, u2, u3⟩ := rfnd (k := k) (a := 0) (b := 1) (D := sN (qD A) 10 v) (v := v) hA hr (by omega) (by omega) (by omega) (RVy_fr t2' (fun b j q => by unfold Pn; omega) y1) (RVh_fr t2' (fun j q => by unfold Pn; omega) (fun j q => by unfold Pn; omega) (by unfold Pn; omega) hA.2.1 y2) t3' (vD_sN hv vv) rfl (fun j h1 h2 => by show (if j = 10 then v else (qD A).1 j) = _; rw [if_neg h1]; rfl) rfl vv ((t2'.1 _ _ (by unfold Pn; omega)).1.trans y5) he' ve w0' v0 w1' v1
        exact ⟨⟨t1', u1⟩, fr_trans fy (fr_trans (fr_mono t2' (fun b j q => by unfold Pn at q; unfold Pre; omega)) u2), u3⟩
      cases gs : aSm (w 4) (w 3)
      · rw [if_neg (show ¬ false = true by decide)]
        exact go (k := 0) (by omega) y7 v0 y9 v3
      · rw [if_pos (show true = true from rfl)]
        exact go (k := 1) (by omega) y8 v1 y10 v4
    by_cases g4 : m = w 0
    · rw [decide_eq_true g4, if_pos (show true = true from rfl), if_pos (Or.inl g4)]
      exact ⟨⟨fun _ => ⟨a1', fun _ => found.1, fun q => (by cases q)⟩, fun q => absurd p0 q⟩, found.2⟩
    · rw [decide_eq_false g4, if_neg (show ¬ false = true by decide)]
      by_cases g5 : m = w 1
      · rw [decide_eq_true g5, if_neg (show ¬ true = false by decide), if_pos (Or.inr g5)]
        exact ⟨⟨fun _ => ⟨a1', fun q => (by cases q), fun _ => ⟨b1', fun q => (by cases q), fun _ => found.1⟩⟩, fun q => absurd p0 q⟩, found.2⟩
      · rw [decide_eq_false g5, if_pos (show false = false from rfl), if_neg (show ¬ (m = w 0 ∨ m = w 1) from fun q => by rcases q with q | q; exact g4 q; exact g5 q)]
        have c100 : (gI y 230 13 = 100) = (qV A = 100) := by rw [y5, i3_lit, i3_eq (by omega)]; apply propext; omega
        simp only [c100]
        by_cases g6 : qV A = 100
        · rw [if_neg (show ¬ ¬ _ from fun q => q g6), if_pos g6]
          obtain ⟨u1, u2, u3⟩ := fail (c := 9) ⟨y1, y2, y3, y4, y5, y6, y7, y8, y9, y10⟩ fy
          exact ⟨⟨fun _ => ⟨a1', fun q => (by cases q), fun _ => ⟨b1', fun _ => ⟨fun q => absurd g6 q, fun _ => u1⟩, fun q => (by cases q)⟩⟩, fun q => absurd p0 q⟩, u2, u3⟩
        · rw [if_pos (show ¬ _ from g6), if_neg g6]
          obtain ⟨u1, u2, u3⟩ := rtk (k := 2) (n := m) (w := updA w 2 m) hv hA.2.1 hA.2.2.1 kk3 hr (by omega) y1 y2 y3 y4 y5 y6 vm w2 y7 y8 (fun _ => w2) (fun _ => y9) (fun _ => y10) (by rw [if_neg (show ¬ qV A = 0 by omega), if_neg (show ¬ qV A = 1 by omega)]; rfl)
          exact ⟨⟨fun _ => ⟨a1', fun q => (by cases q), fun _ => ⟨b1', fun _ => ⟨fun _ => u1, fun q => absurd q g6⟩, fun q => (by cases q)⟩⟩, fun q => absurd p0 q⟩, fr_trans fy u2, u3⟩
  rw [tm_halve_eq]
  unfold tm_halve_ok tm_halve_d
  rw [tm_halve_71_eq]
  unfold tm_halve_71_ok tm_halve_71_d
  obtain ⟨h1, h2, h3, h4, h5, h6, h7, h8, h9, h10⟩ := h
  have hH : rHv s A w := ⟨h1, h2, h3, h4, h5, h6, h7, h8, h9, h10⟩
  obtain ⟨o1, o2, o3, o4⟩ := rsum s (rA_of (rW_rB h8)) (rA_of (rB_neg (rW_rB h7))) v1 (neg2_v v0)
  have z1 : ((tm_add s (gI s 235 1) (gJ s 236 1) (gI s 237 1) (-(gI s 235 0)) (gJ s 236 0) (gI s 237 0)).1 ≤ 0) = ((aSum (w 1) (neg2 (w 0))).1 = 0) := by rw [o3, i3_lit, i3_le (by omega)]; apply propext; omega
  simp only [z1]
  unfold aHlv
  have hH1 := kp hH o2
  generalize tm_add s (gI s 235 1) (gJ s 236 1) (gI s 237 1) (-(gI s 235 0)) (gJ s 236 0) (gI s 237 0) = q1 at *
  have f1 := Prow_pre o2
  by_cases g1 : (aSum (w 1) (neg2 (w 0))).1 = 0
  · rw [if_pos g1, if_pos g1]
    have F1 : rA (gI q1.2 230 29) (gJ q1.2 230 30) (gI q1.2 230 31) (aSum (w 1) (neg2 (w 0))).2 := o4 g1
    have T2 : rA 1 200000000000 0 aTwo := ⟨rfl, fun _ => ⟨rfl, rfl⟩⟩
    obtain ⟨p1, p2, p3, p4⟩ := rdiv q1.2 F1 T2 s1.1 vN_2
    have z2 : ((tm_divide q1.2 (gI q1.2 230 29) (gJ q1.2 230 30) (gI q1.2 230 31) 1 200000000000 0).1 ≤ 0) = ((aDiv (aSum (w 1) (neg2 (w 0))).2 aTwo).1 = 0) := by rw [p3, i3_lit, i3_le (by omega)]; apply propext; omega
    simp only [z2]
    have hH2 := kp hH1 p2
    generalize tm_divide q1.2 (gI q1.2 230 29) (gJ q1.2 230 30) (gI q1.2 230 31) 1 200000000000 0 = q2 at *
    have f2 := fr_trans f1 (Prow_pre p2)
    by_cases g2 : (aDiv (aSum (w 1) (neg2 (w 0))).2 aTwo).1 = 0
    · rw [if_pos g2, if_pos g2]
      have F2 : rA (gI q2.2 230 29) (gJ q2.2 230 30) (gI q2.2 230 31) (aDiv (aSum (w 1) (neg2 (w 0))).2 aTwo).2 := p4 g2
      obtain ⟨r1, r2, r3, r4⟩ := rsum q2.2 (rA_of (rW_rB hH2.2.2.2.2.2.2.1)) F2 v0 s2.1
      have hH3 := kp hH2 r2
      have f3 := fr_trans f2 (Prow_pre r2)
      generalize tm_add q2.2 (gI q2.2 235 0) (gJ q2.2 236 0) (gI q2.2 237 0) (gI q2.2 230 29) (gJ q2.2 230 30) (gI q2.2 230 31) = q3 at *
      by_cases g3 : (aSum (w 0) (aDiv (aSum (w 1) (neg2 (w 0))).2 aTwo).2).1 = 0
      · rw [if_pos g3]
        have e0 : q3.1 = 0 := by rw [r3, g3]; rfl
        rw [e0]
        obtain ⟨u1, u2, u3⟩ := mid s3.1 (r4 g3) hH3 f3
        exact ⟨⟨o1, fun _ => ⟨p1, fun _ => ⟨r1, u1⟩, fun q => absurd g2 q⟩, fun q => absurd g1 q⟩, u2, u3⟩
      · rw [if_neg g3]
        rw [r3]
        obtain ⟨u1, u2, u3⟩ := bad (c := (aSum (w 0) (aDiv (aSum (w 1) (neg2 (w 0))).2 aTwo).2).1) (by omega) (by omega) hH3 f3
        exact ⟨⟨o1, fun _ => ⟨p1, fun _ => ⟨r1, u1⟩, fun q => absurd g2 q⟩, fun q => absurd g1 q⟩, u2, u3⟩
    · rw [if_neg g2, if_neg g2]
      rw [p3]
      obtain ⟨u1, u2, u3⟩ := bad (c := (aDiv (aSum (w 1) (neg2 (w 0))).2 aTwo).1) (by omega) (by omega) hH2 f2
      exact ⟨⟨o1, fun _ => ⟨p1, fun q => absurd q g2, fun _ => u1⟩, fun q => absurd g1 q⟩, u2, u3⟩
  · rw [if_neg g1, if_neg g1, if_neg g1]
    rw [o3]
    obtain ⟨u1, u2, u3⟩ := bad (c := (aSum (w 1) (neg2 (w 0))).1) (by omega) (by omega) hH1 f1
    exact ⟨⟨o1, fun q => absurd q g1, fun _ => ⟨fun q => absurd q g1, fun _ => u1⟩⟩, u2, u3⟩
