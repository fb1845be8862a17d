/-! THE CLASS'S KEYS -/
def Pc (b _ : Nat) : Prop := 2 ≤ b ∧ b ≤ 34 ∧ b ≠ 33
def cRes (s : xS) (q : Int32 × xS) (r : Int × aD) : Prop := fr Pc s q.2 ∧ q.1 = i3 r.1 ∧ cD q.2 2 r.2
def cK (mdl : Int) (s : xS) (D : aD) : Prop := cD s 2 D ∧ vD D ∧ gI s 1 2 = i3 mdl ∧ cN s 33 aOne ∧ (mdl = 0 ∨ mdl = 1)
theorem cK_fr {mdl : Int} {s t : xS} {D D' : aD} (h : cK mdl s D) (f : fr Pc s t) (hd : cD t 2 D') (hv : vD D') : cK mdl t D' :=
  ⟨hd, hv, (f.1 1 2 (by unfold Pc; omega)).1.trans h.2.2.1, cN_fr f (by unfold Pc; omega) (by unfold Pc; omega) h.2.2.2.1, h.2.2.2.2⟩
theorem P31_c {s t : xS} (h : fr P31 s t) : fr Pc s t := fr_mono h (fun b j q => by unfold P31 at q; unfold Pc; omega)
theorem put_c {s : xS} {a : Nat} {p : Int × Int} (h : 2 ≤ a ∧ a ≤ 34 ∧ a ≠ 33) : fr Pc s (cput1 s a p) := fr_mono (cput1_fr s a p) (fun b j q => by unfold Pc; omega)
theorem cget {s : xS} {D : aD} (h : cD s 2 D) {i : Nat} (hi : i < 15) : cN s (8 + i) (dN D i) := by
  have := h.1 i hi
  rwa [show 2 + 6 + i = 8 + i by omega] at this
theorem cput_num {s : xS} {i : Nat} {D : aD} {p : Int × Int} (hi : i < 15) (h : cD s 2 D) (hv : vD D) : cD (cput1 s (8 + i) p) 2 (sN D i p) := by
  have := cD_num (p := p) hi h hv.2.2.2.1
  rwa [show 2 + 6 + i = 8 + i by omega] at this
theorem cmv {s : xS} {i j : Nat} {D : aD} (hi : i < 15) (hj : j < 15) (h : cD s 2 D) (hv : vD D) : fr Pc s (de_set s (8 + i) (8 + j)) ∧ cD (de_set s (8 + i) (8 + j)) 2 (aMv D i j) := by
  rw [de_set_put (cget h hj)]
  exact ⟨put_c (by omega), cput_num hi h hv⟩
theorem cfrom {s : xS} {i b : Nat} {D : aD} {p : Int × Int} (hi : i < 15) (hp : cN s b p) (h : cD s 2 D) (hv : vD D) : fr Pc s (de_set s (8 + i) b) ∧ cD (de_set s (8 + i) b) 2 (sN D i p) := by
  rw [de_set_put hp]
  exact ⟨put_c (by omega), cput_num hi h hv⟩
theorem cend {s : xS} {D : aD} (h : cD s 2 D) (hv : vD D) : fr Pc s (ca_endEntry s) ∧ cD (ca_endEntry s) 2 (aEnd D) := by
  rw [ca_endEntry_eq]
  unfold ca_endEntry_d aEnd
  have ho : gI s 7 0 = zb (dOn D) := h.2.2.2.2.2.1
  rw [ho]
  cases dOn D
  · rw [if_pos (by rfl)]; exact ⟨fr_refl .., h⟩
  · rw [if_neg (by decide)]
    exact ⟨fr_sI (fr_sI (fr_refl ..) (by unfold Pc; omega)) (by unfold Pc; omega), cD_lift (b := true) (cD_shut h hv.2.2.2.1) hv.2.2.2.1⟩
theorem craise {s : xS} {D : aD} (h : cD s 2 D) (hv : vD D) : fr (fun b j => Pc b j ∧ 19 ≤ b ∧ b ≤ 21) s (dk_raise s) ∧ cD (dk_raise s) 2 (aRaise D) := by
  rw [dk_raise_eq]
  unfold dk_raise_d aRaise
  have r1 := cput_num (p := dN D 12) (show 13 < 15 by omega) h hv
  have v1 : vD (aMv D 13 12) := vD_mv hv (by omega)
  have r2 := cput_num (p := dN (aMv D 13 12) 11) (show 12 < 15 by omega) r1 v1
  have v2 : vD (aMv (aMv D 13 12) 12 11) := vD_mv v1 (by omega)
  have r3 := cput_num (p := dN (aMv (aMv D 13 12) 12 11) 10) (show 11 < 15 by omega) r2 v2
  have q1 : de_set s 21 20 = cput1 s (8 + 13) (dN D 12) := de_set_put (cget h (show 12 < 15 by omega))
  have q2 : de_set (cput1 s (8 + 13) (dN D 12)) 20 19 = cput1 (cput1 s (8 + 13) (dN D 12)) (8 + 12) (dN (aMv D 13 12) 11) := de_set_put (cget r1 (show 11 < 15 by omega))
  have q3 : de_set (cput1 (cput1 s (8 + 13) (dN D 12)) (8 + 12) (dN (aMv D 13 12) 11)) 19 18 = cput1 (cput1 (cput1 s (8 + 13) (dN D 12)) (8 + 12) (dN (aMv D 13 12) 11)) (8 + 11) (dN (aMv (aMv D 13 12) 12 11) 10) := de_set_put (cget r2 (show 10 < 15 by omega))
  rw [q1, q2, q3]
  refine ⟨?_, r3⟩
  refine fr_trans (fr_trans (fr_mono (cput1_fr _ _ _) ?_) (fr_mono (cput1_fr _ _ _) ?_)) (fr_mono (cput1_fr _ _ _) ?_) <;> (intro b j q; unfold Pc; omega)
theorem raise_c {s t : xS} (h : fr (fun b j => Pc b j ∧ 19 ≤ b ∧ b ≤ 21) s t) : fr Pc s t := fr_mono h (fun b j q => q.1)
theorem cbring {s : xS} {D : aD} {mdl : Int} {a : Nat} {p : Int × Int} (h : cK mdl s D) (hp : cN s a p) (ha : a ≠ 5 ∧ ¬ (19 ≤ a ∧ a ≤ 21)) : fr Pc s (ca_bring s a) ∧ cD (ca_bring s a) 2 (aBring mdl p D) := by
  rw [ca_bring_eq]
  unfold ca_bring_d aBring
  rw [ca_bring_39_eq]
  unfold ca_bring_39_d
  obtain ⟨h1, h2, h3, h4, h5⟩ := h
  have c1 : (gI s 1 2 = 1) = (mdl = 1) := by rw [h3, i3_lit, i3_eq (by omega)]
  have hl : gI s 2 9 = zb (dLi D) := h1.2.2.2.2.1
  simp only [c1]
  rw [hl]
  by_cases g : mdl = 1
  · rw [if_neg (fun q => q g), if_pos g]
    have f1 : fr (fun b j => b = 5 ∧ j = 2) s (sI s 5 2 2) := fr_sI (fr_refl ..) ⟨rfl, rfl⟩
    have r1 : cD (sI s 5 2 2) 2 (sP D 2) := cD_place (v := 2) h1 h2.2.2.2.1
    have hp1 : cN (sI s 5 2 2) a p := cN_fr f1 (by omega) (by omega) hp
    obtain ⟨q1, q2⟩ := cfrom (show 10 < 15 by omega) hp1 r1 (vD_sP h2 (by omega))
    exact ⟨fr_trans (fr_mono f1 (fun b j w => by unfold Pc; omega)) q1, q2⟩
  · rw [if_pos g, if_neg g]
    cases dLi D
    · rw [if_pos (by rfl)]
      exact cfrom (show 10 < 15 by omega) hp h1 h2
    · rw [if_neg (by decide)]
      obtain ⟨r1, r2⟩ := craise h1 h2
      obtain ⟨q1, q2⟩ := cfrom (show 10 < 15 by omega) (cN_fr r1 (by omega) (by omega) hp) r2 (vD_raise h2)
      exact ⟨fr_trans (raise_c r1) q1, q2⟩
theorem cnumD {s : xS} {D : aD} {mdl k : Int} (hk : (97 ≤ k ∧ k ≤ 116) ∨ k = 67 ∨ k = 66 ∨ k = 78) (h : cK mdl s D) : ca_keyNumber_ok s (i3 k) ∧ fr Pc s (ca_keyNumber s (i3 k)) ∧ cD (ca_keyNumber s (i3 k)) 2 (aNum mdl k D) := by
  have he := cend h.1 h.2.1
  have ve := vD_end h.2.1
  have hK : cK mdl (ca_endEntry s) (aEnd D) := cK_fr h he.1 he.2 ve
  have vn := vD_numD (mdl := mdl) (k := k) ve
  have b2 := vN_b (ve.1 10 (by omega))
  rw [ca_keyNumber_eq]
  unfold ca_keyNumber_ok ca_keyNumber_d
  have c1 : (i3 k < 107) = (k < 107) := by rw [i3_lit, i3_lt (by omega)]
  have c2 : (i3 k = 67) = (k = 67) := by rw [i3_lit, i3_eq (by omega)]
  have c3 : (i3 k = 66) = (k = 66) := by rw [i3_lit, i3_eq (by omega)]
  have c4 : te_isRecall (i3 k) = (decide (97 ≤ k) && decide (k ≤ 106)) := by
    unfold te_isRecall
    have d1 : (i3 k < 97) = (k < 97) := by rw [i3_lit, i3_lt (by omega)]
    have d2 : ((106 : Int32) < i3 k) = (106 < k) := by rw [i3_lit, i3_lt (by omega)]
    simp only [d1, d2]
    by_cases g : k < 97 <;> by_cases g2 : 106 < k <;> simp [g, g2] <;> omega
  simp only [c1, c2, c3, c4]
  have tail : ∀ {t : xS} {D1 : aD}, fr Pc s t → cD t 2 D1 → vD D1 → D1 = aNumD mdl k (aEnd D) → fr Pc s (ca_keyNumber_127 t (zb (!decide (k < 107))) (zb (decide (k = 67) || decide (k = 66)))) ∧ cD (ca_keyNumber_127 t (zb (!decide (k < 107))) (zb (decide (k = 67) || decide (k = 66)))) 2 (aNum mdl k D) := by
    intro t D1 f hd hv hD
    rw [ca_keyNumber_127_eq]
    unfold ca_keyNumber_127_d aNum
    have m1 : (gI t 1 2 = 0) = (mdl = 0) := by rw [(f.1 1 2 (by unfold Pc; omega)).1, h.2.2.1, i3_lit, i3_eq (by have := h.2.2.2.2; omega)]
    simp only [m1]
    rw [← hD]
    by_cases g : mdl = 0
    · rw [if_neg (fun q => q g), if_pos g]
      have e1 : zb (decide (zb (decide (k = 67) || decide (k = 66)) = 0)) = zb (!(aCl k)) := by
        unfold aCl
        generalize (decide (k = 67) || decide (k = 66)) = b
        cases b <;> rfl
      rw [e1]
      exact ⟨fr_sI f (by unfold Pc; omega), cD_lift hd hv.2.2.2.1⟩
    · rw [if_pos g, if_neg g]
      by_cases g2 : 107 ≤ k
      · rw [if_pos g2, decide_eq_false (show ¬ k < 107 by omega), if_pos (by decide)]
        exact ⟨f, hd⟩
      · rw [if_neg g2, decide_eq_true (show k < 107 by omega), if_neg (by decide)]
        exact ⟨fr_sI f (by unfold Pc; omega), cD_place (v := 2) hd hv.2.2.2.1⟩
  by_cases g1 : k < 107
  · have t1 : (!decide (k < 107)) = false := by rw [decide_eq_true g1]; rfl
    rw [if_pos t1]
    by_cases g2 : 97 ≤ k
    · have t2 : (decide (97 ≤ k) && decide (k ≤ 106)) = true := by rw [decide_eq_true g2, decide_eq_true (show k ≤ 106 by omega)]; rfl
      obtain ⟨i, hi⟩ : ∃ i : Nat, k = 97 + i := ⟨(k - 97).toNat, by omega⟩
      have e1 : i3 k - 97 = i3 i := by rw [i3_lit, i3_sub]; exact congrArg i3 (by omega)
      have e2 : (k - 97).toNat = i := by omega
      have hi9 : i ≤ 9 := by omega
      have e3 : xR0 3 i - 1 = 8 + i := by
        have : i = 0 ∨ i = 1 ∨ i = 2 ∨ i = 3 ∨ i = 4 ∨ i = 5 ∨ i = 6 ∨ i = 7 ∨ i = 8 ∨ i = 9 := by omega
        rcases this with w | w | w | w | w | w | w | w | w | w <;> subst w <;> rfl
      have e4 : xRok 3 i 5 := by
        have : i = 0 ∨ i = 1 ∨ i = 2 ∨ i = 3 ∨ i = 4 ∨ i = 5 ∨ i = 6 ∨ i = 7 ∨ i = 8 ∨ i = 9 := by omega
        rcases this with w | w | w | w | w | w | w | w | w | w <;> subst w <;> exact ⟨rfl, rfl⟩
      rw [t2, if_neg (by decide), e1, i3_natN (by omega), e3]
      refine ⟨⟨fun _ _ => ⟨by rw [i3_inN (by omega)]; omega, e4⟩, fun q => absurd (t1.symm.trans q) (by decide)⟩, ?_⟩
      obtain ⟨b1, b2⟩ := cbring hK (cget hK.1 (show i < 15 by omega)) (by omega)
      refine tail (fr_trans he.1 b1) b2 (vD_bring ve (ve.1 i (by omega))) ?_
      unfold aNumD
      rw [if_neg (by omega), if_pos g2, e2]
    · have t2 : (decide (97 ≤ k) && decide (k ≤ 106)) = false := by rw [decide_eq_false g2]; rfl
      rw [t2, if_pos rfl]
      refine ⟨⟨fun _ q => absurd q (by decide), fun q => absurd (t1.symm.trans q) (by decide)⟩, ?_⟩
      by_cases g3 : k = 67 ∨ k = 66
      · have t3 : (decide (k = 67) || decide (k = 66)) = true := by simp [g3]
        rw [if_neg (by rw [t3]; decide), de_clear_put]
        refine tail (fr_trans he.1 (put_c (by omega))) (cput_num (show 10 < 15 by omega) he.2 ve) (vD_sN ve vN_0) ?_
        unfold aNumD aCl
        rw [if_neg (by omega), if_neg g2, t3]; rfl
      · have t3 : (decide (k = 67) || decide (k = 66)) = false := by rw [← Bool.not_eq_true]; simp [g3]
        rw [if_pos t3]
        have hx := cget he.2 (show 10 < 15 by omega)
        have e5 : sJ (ca_endEntry s) 18 0 (-(gJ (ca_endEntry s) 18 0)) = sJ (ca_endEntry s) 18 0 (j6 (neg2 (dN (aEnd D) 10)).1) := by
          rw [show gJ (ca_endEntry s) 18 0 = j6 (dN (aEnd D) 10).1 from hx.1, j6_neg]; rfl
        rw [e5]
        refine tail (fr_sJ he.1 (by unfold Pc; omega)) (D1 := sN (aEnd D) 10 (neg2 (dN (aEnd D) 10))) ?_ (vD_sN ve (neg2_v (ve.1 10 (by omega)))) ?_
        · have f : fr (fun b j => b = 18 ∧ j = 0) (ca_endEntry s) (sJ (ca_endEntry s) 18 0 (j6 (neg2 (dN (aEnd D) 10)).1)) := fr_sJ (fr_refl ..) ⟨rfl, rfl⟩
          have h8 := ve.2.2.2.1
          obtain ⟨h1, h2, h3, ⟨h4, h4'⟩, h5, h6, h6', h7⟩ := he.2
          refine ⟨fun j hj => ?_, fun j hj h40 => ?_, fun j hj => (f.1 _ _ (by omega)).1.trans (h3 j hj), ⟨(f.1 _ _ (by omega)).1.trans h4, (f.1 _ _ (by omega)).1.trans h4'⟩, (f.1 _ _ (by omega)).1.trans h5, (f.1 _ _ (by omega)).1.trans h6, bo_fr f (fun j _ => by omega) h6', fun q => cE_fr f (fun j _ => by omega) (h7 q)⟩
          · show cN _ _ (if j = 10 then neg2 (dN (aEnd D) 10) else (aEnd D).1 j)
            by_cases g : j = 10
            · subst g
              rw [if_pos rfl]
              exact ⟨by rw [gJ_sJ, if_pos ⟨rfl, rfl⟩], (f.1 _ _ (by omega)).1.trans hx.2⟩
            · rw [if_neg g]; exact cN_fr f (by omega) (by omega) (h1 j hj)
          · have hj' : j < dS (aEnd D) := hj
            show cN _ _ (if 15 + j = 10 then neg2 (dN (aEnd D) 10) else (aEnd D).1 (15 + j))
            rw [if_neg (by omega)]
            exact cN_fr f (by omega) (by omega) (h2 j hj h40)
        · unfold aNumD aCl
          rw [if_neg (by omega), if_neg g2, t3]; rfl
  · have t1 : (!decide (k < 107)) = true := by rw [decide_eq_false g1]; rfl
    rw [if_neg (by rw [t1]; decide)]
    obtain ⟨i, hi⟩ : ∃ i : Nat, k = 107 + i := ⟨(k - 107).toNat, by omega⟩
    have e1 : i3 k - 107 = i3 i := by rw [i3_lit, i3_sub]; exact congrArg i3 (by omega)
    have e2 : (k - 107).toNat = i := by omega
    have hi9 : i ≤ 9 := by omega
    have e3 : xR0 3 i - 1 = 8 + i := by
      have : i = 0 ∨ i = 1 ∨ i = 2 ∨ i = 3 ∨ i = 4 ∨ i = 5 ∨ i = 6 ∨ i = 7 ∨ i = 8 ∨ i = 9 := by omega
      rcases this with w | w | w | w | w | w | w | w | w | w <;> subst w <;> rfl
    have e4 : xRok 3 i 5 := by
      have : i = 0 ∨ i = 1 ∨ i = 2 ∨ i = 3 ∨ i = 4 ∨ i = 5 ∨ i = 6 ∨ i = 7 ∨ i = 8 ∨ i = 9 := by omega
      rcases this with w | w | w | w | w | w | w | w | w | w <;> subst w <;> exact ⟨rfl, rfl⟩
    rw [e1, i3_natN (by omega), e3]
    refine ⟨⟨fun q => absurd (t1.symm.trans q) (by decide), fun _ => ⟨by rw [i3_inN (by omega)]; omega, e4⟩⟩, ?_⟩
    obtain ⟨b1, b2⟩ := cmv (show i < 15 by omega) (show 10 < 15 by omega) he.2 ve
    refine tail (fr_trans he.1 b1) b2 (vD_mv ve (by omega)) ?_
    unfold aNumD
    rw [if_pos (by omega), e2]
/-- an operation's answer, laid at 32 -/
theorem cres_32 {s s1 : xS} {D : aD} {q : Int × (Int × Int)} (f : fr P31 s s1) (h : cD s 2 D) (hv : vD D) : fr Pc s (cres s1 32 q).2 ∧ cD (cres s1 32 q).2 2 D ∧ (q.1 = 0 → cN (cres s1 32 q).2 32 q.2) := by
  have h1 : cD s1 2 D := cD_fr f (fun b j _ _ => by unfold P31; omega) h hv.2.2.2.1
  unfold cres
  dsimp only
  by_cases g : q.1 = 0
  · rw [if_pos g]
    exact ⟨fr_trans (P31_c f) (put_c (by omega)), cD_fr (cput1_fr s1 32 q.2) (fun b j _ _ => by omega) h1 hv.2.2.2.1, fun _ => cput1_cN ..⟩
  · rw [if_neg g]
    exact ⟨P31_c f, h1, fun q => absurd q g⟩
theorem cfn {s : xS} {D : aD} {mdl k : Int} (hk : k = 81 ∨ k = 83 ∨ k = 73) (h : cK mdl s D) : ca_workOutFunction_ok s (i3 k) ∧ ∃ s1, fr P31 s s1 ∧ ca_workOutFunction s (i3 k) = cres s1 32 (aFnq k D) := by
  rw [ca_workOutFunction_eq]
  unfold ca_workOutFunction_ok ca_workOutFunction_d aFnq
  have hx : cN s 18 (dN D 10) := cget h.1 (show 10 < 15 by omega)
  have vx := h.2.1.1 10 (by omega)
  have c1 : (i3 k = 81) = (k = 81) := by rw [i3_lit, i3_eq (by omega)]
  have c2 : (i3 k = 83) = (k = 83) := by rw [i3_lit, i3_eq (by omega)]
  simp only [c1, c2]
  by_cases g1 : k = 81
  · rw [if_neg (fun q => q g1), if_pos g1]
    obtain ⟨p1, p2⟩ := croot' s 18 32 (by omega) hx vx
    exact ⟨⟨fun q => absurd g1 q, fun _ => p1⟩, p2⟩
  · rw [if_pos g1, if_neg g1]
    by_cases g2 : k = 83
    · rw [if_neg (fun q => q g2), if_pos g2]
      obtain ⟨p1, p2⟩ := ccombine s (k := 42) 18 18 32 (by omega) (by omega) (by omega) hx hx vx vx
      have e : i3 42 = 42 := rfl
      rw [e] at p1 p2
      exact ⟨⟨fun _ => ⟨fun q => absurd g2 q, fun _ => p1⟩, fun q => absurd q g1⟩, p2⟩
    · rw [if_pos g2, if_neg g2]
      obtain ⟨p1, p2⟩ := ccombine s (k := 47) 33 18 32 (by omega) (by omega) (by omega) h.2.2.2.1 hx vN_1 vx
      have e : i3 47 = 47 := rfl
      rw [e] at p1 p2
      exact ⟨⟨fun _ => ⟨fun _ => p1, fun q => absurd q g2⟩, fun q => absurd q g1⟩, p2⟩
theorem ckeyFn {s : xS} {D : aD} {mdl : Int} {p : Int × Int} (h : cK mdl s D) (hp : cN s 32 p) : fr Pc s (ca_keyFunction s) ∧ cD (ca_keyFunction s) 2 (aFnD mdl p D) := by
  have he := cend h.1 h.2.1
  have ve := vD_end h.2.1
  have hK : cK mdl (ca_endEntry s) (aEnd D) := cK_fr h he.1 he.2 ve
  have hp1 : cN (ca_endEntry s) 32 p := by
    rw [ca_endEntry_eq]; unfold ca_endEntry_d
    split
    · exact hp
    · exact ⟨by rw [gJ_sI, gJ_sI]; exact hp.1, by rw [gI_sI, if_neg (by omega), gI_sI, if_neg (by omega)]; exact hp.2⟩
  rw [ca_keyFunction_eq]
  unfold ca_keyFunction_d aFnD
  rw [ca_keyFunction_50_eq]
  unfold ca_keyFunction_50_d
  have m1 : (gI (ca_endEntry s) 1 2 = 0) = (mdl = 0) := by rw [hK.2.2.1, i3_lit, i3_eq (by have := h.2.2.2.2; omega)]
  simp only [m1]
  by_cases g : mdl = 0
  · rw [if_neg (fun q => q g), if_pos g]
    obtain ⟨a1, a2⟩ := cmv (show 14 < 15 by omega) (show 10 < 15 by omega) he.2 ve
    have a3 := cD_lift (b := true) a2 (vD_mv (i := 14) ve (show 10 < 15 by omega)).2.2.2.1
    have hp2 : cN (sI (de_set (ca_endEntry s) 22 18) 2 9 1) 32 p := by
      rw [de_set_put (cget he.2 (show 10 < 15 by omega))]
      exact ⟨by rw [gJ_sI]; exact (cN_put (by omega) hp1).1, by rw [gI_sI, if_neg (by omega)]; exact (cN_put (by omega) hp1).2⟩
    obtain ⟨b1, b2⟩ := cfrom (show 10 < 15 by omega) hp2 a3 (vD_sLi (vD_mv ve (by omega)))
    exact ⟨fr_trans (fr_sI (fr_trans he.1 a1) (by unfold Pc; omega)) b1, b2⟩
  · rw [if_pos g, if_neg g]
    have a3 := cD_place (v := 2) he.2 ve.2.2.2.1
    have hp2 : cN (sI (ca_endEntry s) 5 2 2) 32 p := ⟨by rw [gJ_sI]; exact hp1.1, by rw [gI_sI, if_neg (by omega)]; exact hp1.2⟩
    obtain ⟨b1, b2⟩ := cfrom (show 10 < 15 by omega) hp2 a3 (vD_sP ve (by omega))
    exact ⟨fr_trans (fr_sI he.1 (by unfold Pc; omega)) b1, b2⟩
theorem coper {s : xS} {D : aD} {mdl k : Int} (hk : 0 ≤ k ∧ k ≤ 255) (h : cK mdl s D) : ca_keyOperation_ok s (i3 k) ∧ cRes s (ca_keyOperation s (i3 k)) (aOper k D) := by
  rw [ca_keyOperation_eq]
  unfold ca_keyOperation_ok ca_keyOperation_d aOper
  have hx : cN s 18 (dN D 10) := cget h.1 (show 10 < 15 by omega)
  have hy : cN s 19 (dN D 11) := cget h.1 (show 11 < 15 by omega)
  obtain ⟨p1, s1, p2, p3⟩ := ccombine s (k := k) 19 18 32 (by omega) (by omega) hk hy hx (h.2.1.1 11 (by omega)) (h.2.1.1 10 (by omega))
  refine ⟨p1, ?_⟩
  rw [p3]
  have hv := aOp_v k (dN D 11) (dN D 10)
  obtain ⟨a1, a2, a3⟩ := cres_32 (q := aOp k (dN D 11) (dN D 10)) p2 h.1 h.2.1
  have c1 : ((cres s1 32 (aOp k (dN D 11) (dN D 10))).1 = 0) = ((aOp k (dN D 11) (dN D 10)).1 = 0) := by
    show (i3 _ = 0) = _
    rw [i3_lit, i3_eq (by omega)]
  simp only [c1]
  by_cases g : (aOp k (dN D 11) (dN D 10)).1 = 0
  · rw [if_pos g, if_pos g]
    have he := cend a2 h.2.1
    have ve := vD_end h.2.1
    have hp := a3 g
    have hp1 : cN (ca_endEntry (cres s1 32 (aOp k (dN D 11) (dN D 10))).2) 32 (aOp k (dN D 11) (dN D 10)).2 := by
      rw [ca_endEntry_eq]; unfold ca_endEntry_d
      split
      · exact hp
      · exact ⟨by rw [gJ_sI, gJ_sI]; exact hp.1, by rw [gI_sI, if_neg (by omega), gI_sI, if_neg (by omega)]; exact hp.2⟩
    generalize ca_endEntry (cres s1 32 (aOp k (dN D 11) (dN D 10))).2 = t at *
    have fe : fr Pc s t := fr_trans a1 he.1
    obtain ⟨b1, b2⟩ := cmv (show 14 < 15 by omega) (show 10 < 15 by omega) he.2 ve
    have v1 := vD_mv (i := 14) ve (show 10 < 15 by omega)
    have hp2 : cN (de_set t 22 18) 32 (aOp k (dN D 11) (dN D 10)).2 := by
      rw [de_set_put (cget he.2 (show 10 < 15 by omega))]; exact cN_put (by omega) hp1
    obtain ⟨d1, d2⟩ := cfrom (show 10 < 15 by omega) hp2 b2 v1
    have v2 := vD_sN (i := 10) v1 hv.1
    obtain ⟨e1, e2⟩ := cmv (show 11 < 15 by omega) (show 12 < 15 by omega) d2 v2
    have v3 := vD_mv (i := 11) v2 (show 12 < 15 by omega)
    obtain ⟨f1, f2⟩ := cmv (show 12 < 15 by omega) (show 13 < 15 by omega) e2 v3
    have v4 := vD_mv (i := 12) v3 (show 13 < 15 by omega)
    exact ⟨fr_sI (fr_trans (fr_trans (fr_trans (fr_trans fe b1) d1) e1) f1) (by unfold Pc; omega), rfl, cD_lift (b := true) f2 v4.2.2.2.1⟩
  · rw [if_neg g, if_neg g]
    exact ⟨a1, rfl, a2⟩
theorem cstack {s : xS} {D : aD} {k : Int} (hk : 0 ≤ k ∧ k ≤ 255) (h : cK 0 s D) : cRes s (ca_keyStack s (i3 k)) (aStack k D) := by
  rw [ca_keyStack_eq]
  unfold ca_keyStack_d aStack
  have c1 : (i3 k = 61) = (k = 61) := by rw [i3_lit, i3_eq (by omega)]
  have c2 : (i3 k = 87) = (k = 87) := by rw [i3_lit, i3_eq (by omega)]
  have c3 : (i3 k = 68) = (k = 68) := by rw [i3_lit, i3_eq (by omega)]
  have c4 : (i3 k = 76) = (k = 76) := by rw [i3_lit, i3_eq (by omega)]
  simp only [c1, c2, c3, c4]
  rw [ca_keyStack_26_eq]
  unfold ca_keyStack_26_d
  rw [ca_keyStack_168_eq]
  unfold ca_keyStack_168_d
  simp only [c1, c2, c4]
  have he := cend h.1 h.2.1
  have ve := vD_end h.2.1
  have hK : cK 0 (ca_endEntry s) (aEnd D) := cK_fr h he.1 he.2 ve
  generalize ca_endEntry s = t at *
  by_cases g1 : k = 61
  · subst g1
    obtain ⟨b1, b2⟩ := craise he.2 ve
    exact ⟨fr_sI (fr_trans he.1 (raise_c b1)) (by unfold Pc; omega), rfl, cD_lift (b := false) b2 (vD_raise ve).2.2.2.1⟩
  · rw [if_neg g1, if_neg g1]
    by_cases g2 : k = 76
    · subst g2
      obtain ⟨b1, b2⟩ := cbring hK (cget hK.1 (show 14 < 15 by omega)) (by omega)
      exact ⟨fr_sI (fr_trans he.1 b1) (by unfold Pc; omega), rfl, cD_lift (b := true) b2 (vD_bring ve (ve.1 14 (by omega))).2.2.2.1⟩
    · rw [if_neg g2]
      have hx := cget he.2 (show 10 < 15 by omega)
      have r1 : cD (de_set t 32 18) 2 (aEnd D) := by rw [de_set_put hx]; exact cD_fr (cput1_fr t 32 _) (fun b j _ _ => by omega) he.2 ve.2.2.2.1
      have f1 : fr Pc t (de_set t 32 18) := by rw [de_set_put hx]; exact put_c (by omega)
      have hp : cN (de_set t 32 18) 32 (dN (aEnd D) 10) := by rw [de_set_put hx]; exact cput1_cN ..
      generalize de_set t 32 18 = u at *
      obtain ⟨b1, b2⟩ := cmv (show 10 < 15 by omega) (show 11 < 15 by omega) r1 ve
      have v1 := vD_mv (i := 10) ve (show 11 < 15 by omega)
      have hp1 : cN (de_set u 18 19) 32 (dN (aEnd D) 10) := by rw [de_set_put (cget r1 (show 11 < 15 by omega))]; exact cN_put (by omega) hp
      by_cases g3 : k = 87
      · subst g3
        obtain ⟨d1, d2⟩ := cfrom (show 11 < 15 by omega) hp1 b2 v1
        exact ⟨fr_sI (fr_trans (fr_trans (fr_trans he.1 f1) b1) d1) (by unfold Pc; omega), rfl, cD_lift (b := true) d2 (vD_sN v1 (ve.1 10 (by omega))).2.2.2.1⟩
      · rw [if_neg g3, if_neg g3]
        by_cases g4 : k = 68
        · subst g4
          obtain ⟨d1, d2⟩ := cmv (show 11 < 15 by omega) (show 12 < 15 by omega) b2 v1
          have v2 := vD_mv (i := 11) v1 (show 12 < 15 by omega)
          have hp2 : cN (de_set (de_set u 18 19) 19 20) 32 (dN (aEnd D) 10) := by rw [de_set_put (cget b2 (show 12 < 15 by omega))]; exact cN_put (by omega) hp1
          obtain ⟨e1, e2⟩ := cmv (show 12 < 15 by omega) (show 13 < 15 by omega) d2 v2
          have v3 := vD_mv (i := 12) v2 (show 13 < 15 by omega)
          have hp3 : cN (de_set (de_set (de_set u 18 19) 19 20) 20 21) 32 (dN (aEnd D) 10) := by rw [de_set_put (cget d2 (show 13 < 15 by omega))]; exact cN_put (by omega) hp2
          obtain ⟨w1, w2⟩ := cfrom (show 13 < 15 by omega) hp3 e2 v3
          exact ⟨fr_sI (fr_trans (fr_trans (fr_trans (fr_trans (fr_trans he.1 f1) b1) d1) e1) w1) (by unfold Pc; omega), rfl, cD_lift (b := true) w2 (vD_sN v3 (ve.1 10 (by omega))).2.2.2.1⟩
        · rw [if_neg g4, if_neg g2, if_neg g4]
          exact ⟨fr_refl .., rfl, h.1⟩
