/-! THE CLASS'S FORMULAS AND ENTRIES, AND ALL ITS KEYS -/
theorem cform_58 {D : aD} {k : Int} {l : Nat} (hk : 0 ≤ k ∧ k ≤ 255) (hr : isRk k = true) (hv : vD D) (hl : l ≤ dS D) (hf : ¬ (8 ≤ l ∧ (k = 40 ∨ isOp k = true))) (hb : k = 41 → 1 ≤ l) : ∀ (n m : Nat) (s : xS) (a : Int × Int), m ≤ dS D → l ≤ m → m + 1 ≤ n + l → cD s 2 D → cN s 32 a → vN a → ca_keyFormula_58_ok n s (i3 k) (i3 l) (i3 ((m : Int) - 1)) ∧ cRes s (ca_keyFormula_58 n s (i3 k) (i3 l) (i3 ((m : Int) - 1))) (if (aFold D l m a).1 = 0 then (0, aFollow k l (aFold D l m a).2 D) else ((aFold D l m a).1, D)) := by
  have h8 := hv.2.2.2.1
  intro n
  induction n with
  | zero => intro m s a h1 h2 h3; omega
  | succ n ih =>
    intro m s a h1 h2 h3 hd ha va
    unfold ca_keyFormula_58 ca_keyFormula_58_ok
    have c1 : (i3 ((m : Int) - 1) < i3 l) = (m ≤ l) := by rw [i3_lt (by omega)]; apply propext; omega
    have c4 : ((8 : Int32) ≤ i3 l) = (8 ≤ l) := by rw [i3_lit, i3_le (by omega)]; apply propext; omega
    simp only [c1, c4, isOp_te hk, i3_natN (show l < 2147483648 by omega)]
    by_cases g : m ≤ l
    · have hfold : aFold D l m a = (0, a) := by
        cases m with
        | zero => rfl
        | succ m => unfold aFold; rw [if_pos (by omega)]
      rw [hfold, if_pos g]
      obtain ⟨p1, p2⟩ := cfollow hk hr hd hv ha va hl hf hb
      rw [if_pos (show (0, a).1 = (0 : Int) from rfl)]
      exact ⟨⟨fun _ => p1, fun q => absurd g q⟩, p2⟩
    · rw [if_neg g]
      obtain ⟨j, rfl⟩ : ∃ j, m = j + 1 := ⟨m - 1, by omega⟩
      have ej : i3 (((j + 1 : Nat) : Int) - 1) = i3 j := congrArg i3 (by omega)
      have e2 : i3 j + -1 = i3 ((j : Int) - 1) := by rw [i3_lit, i3_neg, i3_add]; exact congrArg i3 (by omega)
      have hT := hd.2.2.1 j (by omega)
      have hkj := hv.2.2.1 j (by omega)
      have hkr := isK_rng hkj
      obtain ⟨r1, r2⟩ := R0_4 (show j < 8 by omega)
      have hT6 : gI s 6 j = i3 (dT D j) := hT
      have c5 : (i3 (dT D j) = 40) = (dT D j = 40) := by rw [i3_lit, i3_eq (by omega)]
      rw [ej, e2, i3_natN (by omega), hT6, r1]
      simp only [c5]
      have hin : vp_in (i3 j) 8 := by rw [i3_inN (by omega)]; omega
      unfold aFold
      rw [if_neg (show ¬ j < l by omega)]
      by_cases g2 : dT D j = 40
      · rw [if_pos g2, if_pos g2]
        obtain ⟨p1, p2⟩ := ih j s a (by omega) (by omega) (by omega) hd ha va
        exact ⟨⟨fun q => absurd q g, fun _ => ⟨hin, fun _ => p1, fun q => absurd g2 q⟩⟩, p2⟩
      · rw [if_neg g2, if_neg g2]
        have hn : cN s (23 + j) (dN D (15 + j)) := by
          have := hd.2.1 j (by omega) g2
          rwa [show 2 + 21 + j = 23 + j by omega] at this
        have vn := hv.2.1 j (by omega) g2
        obtain ⟨o1, s1, o2, o3⟩ := ccombine s (k := dT D j) (23 + j) 32 32 (by omega) (by omega) hkr hn ha vn va
        have hov := aOp_v (dT D j) (dN D (15 + j)) a
        obtain ⟨a1, a2, a3⟩ := cres_32 (q := aOp (dT D j) (dN D (15 + j)) a) o2 hd hv
        have c6 : ((cres s1 32 (aOp (dT D j) (dN D (15 + j)) a)).1 = 0) = ((aOp (dT D j) (dN D (15 + j)) a).1 = 0) := by
          show (i3 _ = 0) = _
          rw [i3_lit, i3_eq (by omega)]
        rw [o3]
        simp only [c6]
        by_cases g3 : (aOp (dT D j) (dN D (15 + j)) a).1 = 0
        · rw [if_pos g3, if_pos g3]
          obtain ⟨p1, p2⟩ := ih j (cres s1 32 (aOp (dT D j) (dN D (15 + j)) a)).2 (aOp (dT D j) (dN D (15 + j)) a).2 (by omega) (by omega) (by omega) a2 (a3 g3) hov.1
          exact ⟨⟨fun q => absurd q g, fun _ => ⟨hin, fun q => absurd q g2, fun _ => ⟨hin, ⟨hin, r2⟩, o1, fun _ => p1⟩⟩⟩, fr_trans a1 p2.1, p2.2⟩
        · rw [if_neg g3, if_neg g3, if_neg g3]
          exact ⟨⟨fun q => absurd q g, fun _ => ⟨hin, fun q => absurd q g2, fun _ => ⟨hin, ⟨hin, r2⟩, o1, fun q => absurd q g3⟩⟩⟩, a1, rfl, a2⟩
theorem aBr_left {T : Nat → Int} : ∀ (n : Nat), aBr T n = true → 1 ≤ aLeft T 1 n := by
  intro n
  induction n with
  | zero => intro q; cases q
  | succ n ih =>
    intro q
    unfold aLeft
    split
    · rename_i g
      unfold aBr at q
      simp only [Bool.or_eq_true, decide_eq_true_eq] at q
      rcases q with q | q
      · exact ih q
      · rw [q] at g
        exact absurd g (by decide)
    · omega
theorem cform {s : xS} {D : aD} {k : Int} (hk : 0 ≤ k ∧ k ≤ 255) (hr : isRk k = true) (h : cD s 2 D) (hv : vD D) : ca_keyFormula_ok s (i3 k) ∧ cRes s (ca_keyFormula s (i3 k)) (aForm k D) := by
  have h8 := hv.2.2.2.1
  rw [ca_keyFormula_eq]
  unfold ca_keyFormula_ok ca_keyFormula_d aForm
  have hrow := cD_row h hv
  obtain ⟨o1, o2⟩ := cout (k := k) hk hv.2.2.2.2.1 h.2.2.2.1.2 hrow
  obtain ⟨l1, l2⟩ := cleft (k := k) hk hrow
  have hle := aLb_le k D
  have f2 := cfull (a := 5) (k := k) (l := aLb k D) hk (by omega)
  rw [o2, l2]
  show _ ∧ cRes s (if aOut k D = false then (if ro_isFullFor 5 (i3 k) (i3 (aLb k D)) = false then _ else _) else _) _
  have f2' : ro_isFullFor 5 (i3 k) (i3 (aLbR k (dT D) (dS D))) = decide (8 ≤ aLb k D ∧ (k = 40 ∨ isOp k = true)) := f2
  rw [f2', f2]
  have ho : aOutR k (dP D) (dT D) (dS D) = aOut k D := rfl
  rw [ho]
  cases g : aOut k D
  · rw [if_pos (show false = false from rfl), if_neg (show ¬ false = true by decide)]
    by_cases g2 : 8 ≤ aLb k D ∧ (k = 40 ∨ isOp k = true)
    · rw [decide_eq_true g2, if_neg (show ¬ true = false by decide), if_pos g2]
      exact ⟨⟨o1, fun _ => ⟨l1, fun q => by cases q⟩⟩, fr_refl .., rfl, h⟩
    · rw [decide_eq_false g2, if_pos (show false = false from rfl), if_neg g2]
      have hx := cget h (show 10 < 15 by omega)
      rw [de_set_put hx]
      have hd : cD (cput1 s 32 (dN D 10)) 2 D := cD_fr (cput1_fr s 32 _) (fun b j _ _ => by omega) h hv.2.2.2.1
      have e1 : gI (cput1 s 32 (dN D 10)) 5 1 - 1 = i3 ((dS D : Int) - 1) := by
        rw [show gI (cput1 s 32 (dN D 10)) 5 1 = i3 (dS D) from hd.2.2.2.1.1, i3_lit, i3_sub]
      rw [e1]
      have hb : k = 41 → 1 ≤ aLb k D := by
        intro q
        subst q
        unfold aOut aOutR at g
        rw [if_neg (by decide), if_pos rfl] at g
        simp only [Bool.not_eq_false', Bool.and_eq_true, decide_eq_true_eq] at g
        unfold aLb aLbR
        rw [if_neg (by decide), if_neg (by decide), if_pos rfl]
        exact aBr_left _ g.2
      obtain ⟨p1, p2⟩ := cform_58 hk hr hv hle g2 hb xfu (dS D) (cput1 s 32 (dN D 10)) (dN D 10) (Nat.le_refl _) hle (by rw [xfu_eq]; omega) hd (cput1_cN ..) (hv.1 10 (by omega))
      exact ⟨⟨o1, fun _ => ⟨l1, fun _ => p1⟩⟩, fr_trans (put_c (by omega)) p2.1, p2.2⟩
  · rw [if_neg (show ¬ true = false by decide), if_pos (show true = true from rfl)]
    exact ⟨⟨o1, fun q => by cases q⟩, fr_refl .., rfl, h⟩
/-! the entry -/
theorem cread (s : xS) {b a : Nat} {e : aE} (hb : b ≠ 31) (he : cE s b e) (hv : vE e) : ar_read_ok s b a ∧ ∃ s1, fr P31 s s1 ∧ ar_read s b a = cres s1 a (aRead e) := by
  obtain ⟨h1, h2, h3, h4, h5, h6, h7, h8⟩ := he
  obtain ⟨⟨w1, w2, w3, w4, w5, w6, w7⟩, w8⟩ := hv
  have hbL := dV_bd (m := 12) w2 w1
  have hbP := dV_bd (m := 2) w6 w5
  rw [ar_read_eq]
  unfold ar_read_ok ar_read_d
  have r : ∀ j, gI (sI (sJ (sI s 31 0 (gI s b 1)) 31 1 (gJ s b 2)) 31 2 0) b j = gI s b j := by
    intro j
    rw [gI_sI, if_neg (by omega), gI_sJ, gI_sI, if_neg (by omega)]
  rw [r, r, h1, h2, h3, h4, h6, h7]
  have c1 : (i3 (ePt e) = -1) = (ePt e = -1) := by rw [i3_lit, i3_neg, i3_eq (by omega)]
  have e1 : (if zb (ePm e) = 0 then i3 (dV (ePd e) 0 (ePl e) : Nat) else -(i3 (dV (ePd e) 0 (ePl e) : Nat))) - (if i3 (ePt e) = -1 then (0 : Int32) else i3 (eL e) - i3 (ePt e)) = i3 (eUnit e) := by
    unfold eUnit
    simp only [c1]
    have e2 : (if ePt e = -1 then (0 : Int32) else i3 (eL e) - i3 (ePt e)) = i3 (if ePt e = -1 then 0 else (eL e : Int) - ePt e) := by
      split
      · rfl
      · rw [i3_sub]
    rw [e2]
    cases ePm e
    · rw [if_pos (by rfl), i3_sub]; rfl
    · rw [if_neg (by decide), i3_neg, i3_sub]; rfl
  rw [e1]
  have hu : -1000 ≤ eUnit e ∧ eUnit e ≤ 1000 := by
    unfold eUnit
    generalize dV (ePd e) 0 (ePl e) = v at *
    cases ePm e <;> dsimp only [cond_true, cond_false] <;> split <;> omega
  have hz : zb (eMi e) = 0 ∨ zb (eMi e) = 1 := zb01 _
  obtain ⟨p1, q, p2, p3⟩ := cround (sI (sI (sJ (sI s 31 0 (zb (eMi e))) 31 1 (j6 (dV (eDg e) 0 (eL e) : Nat))) 31 2 0) 31 3 (i3 (eUnit e))) a (W := dV (eDg e) 0 (eL e)) (m := false) (mi := eMi e) (u := eUnit e) (by rw [gJ_sI, gJ_sI, gJ_sJ, if_pos ⟨rfl, rfl⟩]) (by omega) (by rw [gI_sI, if_neg (by omega), gI_sI, if_pos ⟨rfl, rfl⟩]; rfl) (by rw [gI_sI, if_pos ⟨rfl, rfl⟩]) hu (by rw [gI_sI, if_neg (by omega), gI_sI, if_neg (by omega), gI_sJ, gI_sI, if_pos ⟨rfl, rfl⟩])
  refine ⟨⟨hz, p1⟩, sI (sI (sJ (sI s 31 0 (zb (eMi e))) 31 1 (j6 (dV (eDg e) 0 (eL e) : Nat))) 31 2 0) 31 3 (i3 (eUnit e)), fr_sI (fr_sI (fr_sJ (fr_sI (fr_refl ..) rfl) rfl) rfl) rfl, ?_⟩
  rw [p3, cput_rs, aFin_eq p2]; rfl
theorem cset (s : xS) {a b : Nat} (hab : a ≠ b) {o : Bool} (h0 : gI s b 0 = zb o) (hb : bo s b) : en_set_ok s a b ∧ fr (fun x _ => x = a) s (en_set s a b) ∧ (∀ j, j ≤ 8 → j ≠ 2 → gI (en_set s a b) a j = gI s b j) ∧ gJ (en_set s a b) a 2 = gJ s b 2 := by
  obtain ⟨b1, b2, b3, q1, q2, q3⟩ := hb
  have hba : (b = a) = False := eq_false (fun q => hab q.symm)
  rw [en_set_eq]
  unfold en_set_ok en_set_d
  simp only [gI_sI, gI_sJ, gJ_sI, gJ_sJ, hba, false_and, if_false, true_and]
  rw [h0, q1, q2, q3]
  refine ⟨⟨zb01 _, zb01 _, zb01 _, zb01 _⟩, fr_sI (fr_sI (fr_sI (fr_sI (fr_sI (fr_sI (fr_sJ (fr_sI (fr_sI (fr_refl ..) rfl) rfl) rfl) rfl) rfl) rfl) rfl) rfl) rfl, ?_, ?_⟩
  · intro j h1 h2
    have : j = 0 ∨ j = 1 ∨ j = 3 ∨ j = 4 ∨ j = 5 ∨ j = 6 ∨ j = 7 ∨ j = 8 := by omega
    rcases this with w | w | w | w | w | w | w | w <;> subst w
    · exact h0.symm
    · exact q1.symm
    · rfl
    · rfl
    · exact q2.symm
    · exact q3.symm
    · rfl
    · rfl
  · trivial
theorem cE_copy {s t : xS} {a b : Nat} {e : aE} (h1 : ∀ j, j ≤ 8 → j ≠ 2 → gI t a j = gI s b j) (h2 : gJ t a 2 = gJ s b 2) (h : cE s b e) : cE t a e := by
  obtain ⟨k1, k2, k3, k4, k5, k6, k7, k8⟩ := h
  exact ⟨(h1 1 (by omega) (by omega)).trans k1, h2.trans k2, (h1 3 (by omega) (by omega)).trans k3, (h1 4 (by omega) (by omega)).trans k4, (h1 5 (by omega) (by omega)).trans k5, (h1 6 (by omega) (by omega)).trans k6, (h1 7 (by omega) (by omega)).trans k7, (h1 8 (by omega) (by omega)).trans k8⟩
/-- the trial becomes the entry -/
theorem cD_entry {s : xS} {D : aD} {e : aE} {o : Bool} (h : cD s 2 D) (hv : vD D) (h0 : gI s 34 0 = zb o) (he : cE s 34 e) : en_set_ok s 7 34 ∧ fr (fun x _ => x = 7) s (en_set s 7 34) ∧ cD (en_set s 7 34) 2 (sOn (sE D e) o) := by
  obtain ⟨p1, p2, p3, p4⟩ := cset s (a := 7) (b := 34) (by omega) h0 (bo_of he)
  refine ⟨p1, p2, ?_⟩
  have h8 := hv.2.2.2.1
  have hE : cE (en_set s 7 34) 7 e := cE_copy p3 p4 he
  obtain ⟨h1, h2, h3, ⟨h4, h4'⟩, h5, h6, h6', h7⟩ := h
  exact ⟨fun i hi => cN_fr p2 (by omega) (by omega) (h1 i hi), fun i hi h40 => cN_fr p2 (by have : i < dS D := hi; omega) (by have : i < dS D := hi; omega) (h2 i hi h40), fun i hi => (p2.1 _ _ (by omega)).1.trans (h3 i hi), ⟨(p2.1 _ _ (by omega)).1.trans h4, (p2.1 _ _ (by omega)).1.trans h4'⟩, (p2.1 _ _ (by omega)).1.trans h5, (p3 0 (by omega) (by omega)).trans h0, bo_of hE, fun _ => hE⟩
theorem cent {s : xS} {D : aD} {mdl k : Int} (hk : 0 ≤ k ∧ k ≤ 255) (hb : isBg k = true ∨ (dOn D = true ∧ (k = 78 ∨ k = 66))) (h : cK mdl s D) : ca_keyEntry_ok s (i3 k) ∧ cRes s (ca_keyEntry s (i3 k)) (aEnt mdl k D) := by
  have hv := h.2.1
  have h8 := hv.2.2.2.1
  have h66 : isBg k = false → k = 78 ∨ k = 66 := by
    intro q
    rcases hb with w | w
    · rw [q] at w; cases w
    · exact w.2
  obtain ⟨a1, a2, a3, a4⟩ := cset s (a := 34) (b := 7) (by omega) h.1.2.2.2.2.2.1 h.1.2.2.2.2.2.2.1
  have fa : fr Pc s (en_set s 34 7) := fr_mono a2 (fun b j q => by unfold Pc; omega)
  have da : cD (en_set s 34 7) 2 D := cD_fr a2 (fun b j _ _ => by omega) h.1 h8
  -- the trial is in place
  have core : ∀ {t : xS} {e : aE}, fr Pc s t → cD t 2 D → gI t 34 0 = zb true → cE t 34 e → wE e → (isBg k = true ∨ eLives e = true) → e = eIn D → ca_keyEntry_44_ok t (i3 k) (zb (decide (dOn D = false))) ∧ cRes s (ca_keyEntry_44 t (i3 k) (zb (decide (dOn D = false)))) (aEnt mdl k D) := by
    intro t e ft dt ot et we le hin
    obtain ⟨k1, k2, k3⟩ := ctake t hk we et ot le h66
    have wt := wE_take hk we
    rw [ca_keyEntry_44_eq]
    unfold ca_keyEntry_44_ok ca_keyEntry_44_d aEnt
    rw [← hin]
    have fk : fr Pc s (en_take t 34 (i3 k)) := fr_trans ft (fr_mono k1 (fun b j q => by unfold Pc; omega))
    have dk : cD (en_take t 34 (i3 k)) 2 D := cD_fr k1 (fun b j _ _ => by omega) dt h8
    rw [k3]
    generalize en_take t 34 (i3 k) = u at *
    cases gl : eLives (eTake e k)
    · rw [if_neg (by decide)]
      dsimp only [cond_false]
      rw [gl] at k3
      obtain ⟨s1, s2, s3⟩ := cD_entry dk hv k3 k2
      have vs : vD (sOn (sE D (eTake e k)) false) := ⟨hv.1, hv.2.1, hv.2.2.1, hv.2.2.2.1, hv.2.2.2.2.1, fun q => by cases q⟩
      have q := cput_num (i := 10) (p := (0, 0)) (by omega) s3 vs
      have q2 := cD_lift (b := false) q (vD_sN (i := 10) vs vN_0).2.2.2.1
      rw [de_clear_put]
      refine ⟨⟨fun w => absurd (by rfl) w, fun _ => s1⟩, fr_sI (fr_trans (fr_trans fk (fr_mono s2 (fun b j q => by unfold Pc; omega))) (put_c (by omega))) (by unfold Pc; omega), rfl, ?_⟩
      obtain ⟨z1, z2, z3, z4, z5, z6, z7, z8⟩ := q2
      exact ⟨z1, z2, z3, z4, z5, z6, z7, fun w => by cases w⟩
    · rw [if_pos (by decide)]
      dsimp only [cond_true]
      have ve := (vE_lives wt).mp gl
      obtain ⟨r1, s1, r2, r3⟩ := cread u (a := 32) (by omega) k2 ve
      rw [r3]
      obtain ⟨c1, c2, c3⟩ := cres_32 (q := aRead (eTake e k)) r2 dk hv
      have hq : ((cres s1 32 (aRead (eTake e k))).1 = 0) = ((aRead (eTake e k)).1 = 0) := by
        show (i3 _ = 0) = _
        rcases rs_c (aFin (dV (eDg (eTake e k)) 0 (eL (eTake e k))) false (eUnit (eTake e k)) (eMi (eTake e k))) with w | w
        · have w' : (aRead (eTake e k)).1 = 0 := w
          rw [w']; exact propext ⟨fun _ => rfl, fun _ => rfl⟩
        · have w' : (aRead (eTake e k)).1 = 2 := w
          rw [w', i3_lit, i3_eq (by omega)]
      have vr : vN (aRead (eTake e k)).2 := rs_v
      simp only [hq]
      by_cases g : (aRead (eTake e k)).1 = 0
      · have hp := c3 g
        have e34 : cE (cres s1 32 (aRead (eTake e k))).2 34 (eTake e k) ∧ gI (cres s1 32 (aRead (eTake e k))).2 34 0 = zb true := by
          have f34 : fr (fun b _ => b = 31 ∨ b = 32) u (cres s1 32 (aRead (eTake e k))).2 := by
            unfold cres
            dsimp only
            rw [if_pos g]
            exact fr_trans (fr_mono r2 (fun b j q => Or.inl q)) (fr_mono (cput1_fr _ _ _) (fun b j q => Or.inr q))
          exact ⟨cE_fr f34 (fun j _ => by omega) k2, (f34.1 _ _ (by omega)).1.trans (k3.trans (by rw [gl]))⟩
        obtain ⟨s1', s2, s3⟩ := cD_entry c2 hv e34.2 e34.1
        generalize (cres s1 32 (aRead (eTake e k))).2 = y at *
        have vs : vD (sOn (sE D (eTake e k)) true) := ⟨hv.1, hv.2.1, hv.2.2.1, hv.2.2.2.1, hv.2.2.2.2.1, fun _ => ve⟩
        have hp' : cN (en_set y 7 34) 32 (aRead (eTake e k)).2 := cN_fr s2 (by omega) (by omega) hp
        have fy : fr Pc s (en_set y 7 34) := fr_trans (fr_trans fk c1) (fr_mono s2 (fun b j q => by unfold Pc; omega))
        rw [if_pos g, if_pos g]
        cases go : dOn D
        · have e0 : ¬ zb (decide (false = false)) = 0 := by decide
          rw [if_neg e0]
          have hK : cK mdl (en_set y 7 34) (sOn (sE D (eTake e k)) true) := cK_fr h fy s3 vs
          obtain ⟨b1, b2⟩ := cbring hK hp' (by omega)
          exact ⟨⟨fun _ => ⟨r1, fun _ => s1'⟩, fun w => absurd w (by decide)⟩, fr_trans fy b1, rfl, b2⟩
        · have e0 : zb (decide (true = false)) = 0 := by decide
          rw [if_pos e0]
          obtain ⟨b1, b2⟩ := cfrom (show 10 < 15 by omega) hp' s3 vs
          refine ⟨⟨fun _ => ⟨r1, fun _ => s1'⟩, fun w => absurd w (by decide)⟩, fr_trans fy b1, rfl, ?_⟩
          have hDD : sOn (sE D (eTake e k)) true = sE D (eTake e k) := by
            rw [← go]; rfl
          rw [hDD] at b2
          exact b2
      · rw [if_neg g, if_neg g]
        exact ⟨⟨fun _ => ⟨r1, fun q => absurd q g⟩, fun w => absurd w (by decide)⟩, fr_trans fk c1, rfl, c2⟩
  rw [ca_keyEntry_eq]
  unfold ca_keyEntry_ok ca_keyEntry_d
  have c0 : (gI s 7 0 = 0) = (dOn D = false) := by rw [show gI s 7 0 = zb (dOn D) from h.1.2.2.2.2.2.1]; exact propext zb_eq0
  simp only [c0]
  cases go : dOn D
  · rw [go] at core
    rw [if_neg (by decide)]
    rw [en_begin_eq]
    unfold en_begin_d
    rw [en_dropPart_eq]
    unfold en_dropPart_d
    obtain ⟨p1, p2⟩ := core (t := sI (sI (sI (sI (sI (sI (sJ (sI (sI (en_set s 34 7) 34 0 1) 34 1 0) 34 2 0) 34 3 0) 34 4 (-1)) 34 5 0) 34 6 0) 34 7 0) 34 8 0) (e := eNew) (by
        refine fr_sI (fr_sI (fr_sI (fr_sI (fr_sI (fr_sI (fr_sJ (fr_sI (fr_sI fa ?_) ?_) ?_) ?_) ?_) ?_) ?_) ?_) ?_ <;> (unfold Pc; omega)) (by
        refine cD_fr (P := fun b _ => b = 34) (fr_sI (fr_sI (fr_sI (fr_sI (fr_sI (fr_sI (fr_sJ (fr_sI (fr_sI (fr_refl _ _) rfl) rfl) rfl) rfl) rfl) rfl) rfl) rfl) rfl) (fun b j _ _ => by omega) da h8) rfl ⟨rfl, rfl, rfl, rfl, rfl, rfl, rfl, rfl⟩ wE_new (by
        rcases hb with w | w
        · exact Or.inl w
        · rw [go] at w; cases w.1) (by unfold eIn; rw [go]; rfl)
    exact ⟨⟨a1, fun q => absurd q (by decide), fun _ => p1⟩, p2⟩
  · rw [go] at core
    rw [if_pos (by decide)]
    have ve := hv.2.2.2.2.2 go
    obtain ⟨p1, p2⟩ := core (t := en_set s 34 7) (e := dE D) fa da (by rw [a3 0 (by omega) (by omega), show gI s 7 0 = zb (dOn D) from h.1.2.2.2.2.2.1, go]) (cE_copy a3 a4 (h.1.2.2.2.2.2.2.2 go)) ve.1 (Or.inr ((vE_lives ve.1).mpr ve)) (by unfold eIn; rw [go]; rfl)
    exact ⟨⟨a1, fun _ => p1, fun q => absurd q (by decide)⟩, p2⟩
theorem aEnt_v {D : aD} {mdl k : Int} (hk : 0 ≤ k ∧ k ≤ 255) (h : vD D) : vD (aEnt mdl k D).2 := by
  have we : wE (eIn D) := by
    unfold eIn
    cases go : dOn D
    · exact wE_new
    · exact (h.2.2.2.2.2 go).1
  have wt := wE_take hk we
  unfold aEnt
  cases gl : eLives (eTake (eIn D) k)
  · exact vD_sLi (vD_sN (vD_shut h) vN_0)
  · dsimp only [cond_true]
    have ve := (vE_lives wt).mp gl
    have vr : vN (aRead (eTake (eIn D) k)).2 := rs_v
    split
    · cases go : dOn D
      · exact vD_bring (D := sOn (sE D (eTake (eIn D) k)) true) ⟨h.1, h.2.1, h.2.2.1, h.2.2.2.1, h.2.2.2.2.1, fun _ => ve⟩ vr
      · exact vD_sN (D := sE D (eTake (eIn D) k)) ⟨h.1, h.2.1, h.2.2.1, h.2.2.2.1, h.2.2.2.2.1, fun _ => ve⟩ vr
    · exact h
theorem aKey_v {D : aD} {mdl k : Int} (hk : 0 ≤ k ∧ k ≤ 255) (h : vD D) : vD (aKey mdl k D).2 := by
  unfold aKey
  split
  · exact aEnt_v hk h
  · split
    · exact vD_fn h
    · split
      · exact vD_num h
      · split
        · split
          · exact vD_form h (by assumption)
          · exact h
        · split
          · exact vD_oper h
          · exact vD_stack h
theorem ckey {s : xS} {D : aD} {mdl k : Int} (hk : 1 ≤ k ∧ k ≤ 255) (h : cK mdl s D) : ca_doKey_ok s (i3 k) ∧ cRes s (ca_doKey s (i3 k)) (aKey mdl k D) := by
  have hk0 : 0 ≤ k ∧ k ≤ 255 := by omega
  have hm := h.2.2.2.2
  rw [ca_doKey_eq]
  unfold ca_doKey_ok ca_doKey_d aKey
  rw [ca_doKey_42_eq]
  unfold ca_doKey_42_ok ca_doKey_42_d
  rw [ca_doKey_48_eq]
  unfold ca_doKey_48_ok ca_doKey_48_d
  rw [ca_doKey_93_eq]
  unfold ca_doKey_93_ok ca_doKey_93_d
  rw [ca_doKey_100_eq]
  unfold ca_doKey_100_ok ca_doKey_100_d
  have c0 : (gI s 7 0 = 0) = (dOn D = false) := by rw [show gI s 7 0 = zb (dOn D) from h.1.2.2.2.2.2.1]; exact propext zb_eq0
  have c1 : (i3 k = 78) = (k = 78) := by rw [i3_lit, i3_eq (by omega)]
  have c2 : (i3 k = 66) = (k = 66) := by rw [i3_lit, i3_eq (by omega)]
  have c3 : (i3 k = 67) = (k = 67) := by rw [i3_lit, i3_eq (by omega)]
  have c4 : (i3 k < 97) = (k < 97) := by rw [i3_lit, i3_lt (by omega)]
  have c5 : ((116 : Int32) < i3 k) = (116 < k) := by rw [i3_lit, i3_lt (by omega)]
  have c6 : (gI s 1 2 = 1) = (mdl = 1) := by rw [h.2.2.1, i3_lit, i3_eq (by omega)]
  have c7 : te_isFunction (i3 k) = decide (k = 81 ∨ k = 83 ∨ k = 73) := by
    unfold te_isFunction
    have d1 : (i3 k = 81) = (k = 81) := by rw [i3_lit, i3_eq (by omega)]
    have d2 : (i3 k = 83) = (k = 83) := by rw [i3_lit, i3_eq (by omega)]
    have d3 : (i3 k = 73) = (k = 73) := by rw [i3_lit, i3_eq (by omega)]
    simp only [d1, d2, d3, Bool.decide_or]
  simp only [c0, c1, c2, c3, c4, c5, c6, c7, isBg_te hk0, isOp_te hk0, isRk_te hk0]
  by_cases gb : isBg k = true
  · rw [if_pos gb, if_pos (Or.inl gb)]
    obtain ⟨p1, p2⟩ := cent hk0 (Or.inl gb) h
    exact ⟨⟨fun _ => p1, fun q => by rw [gb] at q; cases q⟩, p2⟩
  · rw [if_neg gb]
    -- the keys that begin no entry and belong to none
    have rest : ¬ (dOn D = true ∧ (k = 78 ∨ k = 66)) → (((decide (k = 81 ∨ k = 83 ∨ k = 73) = false → (¬ zb (decide (k = 78) || decide (k = 66)) = 0 → ca_keyNumber_ok s (i3 k)) ∧ (zb (decide (k = 78) || decide (k = 66)) = 0 → (k = 67 → ca_keyNumber_ok s (i3 k)) ∧ (¬ k = 67 → (k < 97 → (¬ mdl = 1 → isOp k = true → ca_keyOperation_ok s (i3 k)) ∧ (mdl = 1 → isRk k = true → ca_keyFormula_ok s (i3 k))) ∧ (¬ k < 97 → (116 < k → (¬ mdl = 1 → isOp k = true → ca_keyOperation_ok s (i3 k)) ∧ (mdl = 1 → isRk k = true → ca_keyFormula_ok s (i3 k))) ∧ (¬ 116 < k → ca_keyNumber_ok s (i3 k)))))) ∧ (decide (k = 81 ∨ k = 83 ∨ k = 73) = true → ca_workOutFunction_ok s (i3 k))) ∧ cRes s (if decide (k = 81 ∨ k = 83 ∨ k = 73) = false then (if ¬ zb (decide (k = 78) || decide (k = 66)) = 0 then (0, ca_keyNumber s (i3 k)) else if k = 67 then (0, ca_keyNumber s (i3 k)) else if k < 97 then (if ¬ mdl = 1 then (if isOp k = false then ca_keyStack s (i3 k) else ca_keyOperation s (i3 k)) else if isRk k = false then (1, s) else ca_keyFormula s (i3 k)) else if 116 < k then (if ¬ mdl = 1 then (if isOp k = false then ca_keyStack s (i3 k) else ca_keyOperation s (i3 k)) else if isRk k = false then (1, s) else ca_keyFormula s (i3 k)) else (0, ca_keyNumber s (i3 k))) else (if ¬ (ca_workOutFunction s (i3 k)).1 = 0 then ca_workOutFunction s (i3 k) else ((ca_workOutFunction s (i3 k)).1, ca_keyFunction (ca_workOutFunction s (i3 k)).2))) (if k = 81 ∨ k = 83 ∨ k = 73 then aFn mdl k D else if k = 78 ∨ k = 66 ∨ k = 67 ∨ (97 ≤ k ∧ k ≤ 116) then (0, aNum mdl k D) else if mdl = 1 then (if isRk k = true then aForm k D else (1, D)) else if isOp k = true then aOper k D else aStack k D)) := by
      intro hno
      by_cases gf : k = 81 ∨ k = 83 ∨ k = 73
      · rw [decide_eq_true gf, if_neg (show ¬ true = false by decide), if_pos gf]
        obtain ⟨p1, s1, p2, p3⟩ := cfn gf h
        have hq := aFnq_v (k := k) h.2.1
        obtain ⟨a1, a2, a3⟩ := cres_32 (q := aFnq k D) p2 h.1 h.2.1
        rw [p3]
        have c8 : ((cres s1 32 (aFnq k D)).1 = 0) = ((aFnq k D).1 = 0) := by
          show (i3 _ = 0) = _
          rw [i3_lit, i3_eq (by omega)]
        simp only [c8]
        unfold aFn
        refine ⟨⟨fun q => (by cases q), fun _ => p1⟩, ?_⟩
        by_cases g : (aFnq k D).1 = 0
        · rw [if_neg (fun q => q g), if_pos g]
          obtain ⟨b1, b2⟩ := ckeyFn (cK_fr h a1 a2 h.2.1) (a3 g)
          exact ⟨fr_trans a1 b1, by show i3 (aFnq k D).1 = i3 0; rw [g], b2⟩
        · rw [if_pos g, if_neg g]
          exact ⟨a1, rfl, a2⟩
      · rw [decide_eq_false gf, if_pos (show false = false from rfl), if_neg gf]
        have num : (97 ≤ k ∧ k ≤ 116) ∨ k = 67 ∨ k = 66 ∨ k = 78 → ca_keyNumber_ok s (i3 k) ∧ cRes s (0, ca_keyNumber s (i3 k)) (0, aNum mdl k D) := by
          intro q
          obtain ⟨p1, p2, p3⟩ := cnumD q h
          exact ⟨p1, p2, rfl, p3⟩
        by_cases gn : k = 78 ∨ k = 66
        · have z : ¬ zb (decide (k = 78) || decide (k = 66)) = 0 := by
            rw [show (decide (k = 78) || decide (k = 66)) = true by simp [gn]]; decide
          rw [if_pos z, if_pos (show k = 78 ∨ k = 66 ∨ k = 67 ∨ (97 ≤ k ∧ k ≤ 116) by omega)]
          obtain ⟨p1, p2⟩ := num (by omega)
          exact ⟨⟨fun _ => ⟨fun _ => p1, fun q => absurd q z⟩, fun q => (by cases q)⟩, p2⟩
        · have z : zb (decide (k = 78) || decide (k = 66)) = 0 := by
            rw [show (decide (k = 78) || decide (k = 66)) = false by rw [← Bool.not_eq_true]; simp [gn]]; rfl
          rw [if_neg (show ¬ ¬ zb (decide (k = 78) || decide (k = 66)) = 0 from fun q => q z)]
          by_cases gc : k = 67
          · rw [if_pos gc, if_pos (show k = 78 ∨ k = 66 ∨ k = 67 ∨ (97 ≤ k ∧ k ≤ 116) by omega)]
            obtain ⟨p1, p2⟩ := num (by omega)
            exact ⟨⟨fun _ => ⟨fun q => absurd z q, fun _ => ⟨fun _ => p1, fun q => absurd gc q⟩⟩, fun q => (by cases q)⟩, p2⟩
          · rw [if_neg gc]
            have other : (((¬ mdl = 1 → isOp k = true → ca_keyOperation_ok s (i3 k)) ∧ (mdl = 1 → isRk k = true → ca_keyFormula_ok s (i3 k))) ∧ cRes s (if ¬ mdl = 1 then (if isOp k = false then ca_keyStack s (i3 k) else ca_keyOperation s (i3 k)) else if isRk k = false then (1, s) else ca_keyFormula s (i3 k)) (if mdl = 1 then (if isRk k = true then aForm k D else (1, D)) else if isOp k = true then aOper k D else aStack k D)) := by
              by_cases g1 : mdl = 1
              · rw [if_neg (show ¬ ¬ mdl = 1 from fun q => q g1), if_pos g1]
                cases gr : isRk k
                · rw [if_pos rfl, if_neg (by decide)]
                  exact ⟨⟨fun q => absurd g1 q, fun _ q => (by cases q)⟩, fr_refl .., rfl, h.1⟩
                · rw [if_neg (by decide), if_pos rfl]
                  obtain ⟨p1, p2⟩ := cform hk0 gr h.1 h.2.1
                  exact ⟨⟨fun q => absurd g1 q, fun _ _ => p1⟩, p2⟩
              · rw [if_pos (show ¬ mdl = 1 from g1), if_neg g1]
                have m0 : mdl = 0 := by omega
                subst m0
                cases go : isOp k
                · rw [if_pos rfl, if_neg (by decide)]
                  exact ⟨⟨fun _ q => (by cases q), fun q => absurd q g1⟩, cstack hk0 h⟩
                · rw [if_neg (by decide), if_pos rfl]
                  obtain ⟨p1, p2⟩ := coper hk0 h
                  exact ⟨⟨fun _ _ => p1, fun q => absurd q g1⟩, p2⟩
            by_cases gl : k < 97
            · rw [if_pos gl, if_neg (show ¬ (k = 78 ∨ k = 66 ∨ k = 67 ∨ (97 ≤ k ∧ k ≤ 116)) by omega)]
              exact ⟨⟨fun _ => ⟨fun q => absurd z q, fun _ => ⟨fun q => absurd q gc, fun _ => ⟨fun _ => other.1, fun q => absurd gl q⟩⟩⟩, fun q => (by cases q)⟩, other.2⟩
            · rw [if_neg gl]
              by_cases gh : 116 < k
              · rw [if_pos gh, if_neg (show ¬ (k = 78 ∨ k = 66 ∨ k = 67 ∨ (97 ≤ k ∧ k ≤ 116)) by omega)]
                exact ⟨⟨fun _ => ⟨fun q => absurd z q, fun _ => ⟨fun q => absurd q gc, fun _ => ⟨fun q => absurd q gl, fun _ => ⟨fun _ => other.1, fun q => absurd gh q⟩⟩⟩⟩, fun q => (by cases q)⟩, other.2⟩
              · rw [if_neg gh, if_pos (show k = 78 ∨ k = 66 ∨ k = 67 ∨ (97 ≤ k ∧ k ≤ 116) by omega)]
                obtain ⟨p1, p2⟩ := num (by omega)
                exact ⟨⟨fun _ => ⟨fun q => absurd z q, fun _ => ⟨fun q => absurd q gc, fun _ => ⟨fun q => absurd q gl, fun _ => ⟨fun q => absurd q gh, fun _ => p1⟩⟩⟩⟩, fun q => (by cases q)⟩, p2⟩
    by_cases go : dOn D = false
    · rw [if_pos go]
      have hno : ¬ (dOn D = true ∧ (k = 78 ∨ k = 66)) := fun q => by rw [go] at q; cases q.1
      rw [if_neg (show ¬ (isBg k = true ∨ (dOn D = true ∧ (k = 78 ∨ k = 66))) from fun q => by rcases q with q | q; exact gb q; exact hno q)]
      obtain ⟨p1, p2⟩ := rest hno
      exact ⟨⟨fun q => absurd q gb, fun _ => ⟨fun _ => p1, fun q => absurd go q⟩⟩, p2⟩
    · have go' : dOn D = true := by
        cases w : dOn D
        · exact absurd w go
        · rfl
      rw [if_neg go]
      by_cases gn : k = 78 ∨ k = 66
      · have z : (decide (k = 78) || decide (k = 66)) = true := by simp [gn]
        rw [if_neg (by rw [z]; decide), if_pos (Or.inr ⟨go', gn⟩)]
        obtain ⟨p1, p2⟩ := cent hk0 (Or.inr ⟨go', gn⟩) h
        exact ⟨⟨fun q => absurd q gb, fun _ => ⟨fun q => absurd q go, fun _ => ⟨fun q => (by rw [z] at q; cases q), fun _ => p1⟩⟩⟩, p2⟩
      · have z : (decide (k = 78) || decide (k = 66)) = false := by rw [← Bool.not_eq_true]; simp [gn]
        have hno : ¬ (dOn D = true ∧ (k = 78 ∨ k = 66)) := fun q => gn q.2
        rw [if_pos z, if_neg (show ¬ (isBg k = true ∨ (dOn D = true ∧ (k = 78 ∨ k = 66))) from fun q => by rcases q with q | q; exact gb q; exact hno q)]
        obtain ⟨p1, p2⟩ := rest hno
        exact ⟨⟨fun q => absurd q gb, fun _ => ⟨fun q => absurd q go, fun _ => ⟨fun _ => p1, fun q => by rw [z] at q; cases q⟩⟩⟩, p2⟩
