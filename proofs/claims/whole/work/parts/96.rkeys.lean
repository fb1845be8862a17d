/-! THE REFERENCE'S ENTRY KEYS, AND ALL ITS KEYS -/
def Po (b j : Nat) : Prop := b = 231 ∧ 57 ≤ j ∧ j < 80
theorem Po_r {s t : xS} (h : fr Po s t) : fr Pr s t := fr_mono h (fun b j q => by unfold Po at q; unfold Pr; omega)
theorem Pe_o {s t : xS} (h : fr Pe s t) : fr Po s t := fr_mono h (fun b j q => by unfold Pe at q; unfold Po; omega)
theorem rD_entry {s t : xS} {D : aD} {e : aE} {o : Bool} (f : fr Po s t) (ho : gI t 231 57 = zb o) (he : o = true → rE t 0 e) (hv : vD D) (h : rD s 0 D) : rD t 0 (sOn (sE D e) o) := by
  have h8 := hv.2.2.2.1
  obtain ⟨h1, h2, h3, ⟨h4, h4'⟩, h5, h6, h7⟩ := h
  exact ⟨fun i hi => rN_fr f (by unfold Po; omega) (by unfold Po; omega) (by unfold Po; omega) (h1 i hi), fun i hi h40 => rN_fr f (by unfold Po; have : i < dS D := hi; omega) (by unfold Po; omega) (by unfold Po; have : i < dS D := hi; omega) (h2 i hi h40), fun i hi => (f.1 _ _ (by unfold Po; have : i < dS D := hi; omega)).1.trans (h3 i hi), ⟨(f.1 _ _ (by unfold Po; omega)).1.trans h4, (f.1 _ _ (by unfold Po; omega)).1.trans h4'⟩, (f.1 _ _ (by unfold Po; omega)).1.trans h5, ho, he⟩
theorem rent {s : xS} {D : aD} {mdl k : Int} (hk : 0 ≤ k ∧ k ≤ 255) (hb : isBg k = true ∨ (dOn D = true ∧ (k = 78 ∨ k = 66))) (h : rK mdl s D) : tm_entryKey_ok s (i3 k) ∧ rRs s (tm_entryKey s (i3 k)) (aEnt mdl k D) := by
  have hv := h.2.1
  have hm := h.2.2.2
  have ho : gI s 231 57 = zb (dOn D) := h.1.2.2.2.2.2.1
  have mm : ∀ {t : xS}, fr Pr s t → (gI t 230 4 = 0) = (mdl = 0) := fun f => by rw [(f.1 230 4 (by unfold Pr; omega)).1, h.2.2.1, i3_lit, i3_eq (by omega)]
  have we : wE (eIn D) := by
    unfold eIn
    cases go : dOn D
    · exact wE_new
    · exact (hv.2.2.2.2.2 go).1
  have wt := wE_take hk we
  -- the entry has been edited: what is worth
  have core : ∀ {t : xS} {e : aE}, e = eTake (eIn D) k → fr Po s t → gI t 231 57 = zb true → rE t 0 e → eLives e = true → tm_entryKey_113_ok t (zb (decide (dOn D = false))) ∧ rRs s (tm_entryKey_113 t (zb (decide (dOn D = false)))) (aEnt mdl k D) := by
    intro t e hee ft o57 et lv
    have ve : vE e := (vE_lives (by rw [hee]; exact wt)).mp lv
    obtain ⟨q1, q2, q3, q4⟩ := rworth ve et
    have vr : vN (aRead e).2 := rs_v
    have hq : (aRead e).1 = 0 ∨ (aRead e).1 = 2 := rs_c _
    rw [tm_entryKey_113_eq]
    unfold tm_entryKey_113_ok tm_entryKey_113_d
    rw [tm_entryKey_142_eq]
    unfold tm_entryKey_142_ok tm_entryKey_142_d aEnt
    rw [← hee, lv]
    dsimp only [cond_true]
    have f2 : fr Pr s (tm_worth t).2 := fr_trans (Po_r ft) (Prow_r q2)
    have c1 : ((tm_worth t).1 ≤ 0) = ((aRead e).1 = 0) := by rw [q3, i3_lit, i3_le (by omega)]; apply propext; omega
    simp only [c1, mm f2]
    have d1 : rD t 0 (sOn (sE D e) true) := rD_entry ft o57 (fun _ => et) hv h.1
    have v1 : vD (sOn (sE D e) true) := ⟨hv.1, hv.2.1, hv.2.2.1, hv.2.2.2.1, hv.2.2.2.2.1, fun _ => ve⟩
    have d2 : rD (tm_worth t).2 0 (sOn (sE D e) true) := rD_row q2 v1 d1
    by_cases g : (aRead e).1 = 0
    · rw [if_pos g, if_pos g]
      have hp := q4 g
      generalize (tm_worth t).2 = u at *
      obtain ⟨s1, s2, s3⟩ := rsetF (show 10 < 15 by omega) hp vr d2 v1
      have s1' : tm_set_ok u 10 (gI u 230 29) (gJ u 230 30) (gI u 230 31) := s1
      have s2' : fr (Pn 10) u (tm_set u 10 (gI u 230 29) (gJ u 230 30) (gI u 230 31)) := s2
      have s3' : rD (tm_set u 10 (gI u 230 29) (gJ u 230 30) (gI u 230 31)) 0 (sN (sOn (sE D e) true) 10 (aRead e).2) := s3
      have v2 := vD_sN (i := 10) v1 vr
      cases go : dOn D
      · have z : ¬ zb (decide (false = false)) = 0 := by decide
        rw [if_neg z, if_neg z]
        dsimp only [cond_false]
        by_cases g0 : mdl = 0
        · rw [if_neg (show ¬ ¬ mdl = 0 from fun q => q g0)]
          obtain ⟨b1, b2, b3⟩ := rpush hp vr d2 v1
          refine ⟨⟨q1, fun _ => ⟨fun q => absurd q z, fun _ => ⟨fun q => absurd g0 q, fun _ => b1⟩⟩⟩, fr_trans f2 b2, rfl, fun _ => ?_⟩
          rw [g0]; exact b3
        · rw [if_pos (show ¬ mdl = 0 from g0)]
          refine ⟨⟨q1, fun _ => ⟨fun q => absurd q z, fun _ => ⟨fun _ => s1', fun q => absurd q g0⟩⟩⟩, fr_sI (fr_trans f2 (Pn_r (by omega) s2')) (by unfold Pr; omega), rfl, fun _ => ?_⟩
          have := rD_place (v := 2) s3' v2
          unfold aBring
          rw [if_pos (show mdl = 1 by omega)]
          exact this
      · have z : zb (decide (true = false)) = 0 := by decide
        rw [if_pos z, if_pos z]
        dsimp only [cond_true]
        have hpl : gI (tm_set u 10 (gI u 230 29) (gJ u 230 30) (gI u 230 31)) 231 55 = i3 (dP (sN (sOn (sE D e) true) 10 (aRead e).2)) := s3'.2.2.2.1.2
        rw [hpl]
        refine ⟨⟨q1, fun _ => ⟨fun _ => s1', fun q => absurd z q⟩⟩, fr_sI (fr_trans f2 (Pn_r (by omega) s2')) (by unfold Pr; omega), rfl, fun _ => ?_⟩
        have := rD_place (v := dP (sN (sOn (sE D e) true) 10 (aRead e).2)) s3' v2
        have hDD : sOn (sE D e) true = sE D e := by rw [← go]; rfl
        have hPP : sP (sN (sOn (sE D e) true) 10 (aRead e).2) (dP (sN (sOn (sE D e) true) 10 (aRead e).2)) = sN (sE D e) 10 (aRead e).2 := by rw [hDD]; rfl
        rw [hPP] at this
        exact this
    · rw [if_neg g, if_neg g]
      exact ⟨⟨q1, fun q => absurd q g⟩, f2, q3, fun q => absurd q g⟩
  have c66 : (i3 k = 66) = (k = 66) := by rw [i3_lit, i3_eq (by omega)]
  -- the entry stands: the key is taken
  have main : ∀ {t : xS}, fr Po s t → gI t 231 57 = zb true → rE t 0 (eIn D) → tm_entryKey_68_ok t (i3 k) (zb (decide (dOn D = false))) ∧ rRs s (tm_entryKey_68 t (i3 k) (zb (decide (dOn D = false)))) (aEnt mdl k D) := by
    intro t ft o57 et
    rw [tm_entryKey_68_eq]
    unfold tm_entryKey_68_ok tm_entryKey_68_d
    simp only [c66]
    by_cases g : k = 66
    · rw [if_neg (show ¬ ¬ k = 66 from fun q => q g)]
      have nb : isBg k = false := by rw [g]; rfl
      have go : dOn D = true := by
        rcases hb with w | w
        · rw [nb] at w; cases w
        · exact w.1
      have hin : eIn D = dE D := by unfold eIn; rw [go]; rfl
      have vin : vE (eIn D) := by rw [hin]; exact hv.2.2.2.2.2 go
      obtain ⟨b1, b2, b3⟩ := rback g vin et
      have f1 : fr Po s (tm_takesBack t).2 := fr_trans ft (Pe_o b1)
      have o1 : gI (tm_takesBack t).2 231 57 = zb true := (b1.1 _ _ (by unfold Pe; omega)).1.trans o57
      rw [b2]
      cases lv : eLives (eTake (eIn D) k)
      · rw [if_neg (by decide)]
        have d1 : rD (sI (tm_takesBack t).2 231 57 0) 0 (sOn (sE D (eTake (eIn D) k)) false) := rD_entry (fr_sI f1 ⟨rfl, by omega⟩) (by rw [gI_sI, if_pos ⟨rfl, rfl⟩]; rfl) (fun q => by cases q) hv h.1
        have v1 : vD (sOn (sE D (eTake (eIn D) k)) false) := ⟨hv.1, hv.2.1, hv.2.2.1, hv.2.2.2.1, hv.2.2.2.2.1, fun q => by cases q⟩
        have d2 := rD_lift (b := false) d1 v1
        obtain ⟨p1, p2, p3⟩ := rset0 d2 (vD_sLi v1)
        have f2 : fr Pr s (sI (sI (tm_takesBack t).2 231 57 0) 231 56 0) := fr_sI (fr_sI (Po_r f1) (by unfold Pr; omega)) (by unfold Pr; omega)
        refine ⟨⟨fun q => absurd g q, fun _ => ⟨fun q => absurd q (by decide), fun _ => p1⟩⟩, ?_⟩
        unfold aEnt
        rw [lv]
        refine ⟨fr_trans f2 (Pn_r (by omega) p2), rfl, fun _ => ?_⟩
        obtain ⟨z1, z2, z3, z4, z5, z6, z7⟩ := p3
        exact ⟨z1, z2, z3, z4, z5, z6, fun w => by cases w⟩
      · rw [if_pos (by decide)]
        obtain ⟨p1, p2⟩ := core rfl f1 o1 b3 lv
        exact ⟨⟨fun q => absurd g q, fun _ => ⟨fun _ => p1, fun q => absurd q (by decide)⟩⟩, p2⟩
    · rw [if_pos (show ¬ k = 66 from g)]
      have h66 : isBg k = true ∨ k = 78 := by
        rcases hb with w | w
        · exact Or.inl w
        · right; omega
      obtain ⟨b1, b2, b3⟩ := redit hk h66 we et
      have lv : eLives (eTake (eIn D) k) = true := by
        refine lives_take we ?_ (fun q => by
          rcases h66 with w | w
          · rw [q] at w; cases w
          · exact Or.inl w)
        rcases hb with w | w
        · exact Or.inl w
        · right
          refine ⟨?_, g⟩
          have hin : eIn D = dE D := by unfold eIn; rw [w.1]; rfl
          rw [hin]
          exact (vE_lives (hv.2.2.2.2.2 w.1).1).mpr (hv.2.2.2.2.2 w.1)
      obtain ⟨p1, p2⟩ := core rfl (fr_trans ft (Pe_o b2)) ((b2.1 _ _ (by unfold Pe; omega)).1.trans o57) b3 lv
      exact ⟨⟨fun _ => ⟨b1, p1⟩, fun q => absurd q g⟩, p2⟩
  rw [tm_entryKey_eq]
  unfold tm_entryKey_ok tm_entryKey_d
  have c0 : (gI s 231 57 = 0) = (dOn D = false) := by rw [ho]; exact propext zb_eq0
  simp only [c0]
  cases go : dOn D
  · rw [go] at main
    rw [if_neg (by decide)]
    obtain ⟨p1, p2⟩ := main (t := sI (sI (sI (sI (sI (sI s 231 57 1) 231 58 1) 231 59 0) 231 73 0) 231 74 1) 231 75 0) (by
      refine fr_sI (fr_sI (fr_sI (fr_sI (fr_sI (fr_sI (fr_refl _ _) ?_) ?_) ?_) ?_) ?_) ?_ <;> exact ⟨rfl, by omega, by omega⟩) rfl (by
      have hin : eIn D = eNew := by unfold eIn; rw [go]; rfl
      rw [hin]
      exact rE_mk ⟨rfl, rfl, fun i hi => absurd hi (Nat.not_lt_zero i), rfl, fun q => by cases q⟩)
    exact ⟨⟨fun q => absurd q (by decide), fun _ => p1⟩, p2⟩
  · rw [go] at main
    rw [if_pos (by decide)]
    obtain ⟨p1, p2⟩ := main (t := s) (fr_refl ..) (by rw [ho, go]) (by
      have hin : eIn D = dE D := by unfold eIn; rw [go]; rfl
      rw [hin]; exact h.1.2.2.2.2.2.2 go)
    exact ⟨⟨fun _ => p1, fun q => absurd q (by decide)⟩, p2⟩
theorem rkey {s : xS} {D : aD} {mdl k : Int} (hk : 1 ≤ k ∧ k ≤ 255) (h : rK mdl s D) : tm_key_ok s (i3 k) ∧ rRs s (tm_key s (i3 k)) (aKey mdl k D) := by
  have hk0 : 0 ≤ k ∧ k ≤ 255 := by omega
  have hm := h.2.2.2
  have hv := h.2.1
  have ho : gI s 231 57 = zb (dOn D) := h.1.2.2.2.2.2.1
  obtain ⟨fe, de⟩ := rend h.1 hv
  have ve := vD_end hv
  have hKe : rK mdl (tm_end s) (aEnd D) := rK_fr h fe de ve
  rw [tm_key_eq]
  unfold tm_key_ok tm_key_d aKey
  rw [tm_key_30_eq, tm_key_36_eq]
  unfold tm_key_30_ok tm_key_30_d tm_key_36_ok tm_key_36_d
  have cb : tm_begins (i3 k) = isBg k := by
    unfold tm_begins isBg
    have c1 : (i3 k = 46) = (k = 46) := by rw [i3_lit, i3_eq (by omega)]
    have c2 : (i3 k = 69) = (k = 69) := by rw [i3_lit, i3_eq (by omega)]
    simp only [c1, c2, isDg_tm k hk0]
  have cc : tm_isCommon (i3 k) = decide (k = 81 ∨ k = 83 ∨ k = 73 ∨ k = 78 ∨ k = 67 ∨ k = 66 ∨ (97 ≤ k ∧ k ≤ 116)) := by
    unfold tm_isCommon
    have d1 : (i3 k = 81) = (k = 81) := by rw [i3_lit, i3_eq (by omega)]
    have d2 : (i3 k = 83) = (k = 83) := by rw [i3_lit, i3_eq (by omega)]
    have d3 : (i3 k = 73) = (k = 73) := by rw [i3_lit, i3_eq (by omega)]
    have d4 : (i3 k = 78) = (k = 78) := by rw [i3_lit, i3_eq (by omega)]
    have d5 : (i3 k = 67) = (k = 67) := by rw [i3_lit, i3_eq (by omega)]
    have d6 : (i3 k = 66) = (k = 66) := by rw [i3_lit, i3_eq (by omega)]
    have d7 : (i3 k < 97) = (k < 97) := by rw [i3_lit, i3_lt (by omega)]
    have d8 : ((116 : Int32) < i3 k) = (116 < k) := by rw [i3_lit, i3_lt (by omega)]
    simp only [d1, d2, d3, d4, d5, d6, d7, d8, Bool.decide_or, Bool.decide_and]
    have e1 : (!decide (k < 97)) = decide (97 ≤ k) := by
      by_cases g : k < 97
      · rw [decide_eq_true g, decide_eq_false (by omega)]; rfl
      · rw [decide_eq_false g, decide_eq_true (by omega)]; rfl
    have e2 : (!decide (116 < k)) = decide (k ≤ 116) := by
      by_cases g : 116 < k
      · rw [decide_eq_true g, decide_eq_false (by omega)]; rfl
      · rw [decide_eq_false g, decide_eq_true (by omega)]; rfl
    rw [e1, e2]
  have c3 : (gI s 231 57 = 1) = (dOn D = true) := by rw [ho]; exact propext zb_eq1
  have c4 : (i3 k = 78) = (k = 78) := by rw [i3_lit, i3_eq (by omega)]
  have c5 : (i3 k = 66) = (k = 66) := by rw [i3_lit, i3_eq (by omega)]
  have c6 : (gI (tm_end s) 230 4 = 0) = (mdl = 0) := by rw [hKe.2.2.1, i3_lit, i3_eq (by omega)]
  rw [cb, cc]
  simp only [c3, c4, c5, c6]
  have rest : ((decide (k = 81 ∨ k = 83 ∨ k = 73 ∨ k = 78 ∨ k = 67 ∨ k = 66 ∨ (97 ≤ k ∧ k ≤ 116)) = false → (¬ mdl = 0 → tm_formulaKey_ok (tm_end s) (i3 k)) ∧ (mdl = 0 → tm_stackKey_ok (tm_end s) (i3 k))) ∧ (decide (k = 81 ∨ k = 83 ∨ k = 73 ∨ k = 78 ∨ k = 67 ∨ k = 66 ∨ (97 ≤ k ∧ k ≤ 116)) = true → tm_common_ok (tm_end s) (i3 k))) ∧ rRs s (if decide (k = 81 ∨ k = 83 ∨ k = 73 ∨ k = 78 ∨ k = 67 ∨ k = 66 ∨ (97 ≤ k ∧ k ≤ 116)) = false then (if ¬ mdl = 0 then tm_formulaKey (tm_end s) (i3 k) else tm_stackKey (tm_end s) (i3 k)) else tm_common (tm_end s) (i3 k)) (if k = 81 ∨ k = 83 ∨ k = 73 then aFn mdl k D else if k = 78 ∨ k = 66 ∨ k = 67 ∨ (97 ≤ k ∧ k ≤ 116) then (0, aNum mdl k D) else if mdl = 1 then (if isRk k = true then aForm k D else (1, D)) else if isOp k = true then aOper k D else aStack k D) := by
    by_cases gc : k = 81 ∨ k = 83 ∨ k = 73 ∨ k = 78 ∨ k = 67 ∨ k = 66 ∨ (97 ≤ k ∧ k ≤ 116)
    · rw [decide_eq_true gc, if_neg (show ¬ true = false by decide)]
      obtain ⟨p1, p2⟩ := rcommon (k := k) (by omega) hKe hv
      refine ⟨⟨fun q => (by cases q), fun _ => p1⟩, fr_trans fe p2.1, ?_⟩
      have p3 := p2.2
      by_cases gf : k = 81 ∨ k = 83 ∨ k = 73
      · rw [if_pos gf] at p3; rw [if_pos gf]; exact p3
      · rw [if_neg gf] at p3
        rw [if_neg gf, if_pos (show k = 78 ∨ k = 66 ∨ k = 67 ∨ (97 ≤ k ∧ k ≤ 116) by omega)]; exact p3
    · rw [decide_eq_false gc, if_pos (show false = false from rfl), if_neg (show ¬ (k = 81 ∨ k = 83 ∨ k = 73) by omega), if_neg (show ¬ (k = 78 ∨ k = 66 ∨ k = 67 ∨ (97 ≤ k ∧ k ≤ 116)) by omega)]
      by_cases g0 : mdl = 0
      · rw [if_neg (show ¬ ¬ mdl = 0 from fun q => q g0), if_neg (show ¬ mdl = 1 by omega)]
        obtain ⟨p1, p2⟩ := rstack hk0 de hv
        exact ⟨⟨fun _ => ⟨fun q => absurd g0 q, fun _ => p1⟩, fun q => (by cases q)⟩, fr_trans fe p2.1, p2.2⟩
      · rw [if_pos (show ¬ mdl = 0 from g0), if_pos (show mdl = 1 by omega)]
        obtain ⟨p1, p2⟩ := rformula hk0 hv de
        exact ⟨⟨fun _ => ⟨fun _ => p1, fun q => absurd q g0⟩, fun q => (by cases q)⟩, fr_trans fe p2.1, p2.2⟩
  by_cases gb : isBg k = true
  · rw [if_pos gb, if_pos (Or.inl gb)]
    obtain ⟨p1, p2⟩ := rent hk0 (Or.inl gb) h
    exact ⟨⟨fun _ => p1, fun q => (by rw [gb] at q; cases q)⟩, p2⟩
  · rw [if_neg gb]
    by_cases go : dOn D = true
    · rw [if_neg (show ¬ ¬ dOn D = true from fun q => q go)]
      by_cases g1 : k = 78
      · rw [if_pos g1, if_pos (show isBg k = true ∨ (dOn D = true ∧ (k = 78 ∨ k = 66)) from Or.inr ⟨go, Or.inl g1⟩)]
        obtain ⟨p1, p2⟩ := rent hk0 (Or.inr ⟨go, Or.inl g1⟩) h
        exact ⟨⟨fun q => absurd q gb, fun _ => ⟨fun q => absurd go q, fun _ => ⟨fun _ => p1, fun q => absurd g1 q⟩⟩⟩, p2⟩
      · rw [if_neg g1]
        by_cases g2 : k = 66
        · rw [if_neg (show ¬ ¬ k = 66 from fun q => q g2), if_pos (show isBg k = true ∨ (dOn D = true ∧ (k = 78 ∨ k = 66)) from Or.inr ⟨go, Or.inr g2⟩)]
          obtain ⟨p1, p2⟩ := rent hk0 (Or.inr ⟨go, Or.inr g2⟩) h
          exact ⟨⟨fun q => absurd q gb, fun _ => ⟨fun q => absurd go q, fun _ => ⟨fun q => absurd q g1, fun _ => ⟨fun q => absurd g2 q, fun _ => p1⟩⟩⟩⟩, p2⟩
        · rw [if_pos (show ¬ k = 66 from g2), if_neg (show ¬ (isBg k = true ∨ (dOn D = true ∧ (k = 78 ∨ k = 66))) from fun q => by rcases q with q | q; exact gb q; omega)]
          exact ⟨⟨fun q => absurd q gb, fun _ => ⟨fun q => absurd go q, fun _ => ⟨fun q => absurd q g1, fun _ => ⟨fun _ => rest.1, fun q => absurd q g2⟩⟩⟩⟩, rest.2⟩
    · rw [if_pos (show ¬ dOn D = true from go), if_neg (show ¬ (isBg k = true ∨ (dOn D = true ∧ (k = 78 ∨ k = 66))) from fun q => by rcases q with q | q; exact gb q; exact go q.1)]
      exact ⟨⟨fun q => absurd q gb, fun _ => ⟨fun _ => rest.1, fun q => absurd q go⟩⟩, rest.2⟩
