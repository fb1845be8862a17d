/-! the entry, and the whole line, at the reference -/
theorem rent_93 {e : aE} (hp : ePl e ≤ 2) : ∀ (n i : Nat) (s : xS) (o : Nat × (Nat → Int)), i ≤ ePl e → ePl e + 1 ≤ n + i → o.1 + (ePl e - i) ≤ 20 → gI s 231 75 = i3 (ePl e) → (∀ k, k < ePl e → gI s 231 (76 + k) = i3 ((48 + ePd e k : Nat) : Int)) → rln s o → tm_showEntry_93_ok n s (i3 i) ∧ fr Prln s (tm_showEntry_93 n s (i3 i)) ∧ rln (tm_showEntry_93 n s (i3 i)) (aSq (fun k => ((48 + ePd e k : Nat) : Int)) i (ePl e - i) o) := by
  intro n
  induction n with
  | zero => intro i s o k1 k2; omega
  | succ n ih =>
    intro i s o k1 k2 k3 h75 h76 h
    unfold tm_showEntry_93 tm_showEntry_93_ok
    have c1 : (gI s 231 75 ≤ i3 i) = (ePl e ≤ i) := by rw [h75]; exact i3_leN (by omega) (by omega)
    have e1 : i3 i + 1 = i3 (i + 1 : Nat) := by rw [i3_lit, i3_add]; rfl
    have e2 : (76 : Int32) + i3 i = i3 (76 + i : Nat) := by rw [i3_lit, i3_add]; rfl
    simp only [c1]
    rw [e1, e2]
    by_cases g : ePl e ≤ i
    · rw [if_pos g, show ePl e - i = 0 by omega]
      exact ⟨fun q => absurd g q, fr_refl .., h⟩
    · rw [if_neg g, i3_natN (by omega), h76 i (by omega)]
      obtain ⟨m, hm⟩ : ∃ m, ePl e - i = m + 1 := ⟨ePl e - i - 1, by omega⟩
      have hm' : ePl e - (i + 1) = m := by omega
      rw [hm]
      unfold aSq
      obtain ⟨y1, y2, y3⟩ := rshow (c := ((48 + ePd e i : Nat) : Int)) (by omega) h
      obtain ⟨p1, p2, p3⟩ := ih (i + 1) _ _ (by omega) (by omega) (by show o.1 + 1 + (ePl e - (i + 1)) ≤ 20; omega) ((y2.1 _ _ (by unfold Prln; omega)).1.trans h75) (fun k hk => (y2.1 _ _ (by unfold Prln; omega)).1.trans (h76 k hk)) y3
      rw [hm'] at p3
      exact ⟨fun _ => ⟨by rw [i3_inN (by omega)]; omega, y1, p1⟩, fr_trans y2 p2, p3⟩
theorem rE_ln {s t : xS} {e : aE} (f : fr Prln s t) (h : rE s 0 e) : rE t 0 e := by
  obtain ⟨h1, h2, h3, h4, h5⟩ := h
  have n : ∀ j, ¬ Prln 231 j := fun j => by unfold Prln; omega
  exact ⟨(f.1 _ _ (n _)).1.trans h1, (f.1 _ _ (n _)).1.trans h2, fun k hk => (f.1 _ _ (n _)).1.trans (h3 k hk), (f.1 _ _ (n _)).1.trans h4, fun w => ⟨(f.1 _ _ (n _)).1.trans (h5 w).1, (f.1 _ _ (n _)).1.trans (h5 w).2.1, fun k hk => (f.1 _ _ (n _)).1.trans ((h5 w).2.2 k hk)⟩⟩
theorem rent_23 {e : aE} (we : wE e) : ∀ (n i : Nat) (s : xS) (o : Nat × (Nat → Int)), i ≤ eN e → eN e + 1 ≤ n + i → o.1 ≤ 1 + i → rE s 0 e → rln s o → tm_showEntry_23_ok n s (i3 i) ∧ fr Prln s (tm_showEntry_23 n s (i3 i)) ∧ rln (tm_showEntry_23 n s (i3 i)) (bif eHp e then aSq (fun k => ((48 + ePd e k : Nat) : Int)) 0 (ePl e) (pu (pu (aSq (eCh e) i (eN e - i) o) 69) (bif ePm e then 45 else 43)) else aSq (eCh e) i (eN e - i) o) := by
  have hN := eN_le13 we
  have v5 := we.2.2.2.2.1
  intro n
  induction n with
  | zero => intro i s o k1 k2; omega
  | succ n ih =>
    intro i s o k1 k2 k3 he h
    obtain ⟨h1, h2, h3, h4, h5⟩ := he
    have he : rE s 0 e := ⟨h1, h2, h3, h4, h5⟩
    unfold tm_showEntry_23 tm_showEntry_23_ok
    have h59 : gI s 231 59 = i3 (eN e) := h2
    have h73 : gI s 231 73 = zb (eHp e) := h4
    have c1 : (gI s 231 59 ≤ i3 i) = (eN e ≤ i) := by rw [h59]; exact i3_leN (by omega) (by omega)
    have c73 : (gI s 231 73 = 1) = (eHp e = true) := by rw [h73]; cases eHp e <;> simp [zb]
    have e1 : i3 i + 1 = i3 (i + 1 : Nat) := by rw [i3_lit, i3_add]; rfl
    have e2 : (60 : Int32) + i3 i = i3 (60 + i : Nat) := by rw [i3_lit, i3_add]; rfl
    simp only [c1, c73]
    rw [e1, e2]
    by_cases g : eN e ≤ i
    · rw [if_pos g, show eN e - i = 0 by omega]
      cases hp : eHp e
      · rw [if_pos (show ¬ false = true by decide)]
        exact ⟨⟨fun _ q => (by cases q), fun q => absurd g q⟩, fr_refl .., h⟩
      · rw [if_neg (show ¬ ¬ true = true from fun q => q rfl)]
        obtain ⟨a1, a2, a3⟩ := rshow (c := 69) (by omega) h
        have a1' : tm_show_ok s 69 := a1
        have a2' : fr Prln s (tm_show s 69) := a2
        have a3' : rln (tm_show s 69) (pu o 69) := a3
        have he1 := rE_ln a2' he
        generalize tm_show s 69 = t at *
        obtain ⟨r1, r2, r3⟩ := he1.2.2.2.2 hp
        have r1' : gI t 231 74 = i3 (pm1 (ePm e)) := r1
        have es : (if (0 : Int32) ≤ gI t 231 74 then (43 : Int32) else 45) = i3 (bif ePm e then 45 else 43) := by rw [r1']; cases ePm e <;> rfl
        rw [es]
        obtain ⟨b1, b2, b3⟩ := rshow (c := (bif ePm e then 45 else 43)) (by show o.1 + 1 < 20; omega) a3'
        have he2 := rE_ln b2 he1
        generalize tm_show t (i3 (bif ePm e then 45 else 43)) = u at *
        obtain ⟨s1, s2, s3⟩ := he2.2.2.2.2 hp
        obtain ⟨d1, d2, d3⟩ := rent_93 v5 xfu 0 u _ (Nat.zero_le _) (by rw [xfu_eq]; omega) (by show o.1 + 1 + 1 + (ePl e - 0) ≤ 20; omega) s2 (fun k hk => s3 k hk) b3
        have d1' : tm_showEntry_93_ok xfu u 0 := d1
        exact ⟨⟨fun _ _ => ⟨a1', b1, d1'⟩, fun q => absurd g q⟩, fr_trans a2' (fr_trans b2 d2), d3⟩
    · rw [if_neg g]
      have h60 : gI s 231 (60 + i) = i3 (eCh e i) := h3 i (by omega)
      rw [i3_natN (by omega), h60]
      obtain ⟨m, hm⟩ : ∃ m, eN e - i = m + 1 := ⟨eN e - i - 1, by omega⟩
      have hm' : eN e - (i + 1) = m := by omega
      have hsq : aSq (eCh e) i (eN e - i) o = aSq (eCh e) (i + 1) (eN e - (i + 1)) (pu o (eCh e i)) := by rw [hm, hm']; rfl
      rw [hsq]
      obtain ⟨y1, y2, y3⟩ := rshow (c := eCh e i) (by omega) h
      obtain ⟨p1, p2, p3⟩ := ih (i + 1) _ _ (by omega) (by omega) (by show o.1 + 1 ≤ 1 + (i + 1); omega) (rE_ln y2 he) y3
      exact ⟨⟨fun q => absurd q g, fun _ => ⟨by rw [i3_inN (by omega)]; omega, y1, p1⟩⟩, fr_trans y2 p2, p3⟩
theorem rentL {s : xS} {o : Nat × (Nat → Int)} {e : aE} (we : wE e) (he : rE s 0 e) (ho : o.1 ≤ 0) (h : rln s o) : tm_showEntry_ok s ∧ fr Prln s (tm_showEntry s) ∧ rln (tm_showEntry s) (aEy e o) := by
  have hN := eN_le13 we
  rw [tm_showEntry_eq]
  unfold tm_showEntry_ok tm_showEntry_d
  have h58 : gI s 231 58 = i3 (pm1 (eMi e)) := he.1
  have es : (if (0 : Int32) ≤ gI s 231 58 then (32 : Int32) else 45) = i3 (bif eMi e then 45 else 32) := by rw [h58]; cases eMi e <;> rfl
  rw [es]
  obtain ⟨a1, a2, a3⟩ := rshow (c := (bif eMi e then 45 else 32)) (by omega) h
  obtain ⟨p1, p2, p3⟩ := rent_23 we xfu 0 _ _ (Nat.zero_le _) (by rw [xfu_eq]; omega) (by show o.1 + 1 ≤ 1 + 0; omega) (rE_ln a2 he) a3
  exact ⟨⟨a1, p1⟩, fr_trans a2 p2, p3⟩
theorem rpart_156 {s : xS} {o : Nat × (Nat → Int)} {p : Nat} (hp : p ≤ 2) (h : ∀ i, i < 24 → gI s 238 i = i3 (lnC o i)) : ∀ (n c : Nat) (x : Int64), c ≤ 8 → c + 1 ≤ n → tm_shown_156_ok n s (i3 p) x (i3 ((c : Int) - 1)) ∧ tm_shown_156 n s (i3 p) x (i3 ((c : Int) - 1)) = (aPart (lnC o) p c x, s) := by
  intro n
  induction n with
  | zero => intro c x k1 k2; omega
  | succ n ih =>
    intro c x k1 k2
    unfold tm_shown_156 tm_shown_156_ok
    have c1 : (i3 ((c : Int) - 1) < 0) = (c = 0) := by rw [i3_lit, i3_lt (by omega)]; apply propext; omega
    simp only [c1]
    cases c with
    | zero => rw [if_pos rfl]; exact ⟨fun q => absurd rfl q, rfl⟩
    | succ j =>
      rw [if_neg (Nat.succ_ne_zero j)]
      have ej : ((j + 1 : Nat) : Int) - 1 = (j : Int) := by omega
      rw [ej]
      have e2 : i3 (j : Int) + -1 = i3 ((j : Int) - 1) := by rw [i3_lit, i3_neg, i3_add]; exact congrArg i3 (by omega)
      have e3 : (8 : Int32) * i3 p + i3 (j : Int) = i3 (8 * p + j : Nat) := by rw [i3_lit, i3_mul, i3_add]; rfl
      rw [e2, e3, i3_natN (by omega), h _ (by omega)]
      unfold aPart
      obtain ⟨p1, p2⟩ := ih j ((x <<< ((8 : Int32).toInt64 &&& 63)) ||| (i3 (lnC o (8 * p + j))).toInt64) (by omega) (by omega)
      exact ⟨fun _ => ⟨by rw [i3_inN (by omega)]; omega, p1⟩, p2⟩
theorem rshown_29 {A : aA} {p : Nat} (hA : VA A) (hp : p ≤ 2) : ∀ (n i : Nat) (s : xS), i ≤ 24 → 25 ≤ n + i → RV s A → (∀ j, j < i → gI s 238 j = i3 (lnC (0, fun _ => 32) j)) → tm_shown_29_ok n s (i3 p) (i3 i) ∧ fr Prln s (tm_shown_29 n s (i3 p) (i3 i)).2 ∧ (tm_shown_29 n s (i3 p) (i3 i)).1 = aPart (lnC (aLine A)) p 8 0 := by
  have hff := hA.1.2.2.1
  have hpl := hA.2.2.2.2.2.1
  intro n
  induction n with
  | zero => intro i s k1 k2; omega
  | succ n ih =>
    intro i s k1 k2 h hl
    unfold tm_shown_29 tm_shown_29_ok
    have c1 : ((24 : Int32) ≤ i3 i) = (24 ≤ i) := by rw [i3_lit, i3_le (by omega)]; apply propext; omega
    have e1 : i3 i + 1 = i3 (i + 1 : Nat) := by rw [i3_lit, i3_add]; rfl
    have cF : (gI s 230 5 ≤ 0) = (qF A = 0) := by rw [h.2.1, i3_lit, i3_le (by omega)]; apply propext; omega
    have hO : gI s 231 57 = zb (dOn (qD A)) := h.1.1.2.2.2.2.2.1
    have cO : (gI s 231 57 = 1) = (dOn (qD A) = true) := by rw [hO]; cases dOn (qD A) <;> simp [zb]
    simp only [c1, cF, cO]
    rw [e1]
    by_cases g : 24 ≤ i
    · rw [if_pos g]
      have f0 : fr Prln s (sI s 230 20 0) := fr_sI (fr_refl ..) (Or.inl ⟨rfl, rfl⟩)
      have l0 : rln (sI s 230 20 0) (0, fun _ => 32) := ⟨by rw [gI_sI, if_pos ⟨rfl, rfl⟩]; rfl, fun j hj => by rw [gI_sI, if_neg (by omega)]; exact hl j (by omega)⟩
      have hv := hA.1.1
      have d0 : rD (sI s 230 20 0) 0 (qD A) := rD_ln f0 hv h.1.1
      have part : ∀ {u : xS} {o : Nat × (Nat → Int)}, (∀ i, i < 24 → gI u 238 i = i3 (lnC o i)) → tm_shown_156_ok xfu u (i3 p) 0 7 ∧ tm_shown_156 xfu u (i3 p) 0 7 = (aPart (lnC o) p 8 0, u) := by
        intro u o hu
        exact rpart_156 hp hu xfu 8 0 (by omega) (by rw [xfu_eq]; omega)
      by_cases gF : qF A = 0
      · rw [if_pos gF]
        cases gO : dOn (qD A)
        · rw [if_pos (show ¬ false = true by decide)]
          obtain ⟨y1, y2, y3⟩ := rnumL (sc := qSc A) (p := (qPl A).toNat) hv d0 (by omega) (by show 0 ≤ 0; omega) (by rw [gI_sI, if_neg (by omega)]; exact h.2.2.2.2.2.2.2.1.1) (by rw [gI_sI, if_neg (by omega), h.2.2.2.2.2.2.2.1.2]; exact congrArg i3 (by omega)) l0
          have hL : aLine A = aNb (dN (qD A) 10) (qSc A) (qPl A).toNat (0, fun _ => 32) := by unfold aLine; rw [if_neg (fun q => q gF), gO]; rfl
          rw [← hL] at y3
          obtain ⟨z1, z2⟩ := part y3.2
          rw [z2]
          exact ⟨⟨fun _ => ⟨fun _ => ⟨fun _ => ⟨y1, z1⟩, fun q => (by cases q)⟩, fun q => absurd gF q⟩, fun q => absurd g q⟩, fr_trans f0 y2, rfl⟩
        · rw [if_neg (show ¬ ¬ true = true from fun q => q rfl)]
          obtain ⟨y1, y2, y3⟩ := rentL (hv.2.2.2.2.2 gO).1 (d0.2.2.2.2.2.2 gO) (by show 0 ≤ 0; omega) l0
          have hL : aLine A = aEy (dE (qD A)) (0, fun _ => 32) := by unfold aLine; rw [if_neg (fun q => q gF), gO]; rfl
          rw [← hL] at y3
          obtain ⟨z1, z2⟩ := part y3.2
          rw [z2]
          exact ⟨⟨fun _ => ⟨fun _ => ⟨fun q => absurd rfl q, fun _ => ⟨y1, z1⟩⟩, fun q => absurd gF q⟩, fun q => absurd g q⟩, fr_trans f0 y2, rfl⟩
      · rw [if_neg gF]
        have hL : aLine A = aFlt (qF A) (0, fun _ => 32) := by unfold aLine; rw [if_pos gF]
        have e5 : (48 : Int32) + gI s 230 5 = i3 (48 + qF A) := by rw [h.2.1, i3_lit, i3_add]
        rw [e5]
        have f6 : fr Prln s (sI (sI (sI (sI (sI (sI (sI s 230 20 0) 238 0 70) 238 1 65) 238 2 85) 238 3 76) 238 4 84) 238 6 (i3 (48 + qF A))) := fr_sI (fr_sI (fr_sI (fr_sI (fr_sI (fr_sI f0 (Or.inr rfl)) (Or.inr rfl)) (Or.inr rfl)) (Or.inr rfl)) (Or.inr rfl)) (Or.inr rfl)
        obtain ⟨z1, z2⟩ := part (u := sI (sI (sI (sI (sI (sI (sI s 230 20 0) 238 0 70) 238 1 65) 238 2 85) 238 3 76) 238 4 84) 238 6 (i3 (48 + qF A))) (o := aLine A) (fun j hj => by
          have h0 := l0.2 j hj
          rw [hL]
          simp only [gI_sI] at h0 ⊢
          rw [if_neg (by omega)] at h0
          unfold lnC at h0 ⊢
          show _ = i3 (if 20 ≤ j then 0 else if 7 ≤ j then 32 else if j = 6 then 48 + qF A else if j = 5 then 32 else if j = 4 then 84 else if j = 3 then 76 else if j = 2 then 85 else if j = 1 then 65 else if j = 0 then 70 else 32)
          have hj2 : j = 0 ∨ j = 1 ∨ j = 2 ∨ j = 3 ∨ j = 4 ∨ j = 5 ∨ j = 6 ∨ 7 ≤ j := by omega
          rcases hj2 with w | w | w | w | w | w | w | w
          · subst w; rfl
          · subst w; rfl
          · subst w; rfl
          · subst w; rfl
          · subst w; rfl
          · subst w; exact h0
          · subst w; rfl
          · rw [if_neg (by omega), if_neg (by omega), if_neg (by omega), if_neg (by omega), if_neg (by omega), if_neg (by omega), if_neg (by omega), h0]
            by_cases w2 : 20 ≤ j
            · rw [if_pos w2, if_pos w2]
            · rw [if_neg w2, if_neg w2, if_pos (Nat.zero_le j), if_pos w])
        rw [z2]
        exact ⟨⟨fun _ => ⟨fun q => absurd q gF, fun _ => z1⟩, fun q => absurd g q⟩, f6, rfl⟩
    · rw [if_neg g, i3_natN (by omega)]
      have c20 : ((20 : Int32) ≤ i3 i) = (20 ≤ i) := by rw [i3_lit, i3_le (by omega)]; apply propext; omega
      have ec : (if (20 : Int32) ≤ i3 i then (0 : Int32) else 32) = i3 (lnC (0, fun _ => 32) i) := by
        simp only [c20]
        unfold lnC
        by_cases w : 20 ≤ i
        · rw [if_pos w, if_pos w]; rfl
        · rw [if_neg w, if_neg w, if_pos (Nat.zero_le i)]; rfl
      rw [ec]
      have f1 : fr (fun b j => b = 238) s (sI s 238 i (i3 (lnC (0, fun _ => 32) i))) := fr_sI (fr_refl ..) rfl
      have h1 : RV (sI s 238 i (i3 (lnC (0, fun _ => 32) i))) A := by
        obtain ⟨q1, q2, q3, q4, q5, q6, q7, q8, q9, q10⟩ := h
        exact ⟨RVd_fr f1 (fun j w => by omega) (fun j w => by omega) (by omega) hA.1.1 q1, RVf_fr f1 (by omega) q2, RVr_fr f1 (by omega) q3, RVh_fr f1 (fun j w => by omega) (fun j w => by omega) (by omega) hA.2.1 q4, RVp_fr f1 (fun j => by omega) q5, RVe_fr f1 (by omega) (by omega) (fun j => by omega) q6, RVs_fr f1 (fun j w => by omega) (fun b j w => by omega) q7, RVl_fr f1 (fun j w => by omega) q8, RVt_fr f1 (by omega) (fun j => by omega) q9, RVo_fr f1 (by omega) (fun j => by omega) q10⟩
      obtain ⟨p1, p2, p3⟩ := ih (i + 1) (sI s 238 i (i3 (lnC (0, fun _ => 32) i))) (by omega) (by omega) h1 (fun j hj => by
        rw [gI_sI]
        by_cases w : j = i
        · rw [if_pos ⟨rfl, w⟩, w]
        · rw [if_neg (fun q => w q.2)]; exact hl j (by omega))
      exact ⟨⟨fun q => absurd q g, fun _ => ⟨by rw [i3_inN (by omega)]; omega, p1⟩⟩, fr_trans (fr_mono f1 (fun b j q => Or.inr q)) p2, p3⟩
theorem rshown {s : xS} {A : aA} {p : Nat} (hA : VA A) (hp : p ≤ 2) (h : RV s A) : tm_shown_ok s (i3 p) ∧ fr Prr s (tm_shown s (i3 p)).2 ∧ (tm_shown s (i3 p)).1 = aPart (lnC (aLine A)) p 8 0 ∧ RV (tm_shown s (i3 p)).2 A ∧ gI (tm_shown s (i3 p)).2 230 0 = 0 := by
  have c0 : ¬ i3 (p : Int) < 0 := by rw [i3_lit, i3_lt (by omega)]; omega
  have c2 : i3 (p : Int) ≤ 2 := by rw [i3_lit, i3_le (by omega)]; omega
  rw [tm_shown_eq]
  unfold tm_shown_ok tm_shown_d
  rw [decide_eq_false c0, decide_eq_true c2]
  have e : zb (false || !true) = 0 := rfl
  rw [e, if_pos (show (0 : Int32) ≤ 0 by decide)]
  obtain ⟨f0, h0, z0⟩ := RV_0 (v := 0) hA h
  generalize sI s 230 0 0 = t at *
  obtain ⟨p1, p2, p3⟩ := rshown_29 hA hp xfu 0 t (Nat.zero_le _) (by rw [xfu_eq]; omega) h0 (fun j hj => absurd hj (Nat.not_lt_zero j))
  have p1' : tm_shown_29_ok xfu t (i3 p) 0 := p1
  have p2' : fr Prln t (tm_shown_29 xfu t (i3 p) 0).2 := p2
  have nl : ∀ b j, ¬ ((b = 230 ∧ j = 20) ∨ b = 238) → ¬ Prln b j := fun b j w => by unfold Prln; exact w
  refine ⟨fun _ => p1', fr_trans f0 (fr_mono p2' (fun b j q => by unfold Prln at q; unfold Prr; omega)), p3, ?_, (p2'.1 _ _ (nl _ _ (by omega))).1.trans z0⟩
  obtain ⟨q1, q2, q3, q4, q5, q6, q7, q8, q9, q10⟩ := h0
  exact ⟨RVd_fr p2' (fun j w => nl _ _ (by omega)) (fun j w => nl _ _ (by omega)) (nl _ _ (by omega)) hA.1.1 q1, RVf_fr p2' (nl _ _ (by omega)) q2, RVr_fr p2' (nl _ _ (by omega)) q3, RVh_fr p2' (fun j w => nl _ _ (by omega)) (fun j w => nl _ _ (by omega)) (nl _ _ (by omega)) hA.2.1 q4, RVp_fr p2' (fun j => nl _ _ (by omega)) q5, RVe_fr p2' (nl _ _ (by omega)) (nl _ _ (by omega)) (fun j => nl _ _ (by omega)) q6, RVs_fr p2' (fun j w => nl _ _ (by omega)) (fun b j w => nl _ _ (by omega)) q7, RVl_fr p2' (fun j w => nl _ _ (by omega)) q8, RVt_fr p2' (nl _ _ (by omega)) (fun j => nl _ _ (by omega)) q9, RVo_fr p2' (nl _ _ (by omega)) (fun j => nl _ _ (by omega)) q10⟩
