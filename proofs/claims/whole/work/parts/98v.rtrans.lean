/-! the whole translation, at the reference -/
def rFn (s : xS) (r : Int32 × xS) (q : Int × (Nat × (Nat → Int))) : Prop := fr Prt s r.2 ∧ r.1 = i3 (if q.1 = 0 then (q.2.1 : Int) else -q.1) ∧ gI r.2 230 24 = i3 (if q.1 = 0 then (q.2.1 : Int) else 0) ∧ (q.1 = 0 → ∀ i, i < q.2.1 → gI r.2 240 i = i3 (q.2.2 i))
theorem r83bad {s : xS} {c : Int} {o : Nat × (Nat → Int)} (hc : 1 ≤ c ∧ c ≤ 9) : tm_translate_83_ok xfu s (i3 c) ∧ rFn s (tm_translate_83 xfu s (i3 c)) (c, o) := by
  obtain ⟨n, hn⟩ : ∃ n, xfu = n + 1 := ⟨xfu - 1, by rw [xfu_eq]⟩
  rw [hn]
  unfold tm_translate_83 tm_translate_83_ok
  rw [tm_translate_101_eq]
  unfold tm_translate_101_d
  have c0 : ¬ i3 c = 0 := by rw [i3_lit, i3_eq (by omega)]; omega
  have c1 : ¬ i3 c ≤ 0 := by rw [i3_lit, i3_le (by omega)]; omega
  rw [if_pos (show ¬ i3 c = 0 from c0), if_neg c1, if_neg c1, i3_neg]
  have hc0 : ¬ c = 0 := by omega
  refine ⟨fun q => absurd q c0, rt_sI (by omega) (fr_refl ..), ?_, ?_, fun q => absurd q hc0⟩
  · dsimp only; rw [if_neg hc0]
  · dsimp only; rw [if_neg hc0, gI_sI, if_pos ⟨rfl, rfl⟩]; rfl
theorem rtl83 {T : Nat → Int} {P : Int} {E G : Bool} : ∀ (n m : Nat) (s : xS) (O : Nat × (Nat → Int)) (g : Bool), m + 1 ≤ n → O.1 + m ≤ 100 → aBr T m = false → rtr s (O, (m, T), P, E, G) → tm_translate_83_ok n s 0 ∧ rFn s (tm_translate_83 n s 0) (0, (aCO T 0 m (O, g)).1) := by
  intro n
  induction n with
  | zero => intro m s O g k1; omega
  | succ n ih =>
    intro m s O g k1 k2 k3 h
    unfold tm_translate_83 tm_translate_83_ok
    rw [if_neg (show ¬ ¬ (0 : Int32) = 0 from fun q => q rfl)]
    have hn : m ≤ 8 := h.1.2.2.1
    have em : gI s 230 26 = i3 m := h.1.1
    have c0 : (gI s 230 26 ≤ 0) = (m = 0) := by rw [em, i3_lit, i3_le (by omega)]; apply propext; omega
    simp only [c0]
    cases m with
    | zero =>
      rw [if_pos rfl, tm_translate_101_eq]
      unfold tm_translate_101_d
      rw [if_pos (show (0 : Int32) ≤ 0 by decide), if_pos (show (0 : Int32) ≤ 0 by decide)]
      have e24 : gI s 230 24 = i3 O.1 := h.2.2.2.2.1
      refine ⟨fun _ q => absurd rfl q, rt_sI (by omega) (fr_refl ..), e24, ?_, fun _ i hi => ?_⟩
      · rw [gI_sI, if_pos ⟨rfl, rfl⟩]; exact e24
      · rw [gI_sI, if_neg (by omega)]; exact h.2.2.2.2.2 i hi
    | succ j =>
      rw [if_neg (Nat.succ_ne_zero j)]
      have g40 : ¬ T j = 40 := by
        intro w
        rw [show aBr T (j + 1) = (aBr T j || decide (T j = 40)) from rfl, decide_eq_true w, Bool.or_true] at k3
        cases k3
      have hb : aBr T j = false := by
        rw [show aBr T (j + 1) = (aBr T j || decide (T j = 40)) from rfl, decide_eq_false g40, Bool.or_false] at k3
        exact k3
      obtain ⟨y1, y2, y3⟩ := rshut (by omega) h
      rw [if_neg g40] at y3
      have ec : aCO T 0 (j + 1) (O, g) = aCO T 0 j (pu O (T j), false) := by rw [aCO, if_neg (by omega), if_neg g40]
      rw [ec]
      obtain ⟨p1, p2, p3, p4⟩ := ih j (tm_shut s) (pu O (T j)) false (by omega) (by show O.1 + 1 + j ≤ 100; omega) hb y3
      exact ⟨fun _ _ => ⟨y1, p1⟩, fr_trans y2 p2, p3, p4⟩
theorem rtl58 {s : xS} {t : aT} (hP : 0 ≤ tP t ∧ tP t ≤ 2) (ho : (tO t).1 + tN t ≤ 100) (h : rtr s t) : tm_translate_58_ok s 0 ∧ rFn s (tm_translate_58 s 0) (if tP t = 2 ∧ aBr (tT t) (tN t) = false then (0, (aCO (tT t) 0 (tN t) (tO t, tG t)).1) else (5, tO t)) := by
  have hn : tN t ≤ 8 := h.1.2.2.1
  have hNm := aNm_le (tT t) (tN t)
  have em : gI s 230 26 = i3 (tN t) := h.1.1
  obtain ⟨n1, n2⟩ := rnum h.1
  have c32 : (gI s 230 32 = 2) = (tP t = 2) := by rw [h.2.1, i3_lit, i3_eq (by omega)]
  have cn : (gI s 230 26 ≤ tm_numbersInRow s) = (aBr (tT t) (tN t) = false) := by rw [n2, em, i3_le (by omega)]; apply propext; rw [nm_br]; omega
  rw [tm_translate_58_eq]
  unfold tm_translate_58_ok tm_translate_58_d
  rw [if_neg (show ¬ ¬ (0 : Int32) = 0 from fun q => q rfl)]
  simp only [c32, cn]
  obtain ⟨b1, b2⟩ := r83bad (s := s) (c := 5) (o := tO t) (by omega)
  have b1' : tm_translate_83_ok xfu s 5 := b1
  have b2' : rFn s (tm_translate_83 xfu s 5) (5, tO t) := b2
  by_cases g2 : tP t = 2
  · rw [if_neg (show ¬ ¬ tP t = 2 from fun q => q g2)]
    cases hb : aBr (tT t) (tN t)
    · rw [if_pos (show false = false from rfl), if_pos ⟨g2, rfl⟩]
      obtain ⟨y1, y2⟩ := rtl83 (T := tT t) (P := tP t) (E := tEn t) (G := tG t) xfu (tN t) s (tO t) (tG t) (by rw [xfu_eq]; omega) ho hb h
      exact ⟨⟨fun q => absurd trivial q, fun _ => ⟨fun q => absurd g2 q, fun _ => ⟨n1, fun _ => y1, fun q => absurd rfl q⟩⟩⟩, y2⟩
    · rw [if_neg (show ¬ true = false by decide), if_neg (show ¬ (tP t = 2 ∧ true = false) from fun q => by cases q.2)]
      exact ⟨⟨fun q => absurd trivial q, fun _ => ⟨fun q => absurd g2 q, fun _ => ⟨n1, fun q => (by cases q), fun _ => b1'⟩⟩⟩, b2'⟩
  · rw [if_pos (show ¬ tP t = 2 from g2), if_neg (show ¬ (tP t = 2 ∧ _) from fun q => g2 q.1)]
    exact ⟨⟨fun q => absurd trivial q, fun _ => ⟨fun _ => b1', fun q => absurd q g2⟩⟩, b2'⟩
theorem r58bad {s : xS} {c : Int} {o : Nat × (Nat → Int)} (hc : 1 ≤ c ∧ c ≤ 9) : tm_translate_58_ok s (i3 c) ∧ rFn s (tm_translate_58 s (i3 c)) (c, o) := by
  rw [tm_translate_58_eq]
  unfold tm_translate_58_ok tm_translate_58_d
  have c0 : ¬ i3 c = 0 := by rw [i3_lit, i3_eq (by omega)]; omega
  rw [if_pos (show ¬ i3 c = 0 from c0)]
  obtain ⟨b1, b2⟩ := r83bad (s := s) (c := c) (o := o) hc
  exact ⟨⟨fun _ => b1, fun q => absurd q c0⟩, b2⟩
theorem rFn_tr {s u : xS} {r : Int32 × xS} {q : Int × (Nat × (Nat → Int))} (f : fr Prt s u) (h : rFn u r q) : rFn s r q := ⟨fr_trans f h.1, h.2⟩
theorem rFn_o {s : xS} {r : Int32 × xS} {c : Int} {o o' : Nat × (Nat → Int)} (hc : c ≠ 0) (h : rFn s r (c, o)) : rFn s r (c, o') := by
  obtain ⟨h1, h2, h3, h4⟩ := h
  dsimp only at h2 h3
  rw [if_neg hc] at h2 h3
  refine ⟨h1, ?_, ?_, fun q => absurd q hc⟩
  · dsimp only; rw [if_neg hc]; exact h2
  · dsimp only; rw [if_neg hc]; exact h3
/-- going on with a fault ends -/
theorem r34bad {s : xS} {c : Int} {o : Nat × (Nat → Int)} (n : Nat) (i : Int32) (hc : 1 ≤ c ∧ c ≤ 9) : tm_translate_34_ok (n + 1) s (i3 c) i ∧ rFn s (tm_translate_34 (n + 1) s (i3 c) i) (c, o) := by
  unfold tm_translate_34 tm_translate_34_ok
  have c0 : ¬ i3 c = 0 := by rw [i3_lit, i3_eq (by omega)]; omega
  obtain ⟨y1, y2⟩ := r58bad (s := s) (c := c) (o := o) hc
  by_cases g : gI s 230 22 ≤ i
  · rw [if_pos g]
    exact ⟨⟨fun _ => y1, fun q => absurd g q⟩, y2⟩
  · rw [if_neg g, if_pos (show ¬ i3 c = 0 from c0)]
    exact ⟨⟨fun q => absurd q g, fun _ => ⟨fun _ => y1, fun q => absurd q c0⟩⟩, y2⟩
theorem rtl34 {A : aA} (hA : VA A) : ∀ (n i : Nat) (s : xS) (t : aT), i ≤ aTn A → qTn A + 2 ≤ n + i → wT i t → (gI s 230 22 = i3 (qTn A) ∧ ∀ j, j < qTn A → gI s 239 j = i3 (qTx A j)) → rtr s t → tm_translate_34_ok n s 0 (i3 i) ∧ rFn s (tm_translate_34 n s 0 (i3 i)) (aTall (qTx A) (aTn A - i) i t) := by
  have hT := hA.2.2.2.2.2.2.1
  have htx := hA.2.2.2.2.2.2.2.1
  have hle := aTn_le A
  have hN1 : qTn A ≤ aTn A + 1 := by unfold aTn; split <;> omega
  intro n
  induction n with
  | zero => intro i s t k1 k2; omega
  | succ n ih =>
    intro i s t k1 k2 hw ht h
    obtain ⟨w1, w2, w3, w4, w5⟩ := hw
    have hw : wT i t := ⟨w1, w2, w3, w4, w5⟩
    unfold tm_translate_34 tm_translate_34_ok
    rw [if_neg (show ¬ ¬ (0 : Int32) = 0 from fun q => q rfl)]
    have c1 : (gI s 230 22 ≤ i3 i) = (qTn A ≤ i) := by rw [ht.1]; exact i3_leN (by omega) (by omega)
    have e1 : i3 i + 1 = i3 (i + 1 : Nat) := by rw [i3_lit, i3_add]; rfl
    simp only [c1, e1]
    obtain ⟨z1, z2⟩ := rtl58 w3 (by omega) h
    by_cases g : i < aTn A
    · rw [if_neg (show ¬ qTn A ≤ i by omega)]
      obtain ⟨m, hm⟩ : ∃ m, aTn A - i = m + 1 := ⟨aTn A - i - 1, by omega⟩
      have hm' : aTn A - (i + 1) = m := by omega
      rw [hm]
      unfold aTall
      have hx := htx i (by omega)
      obtain ⟨n', hn'⟩ : ∃ n', n = n' + 1 := ⟨n - 1, by omega⟩
      by_cases g61 : qTx A i = 61
      · -- '=' not at the end
        have hnl : ¬ i = qTn A - 1 := by
          intro w
          have : aTn A = qTn A - 1 := by unfold aTn; rw [if_pos ⟨by omega, by rw [← w]; exact g61⟩]
          omega
        have hs : tm_translated_ok s (i3 i) ∧ tm_translated s (i3 i) = (1, s) := by
          rw [tm_translated_eq]
          unfold tm_translated_ok tm_translated_d
          have e61 : gI s 239 i = 61 := by rw [ht.2 i (by omega), g61]; rfl
          have el : ¬ gI s 230 22 - 1 ≤ i3 i := by rw [ht.1, i3_lit, i3_sub, i3_le (by omega)]; omega
          rw [i3_natN (by omega), if_neg (show ¬ ¬ gI s 239 i = 61 from fun q => q e61), if_neg el]
          exact ⟨⟨by rw [i3_inN (by omega)]; omega, fun q => absurd e61 q⟩, rfl⟩
        have ha : aT1 (qTx A i) t = (1, t) := by rw [g61]; rfl
        rw [ha, if_neg (show ¬ (1 : Int) = 0 by decide), hs.2]
        obtain ⟨y1, y2⟩ := r34bad (s := s) (c := 1) (o := tO t) n' (i3 (i + 1 : Nat)) (by omega)
        rw [hn']
        exact ⟨⟨fun q => absurd q (by omega), fun _ => ⟨fun q => absurd trivial q, fun _ => ⟨hs.1, y1⟩⟩⟩, y2⟩
      · obtain ⟨y1, y2, y3, y4⟩ := rt1 (i := i) (k := qTx A i) (by omega) (ht.2 i (by omega)) (by omega) g61 w3 w4 (by omega) h
        have hc := aT1_c (k := qTx A i) (t := t)
        by_cases g2 : (aT1 (qTx A i) t).1 = 0
        · rw [if_pos g2]
          have e0 : (tm_translated s (i3 i)).1 = 0 := by rw [y3, g2]; rfl
          rw [e0]
          obtain ⟨p1, p2⟩ := ih (i + 1) (tm_translated s (i3 i)).2 (aT1 (qTx A i) t).2 (by omega) (by omega) (wT_1 hw g2) ⟨(y2.1 _ _ (by unfold Prt; omega)).1.trans ht.1, fun j hj => (y2.1 _ _ (by unfold Prt; omega)).1.trans (ht.2 j hj)⟩ (y4 g2)
          rw [hm'] at p2
          exact ⟨⟨fun q => absurd q (by omega), fun _ => ⟨fun q => absurd trivial q, fun _ => ⟨y1, p1⟩⟩⟩, rFn_tr y2 p2⟩
        · rw [if_neg g2, y3, hn']
          obtain ⟨p1, p2⟩ := r34bad (s := (tm_translated s (i3 i)).2) (c := (aT1 (qTx A i) t).1) (o := tO t) n' (i3 (i + 1 : Nat)) (by omega)
          exact ⟨⟨fun q => absurd q (by omega), fun _ => ⟨fun q => absurd trivial q, fun _ => ⟨y1, p1⟩⟩⟩, rFn_tr y2 p2⟩
    · rw [show aTn A - i = 0 by omega]
      unfold aTall
      have hi : i = aTn A := by omega
      by_cases g3 : qTn A ≤ i
      · rw [if_pos g3]
        exact ⟨⟨fun _ => z1, fun q => absurd g3 q⟩, z2⟩
      · rw [if_neg g3]
        have hlast : i = qTn A - 1 := by omega
        have g61 : qTx A (qTn A - 1) = 61 := by
          by_cases w : 0 < qTn A ∧ qTx A (qTn A - 1) = 61
          · exact w.2
          · have : aTn A = qTn A := by unfold aTn; rw [if_neg w]
            omega
        have c32 : (gI s 230 32 = 1) = (tP t = 1) := by rw [h.2.1, i3_lit, i3_eq (by omega)]
        have hs : tm_translated_ok s (i3 i) ∧ tm_translated s (i3 i) = ((if tP t = 1 then (5 : Int32) else 0), s) := by
          rw [tm_translated_eq]
          unfold tm_translated_ok tm_translated_d
          have e61 : gI s 239 i = 61 := by rw [ht.2 i (by omega), hlast, g61]; rfl
          have el : gI s 230 22 - 1 ≤ i3 i := by rw [ht.1, i3_lit, i3_sub, i3_le (by omega)]; omega
          rw [i3_natN (by omega), if_neg (show ¬ ¬ gI s 239 i = 61 from fun q => q e61), if_pos el]
          simp only [c32]
          exact ⟨⟨by rw [i3_inN (by omega)]; omega, fun q => absurd e61 q⟩, trivial⟩
        rw [hs.2]
        dsimp only
        obtain ⟨n', hn'⟩ : ∃ n', n = n' + 1 := ⟨n - 1, by omega⟩
        by_cases gp : tP t = 1
        · rw [if_pos gp, if_neg (show ¬ (tP t = 2 ∧ aBr (tT t) (tN t) = false) from fun q => by omega)]
          obtain ⟨y1, y2⟩ := r34bad (s := s) (c := 5) (o := tO t) n' (i3 (i + 1 : Nat)) (by omega)
          have y1' : tm_translate_34_ok (n' + 1) s 5 (i3 (i + 1 : Nat)) := y1
          rw [hn']
          exact ⟨⟨fun q => absurd q g3, fun _ => ⟨fun q => absurd trivial q, fun _ => ⟨hs.1, y1'⟩⟩⟩, y2⟩
        · rw [if_neg gp, hn']
          have z3 : tm_translate_34_ok (n' + 1) s 0 (i3 (i + 1 : Nat)) ∧ tm_translate_34 (n' + 1) s 0 (i3 (i + 1 : Nat)) = tm_translate_58 s 0 := by
            unfold tm_translate_34 tm_translate_34_ok
            have c2 : gI s 230 22 ≤ i3 (i + 1 : Nat) := by rw [ht.1, i3_le (by omega)]; omega
            rw [if_pos c2]
            exact ⟨⟨fun _ => z1, fun q => absurd c2 q⟩, rfl⟩
          rw [z3.2]
          exact ⟨⟨fun q => absurd q g3, fun _ => ⟨fun q => absurd trivial q, fun _ => ⟨hs.1, z3.1⟩⟩⟩, z2⟩
theorem rtrans {s : xS} {A : aA} (hA : VA A) (h : RV s A) : tm_translate_ok s ∧ fr Prr s (tm_translate s).2 ∧ (tm_translate s).1 = i3 (aTrans A).1 ∧ RV (tm_translate s).2 (aTrans A).2 := by
  have hT := hA.2.2.2.2.2.2.1
  rw [tm_translate_eq]
  unfold tm_translate_ok tm_translate_d
  obtain ⟨fz, hz, _⟩ := RV_0 (v := 0) hA h
  generalize sI s 230 0 0 = s1 at *
  obtain ⟨q1, q2, q3, q4, q5, q6, q7, q8, q9, q10⟩ := hz
  have f0 : fr Prt s1 (sI (sI (sI (sI (sI s1 230 24 0) 230 26 0) 230 32 0) 230 33 0) 230 27 0) := rt_sI (by omega) (rt_sI (by omega) (rt_sI (by omega) (rt_sI (by omega) (rt_sI (by omega) (fr_refl ..)))))
  have h0 : rtr (sI (sI (sI (sI (sI s1 230 24 0) 230 26 0) 230 32 0) 230 33 0) 230 27 0) (aT0 (qOk A)) := by
    refine ⟨⟨?_, fun i hi => absurd hi (Nat.not_lt_zero i), by show 0 ≤ 8; omega, fun i hi => absurd hi (Nat.not_lt_zero i)⟩, ?_, ?_, ?_, ?_, fun i hi => absurd hi (Nat.not_lt_zero i)⟩
    · rw [gI_sI, if_neg (by omega), gI_sI, if_neg (by omega), gI_sI, if_neg (by omega), gI_sI, if_pos ⟨rfl, rfl⟩]; rfl
    · rw [gI_sI, if_neg (by omega), gI_sI, if_neg (by omega), gI_sI, if_pos ⟨rfl, rfl⟩]; rfl
    · rw [gI_sI, if_neg (by omega), gI_sI, if_pos ⟨rfl, rfl⟩]; rfl
    · rw [gI_sI, if_pos ⟨rfl, rfl⟩]; rfl
    · rw [gI_sI, if_neg (by omega), gI_sI, if_neg (by omega), gI_sI, if_neg (by omega), gI_sI, if_neg (by omega), gI_sI, if_pos ⟨rfl, rfl⟩]; rfl
  generalize sI (sI (sI (sI (sI s1 230 24 0) 230 26 0) 230 32 0) 230 33 0) 230 27 0 = u at *
  obtain ⟨p1, p2⟩ := rtl34 hA xfu 0 u (aT0 (qOk A)) (Nat.zero_le _) (by rw [xfu_eq]; omega) (wT_0 _) ⟨(f0.1 _ _ (by unfold Prt; omega)).1.trans q9.1, fun j hj => (f0.1 _ _ (by unfold Prt; omega)).1.trans (q9.2 j hj)⟩ h0
  have p1' : tm_translate_34_ok xfu u 0 0 := p1
  have p2' : rFn u (tm_translate_34 xfu u 0 0) (aTres A) := p2
  obtain ⟨k1, k2, k3, k4⟩ := p2'
  have f1 := fr_trans f0 k1
  have fin : ∀ {o : Nat} {ok : Nat → Int}, gI (tm_translate_34 xfu u 0 0).2 230 24 = i3 o → (∀ i, i < o → gI (tm_translate_34 xfu u 0 0).2 240 i = i3 (ok i)) → RV (tm_translate_34 xfu u 0 0).2 (zO A o ok) := fun h1 h2 => ⟨RVd_fr f1 (fun j w => by unfold Prt; omega) (fun j w => by unfold Prt; omega) (by unfold Prt; omega) hA.1.1 q1, RVf_fr f1 (by unfold Prt; omega) q2, RVr_fr f1 (by unfold Prt; omega) q3, RVh_fr f1 (fun j w => by unfold Prt; omega) (fun j w => by unfold Prt; omega) (by unfold Prt; omega) hA.2.1 q4, RVp_fr f1 (fun j => by unfold Prt; omega) q5, RVe_fr f1 (by unfold Prt; omega) (by unfold Prt; omega) (fun j => by unfold Prt; omega) q6, RVs_fr f1 (fun j w => by unfold Prt; omega) (fun b j w => by unfold Prt; omega) q7, RVl_fr f1 (fun j w => by unfold Prt; omega) q8, RVt_fr f1 (by unfold Prt; omega) (fun j => by unfold Prt; omega) q9, h1, h2⟩
  refine ⟨p1', fr_trans fz (fr_mono f1 (fun b j q => by unfold Prt at q; unfold Prr; omega)), ?_⟩
  unfold aTrans
  by_cases g : (aTres A).1 = 0
  · rw [if_pos g] at k2 k3
    rw [if_pos g]
    exact ⟨k2, fin k3 (k4 g)⟩
  · rw [if_neg g] at k2 k3
    rw [if_neg g]
    exact ⟨k2, fin (o := 0) k3 (fun i hi => absurd hi (Nat.not_lt_zero i))⟩
