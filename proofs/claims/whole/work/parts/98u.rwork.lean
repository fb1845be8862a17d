/-! the keys of the translator, at the reference -/
theorem rtrow {s : xS} {t : aT} {k : Int} (hk : 0 ≤ k ∧ k ≤ 255) (hw : isRw k = true) (hP : 0 ≤ tP t ∧ tP t ≤ 2) (ho : (tO t).1 + tN t ≤ 100) (h : rtr s t) : ((k = 40 ∨ k = 41) → tm_bracket_ok s (i3 k) ∧ rTr s (tm_bracket s (i3 k)) (aTrow k t)) ∧ (isOp k = true → tm_operator_ok s (i3 k) ∧ rTr s (tm_operator s (i3 k)) (aTrow k t)) := by
  have hn : tN t ≤ 8 := h.1.2.2.1
  have c32 : (gI s 230 32 = 2) = (tP t = 2) := by rw [h.2.1, i3_lit, i3_eq (by omega)]
  have em : gI s 230 26 = i3 (tN t) := h.1.1
  have hNm := aNm_le (tT t) (tN t)
  have bad : ∀ c : Int, c ≠ 0 → rTr s (i3 c, s) (c, t) := fun c hc => ⟨fr_refl .., rfl, fun q => absurd q hc⟩
  have zE := rEs (b := false) h
  have f33 : fr Prt s (sI s 230 33 0) := rt_sI (by omega) (fr_refl ..)
  constructor
  · intro hk2
    obtain ⟨n1, n2⟩ := rnum h.1
    rw [tm_bracket_eq]
    unfold tm_bracket_ok tm_bracket_d
    rw [tm_bracket_48_eq]
    unfold tm_bracket_48_ok tm_bracket_48_d
    rw [tm_bracket_66_eq]
    unfold tm_bracket_66_ok tm_bracket_66_d
    have c40 : (i3 k = 40) = (k = 40) := by rw [i3_lit, i3_eq (by omega)]
    have c8 : (gI s 230 26 = 8) = (8 ≤ tN t) := by rw [em, i3_lit, i3_eq (by omega)]; apply propext; omega
    have cn : (gI s 230 26 ≤ tm_numbersInRow s) = (aBr (tT t) (tN t) = false) := by rw [n2, em, i3_le (by omega)]; apply propext; rw [nm_br]; omega
    simp only [c40, c32, c8, cn]
    unfold aTrow
    by_cases g40 : k = 40
    · rw [if_neg (show ¬ ¬ k = 40 from fun q => q g40), if_neg (show ¬ ¬ k = 40 from fun q => q g40), if_neg (show ¬ ¬ k = 40 from fun q => q g40)]
      have hO : aOutR k (tP t) (tT t) (tN t) = decide (tP t = 2) := by unfold aOutR; rw [if_pos g40]
      have hL : aLbR k (tT t) (tN t) = tN t := by unfold aLbR; rw [if_pos g40]
      have nop : isOp k = false := by rw [g40]; rfl
      have n41 : ¬ k = 41 := by omega
      rw [hO, hL, nop]
      by_cases g2 : tP t = 2
      · rw [if_neg (show ¬ ¬ tP t = 2 from fun q => q g2), decide_eq_true g2, if_pos (Or.inl rfl)]
        exact ⟨⟨n1, fun q => absurd g40 q, fun _ q => absurd g2 q⟩, bad 5 (by decide)⟩
      · rw [if_pos (show ¬ tP t = 2 from g2), decide_eq_false g2, if_neg (show ¬ (false = true ∨ (false = true ∧ tP t = 0)) from fun q => by rcases q with q | q; cases q; cases q.1)]
        by_cases g8 : 8 ≤ tN t
        · rw [if_neg (show ¬ ¬ 8 ≤ tN t from fun q => q g8), if_pos ⟨g8, Or.inl g40⟩]
          exact ⟨⟨n1, fun q => absurd g40 q, fun _ _ => ⟨fun q => absurd g40 q, fun _ q => absurd g8 q⟩⟩, bad 6 (by decide)⟩
        · rw [if_pos (show ¬ 8 ≤ tN t from g8), if_neg (fun q => g8 q.1), if_neg n41, if_neg n41]
          have ec : aCO (tT t) (tN t) (tN t) (tO t, tG t) = (tO t, tG t) := by
            cases tN t with
            | zero => rfl
            | succ j => unfold aCO; rw [if_pos (Nat.lt_succ_self j)]
          rw [ec]
          have e26 : gI (sI s 230 33 0) 230 26 = i3 (tN t) := by rw [gI_sI, if_neg (by omega)]; exact em
          have e1 : i3 (tN t) + 1 = i3 (tN t + 1 : Nat) := by rw [i3_lit, i3_add]; rfl
          rw [em, i3_natN (by omega), e1]
          obtain ⟨h1, h2, h3, h4, h5⟩ := zE
          have f : fr (fun b j => (b = 241 ∧ j = tN t) ∨ (b = 230 ∧ (j = 26 ∨ j = 32))) (sI s 230 33 0) (sI (sI (sI (sI s 230 33 0) 241 (tN t) 0) 230 26 (i3 (tN t + 1 : Nat))) 230 32 1) := fr_sI (fr_sI (fr_sI (fr_refl ..) (Or.inl ⟨rfl, rfl⟩)) (Or.inr ⟨rfl, Or.inl rfl⟩)) (Or.inr ⟨rfl, Or.inr rfl⟩)
          refine ⟨⟨n1, fun q => absurd g40 q, fun _ _ => ⟨fun q => absurd g40 q, fun _ _ => ⟨fun q => absurd g40 q, fun _ => ?_⟩⟩⟩, fr_trans f33 (fr_mono f (fun b j q => by unfold Prt; omega)), rfl, fun _ => ⟨⟨?_, fun i hi => ?_, by show tN t + 1 ≤ 8; omega, fun i hi => ?_⟩, ?_, (f.1 _ _ (by omega)).1.trans h3, (f.1 _ _ (by omega)).1.trans h4, txt_fr f (by omega) (fun i => by omega) h5⟩⟩
          · rw [i3_inN (by omega)]; omega
          · rw [gI_sI, if_neg (by omega), gI_sI, if_pos ⟨rfl, rfl⟩]; rfl
          · have hi' : i < tN t + 1 := hi
            show _ = i3 (kI (if i = tN t then k else tT t i))
            rw [gI_sI, if_neg (by omega), gI_sI, if_neg (by omega), gI_sI]
            by_cases w : i = tN t
            · rw [if_pos ⟨rfl, w⟩, if_pos w, g40]; rfl
            · rw [if_neg (fun q => w q.2), if_neg w]; exact h1.2.1 i (by show i < tN t; omega)
          · have hi' : i < tN t + 1 := hi
            show isK (if i = tN t then k else tT t i)
            by_cases w : i = tN t
            · rw [if_pos w]; exact Or.inl g40
            · rw [if_neg w]; exact h1.2.2.2 i (by show i < tN t; omega)
          · rw [gI_sI, if_pos ⟨rfl, rfl⟩]; rfl
    · have g41 : k = 41 := by rcases hk2 with w | w; exact absurd w g40; exact w
      rw [if_pos (show ¬ k = 40 from g40), if_pos (show ¬ k = 40 from g40), if_pos (show ¬ k = 40 from g40)]
      have hO : aOutR k (tP t) (tT t) (tN t) = !(decide (tP t = 2) && aBr (tT t) (tN t)) := by unfold aOutR; rw [if_neg g40, if_pos g41]
      have hL : aLbR k (tT t) (tN t) = aLeft (tT t) 1 (tN t) := by unfold aLbR; rw [if_neg g40, if_neg (show ¬ k = 61 by omega), if_pos g41]
      have nop : isOp k = false := by rw [g41]; rfl
      rw [hO, hL, nop]
      by_cases g2 : tP t = 2
      · rw [if_neg (show ¬ ¬ tP t = 2 from fun q => q g2), decide_eq_true g2, Bool.true_and]
        cases hb : aBr (tT t) (tN t)
        · rw [if_pos (Or.inl (show (!false) = true from rfl)), decide_eq_true (show false = false from rfl), if_neg (show ¬ (!true) = true by decide)]
          exact ⟨⟨n1, fun _ _ q => absurd q (by decide), fun q => absurd q g40⟩, bad 5 (by decide)⟩
        · rw [decide_eq_false (show ¬ true = false by decide), if_pos (show (!false) = true from rfl), if_neg (show ¬ ((!true) = true ∨ (false = true ∧ tP t = 0)) from fun q => by rcases q with q | q; cases q; cases q.1), if_neg (show ¬ (8 ≤ aLeft (tT t) 1 (tN t) ∧ (k = 40 ∨ false = true)) from fun q => by rcases q.2 with q | q; exact g40 q; cases q), if_pos g41, if_pos g41]
          obtain ⟨y1, y2, y3, y4⟩ := rbk_104 (T := tT t) (P := tP t) (E := false) xfu (tN t) (sI s 230 33 0) (tO t, tG t) (by rw [xfu_eq]; omega) (by show (tO t).1 + tN t ≤ 100; omega) hb zE
          refine ⟨⟨n1, fun _ _ _ => ⟨fun _ => ⟨fun _ => y1, fun q => absurd q g40⟩, fun q => absurd q g40⟩, fun q => absurd q g40⟩, fr_trans f33 y2, y3, fun _ => ?_⟩
          have := y4 rfl
          rw [g2] at this
          exact this
      · rw [if_pos (show ¬ tP t = 2 from g2), decide_eq_false g2, Bool.false_and, if_pos (Or.inl (show (!false) = true from rfl))]
        exact ⟨⟨n1, fun _ q => absurd q g2, fun q => absurd q g40⟩, bad 5 (by decide)⟩
  · intro hop
    have hki := isOp_iff.mp hop
    rw [tm_operator_eq]
    unfold tm_operator_ok tm_operator_d aTrow
    simp only [c32]
    have hO : aOutR k (tP t) (tT t) (tN t) = decide (tP t = 1) := by unfold aOutR; rw [if_neg (by omega), if_neg (by omega)]
    have hL : aLbR k (tT t) (tN t) = aLeft (tT t) (tgt k) (tN t) := by unfold aLbR; rw [if_neg (by omega), if_neg (by omega), if_neg (by omega)]
    have n41 : ¬ k = 41 := by omega
    rw [hO, hL, hop]
    by_cases g2 : tP t = 2
    · rw [if_pos g2, if_neg (show ¬ (decide (tP t = 1) = true ∨ (true = true ∧ tP t = 0)) from fun q => by rcases q with q | q; have := of_decide_eq_true q; omega; omega), if_neg n41, if_neg n41]
      obtain ⟨y1, y2, y3, y4⟩ := rop_15 (T := tT t) (P := tP t) (E := false) hop xfu (tN t) (sI s 230 33 0) (tO t, tG t) (by rw [xfu_eq]; omega) (by show (tO t).1 + tN t ≤ 100; omega) zE
      refine ⟨fun _ => y1, ?_⟩
      by_cases g8 : 8 ≤ aLeft (tT t) (tgt k) (tN t)
      · rw [if_pos g8] at y3 y4
        rw [if_pos ⟨g8, Or.inr rfl⟩]
        exact ⟨fr_trans f33 y2, y3, fun q => absurd q (show ¬ (6 : Int) = 0 by decide)⟩
      · rw [if_neg g8] at y3 y4
        rw [if_neg (fun q => g8 q.1)]
        exact ⟨fr_trans f33 y2, y3, y4⟩
    · rw [if_neg g2, if_pos (show decide (tP t = 1) = true ∨ (true = true ∧ tP t = 0) from by
        by_cases w : tP t = 1
        · exact Or.inl (decide_eq_true w)
        · exact Or.inr ⟨rfl, by omega⟩)]
      exact ⟨fun q => absurd q g2, bad 5 (by decide)⟩
theorem rfr43 {s : xS} {t : aT} {k : Int} (hk : 0 ≤ k ∧ k ≤ 255) (ho : (tO t).1 < 100) (h : rtr s t) : tm_fresh_43_ok s (i3 k) ∧ rTr s (tm_fresh_43 s (i3 k)) (0, (pu (tO t) k, (tN t, tT t), 2, isBg k, isBg k)) := by
  rw [tm_fresh_43_eq]
  unfold tm_fresh_43_ok tm_fresh_43_d
  rw [isBg_tm hk]
  obtain ⟨y1, y2, y3⟩ := rbring (c := k) ho h
  have z := rGs (b := isBg k) (rEs (b := isBg k) (rPs (p := 2) y3))
  exact ⟨⟨y1, by cases isBg k; exact Or.inl rfl; exact Or.inr rfl⟩, rt_sI (by omega) (rt_sI (by omega) (rt_sI (by omega) (br_rt y2))), rfl, fun _ => z⟩
theorem rt1 {s : xS} {t : aT} {i : Nat} {k : Int} (hi : i < 40) (hx : gI s 239 i = i3 k) (hk : 0 ≤ k ∧ k ≤ 255) (h61 : k ≠ 61) (hP : 0 ≤ tP t ∧ tP t ≤ 2) (hG : tEn t = true → tG t = true) (ho : (tO t).1 + tN t ≤ 97) (h : rtr s t) : tm_translated_ok s (i3 i) ∧ rTr s (tm_translated s (i3 i)) (aT1 k t) := by
  have hn : tN t ≤ 8 := h.1.2.2.1
  have hNm := aNm_le (tT t) (tN t)
  have c32 : (gI s 230 32 = 2) = (tP t = 2) := by rw [h.2.1, i3_lit, i3_eq (by omega)]
  have c33 : (gI s 230 33 = 0) = (tEn t = false) := by rw [h.2.2.1]; exact zb0
  have c27 : (gI s 230 27 = 0) = (tG t = false) := by rw [h.2.2.2.1]; exact zb0
  have e : ∀ n : Nat, n < 256 → (i3 k = (OfNat.ofNat n : Int32)) = (k = (OfNat.ofNat n : Int)) := fun n hn => by rw [i3_lit, i3_eq (by show _ ∧ _ ∧ (-2147483648 : Int) ≤ (n : Int) ∧ (n : Int) < 2147483648; omega)]
  have c61 : (i3 k = 61) = (k = 61) := e 61 (by omega)
  have c78 : (i3 k = 78) = (k = 78) := e 78 (by omega)
  have c81 : (i3 k = 81) = (k = 81) := e 81 (by omega)
  have c83 : (i3 k = 83) = (k = 83) := e 83 (by omega)
  have c73 : (i3 k = 73) = (k = 73) := e 73 (by omega)
  have c40 : (i3 k = 40) = (k = 40) := e 40 (by omega)
  have c41 : (i3 k = 41) = (k = 41) := e 41 (by omega)
  have c97 : (i3 k < 97) = (k < 97) := by rw [i3_lit, i3_lt (by omega)]
  have c106 : ((106 : Int32) < i3 k) = (106 < k) := by rw [i3_lit, i3_lt (by omega)]
  have bad : ∀ c : Int, c ≠ 0 → rTr s (i3 c, s) (c, t) := fun c hc => ⟨fr_refl .., rfl, fun q => absurd q hc⟩
  have eF : (decide (i3 k = 81) || (decide (i3 k = 83) || (decide (i3 k = 73) || decide (i3 k = 78)))) = isFu k := by
    simp only [c81, c83, c73, c78]
    unfold isFu isFt
    simp only [Bool.or_assoc]
  -- a number
  have fresh : isNb k = true → tm_fresh_ok s (i3 k) ∧ rTr s (tm_fresh s (i3 k)) (if tP t = 2 then (5, t) else if 4 ≤ aNm (tT t) (tN t) then (6, t) else (0, aT178 k t)) := by
    intro hnb
    rw [tm_fresh_eq]
    unfold tm_fresh_ok tm_fresh_d
    obtain ⟨n1, n2⟩ := rnum h.1
    have c4 : (tm_numbersInRow s + 1 ≤ 4) = (¬ 4 ≤ aNm (tT t) (tN t)) := by rw [n2, i3_lit, i3_lit, i3_add, i3_le (by omega)]; apply propext; omega
    rw [isBg_tm hk]
    simp only [c32, c4, c27]
    by_cases g2 : tP t = 2
    · rw [if_neg (show ¬ ¬ tP t = 2 from fun q => q g2), if_pos g2]
      exact ⟨fun q => absurd g2 q, bad 5 (by decide)⟩
    · rw [if_pos (show ¬ tP t = 2 from g2), if_neg g2]
      by_cases g4 : 4 ≤ aNm (tT t) (tN t)
      · rw [if_neg (show ¬ ¬ _ from fun q => q g4), if_pos g4]
        exact ⟨fun _ => ⟨n1, fun q => absurd g4 q⟩, bad 6 (by decide)⟩
      · rw [if_pos (show ¬ 4 ≤ aNm (tT t) (tN t) from g4), if_neg g4]
        obtain ⟨y1, y2⟩ := rfr43 (k := k) hk (by omega) h
        unfold aT178 aSep
        cases hb : isBg k
        · rw [if_pos (show false = false from rfl)]
          rw [hb] at y2
          have n78 : ¬ k = 78 := by
            have := isNb_iff.mp hnb
            rw [hb] at this
            rcases this with w | w
            · cases w
            · have := isRc_iff.mp w; omega
          rw [if_neg n78]
          have eo : (bif tG t then (bif false then pu (tO t) 61 else tO t) else tO t) = tO t := by cases tG t <;> rfl
          rw [eo]
          exact ⟨fun _ => ⟨n1, fun _ => ⟨fun _ => y1, fun q => (by cases q)⟩⟩, y2⟩
        · rw [if_neg (show ¬ true = false by decide)]
          rw [hb] at y2
          cases hg : tG t
          · rw [if_pos (show false = false from rfl)]
            exact ⟨fun _ => ⟨n1, fun _ => ⟨fun q => (by cases q), fun _ => ⟨fun _ => y1, fun q => absurd rfl q⟩⟩⟩, y2⟩
          · rw [if_neg (show ¬ true = false by decide)]
            obtain ⟨a1, a2, a3⟩ := rbring (c := 61) (by omega) h
            have a1' : tm_bring_ok s 61 := a1
            obtain ⟨b1, b2, b3, b4⟩ := rfr43 (k := k) hk (by show (tO t).1 + 1 < 100; omega) a3
            rw [hb] at b4
            exact ⟨fun _ => ⟨n1, fun _ => ⟨fun q => (by cases q), fun _ => ⟨fun q => (by cases q), fun _ => ⟨a1', b1⟩⟩⟩⟩, fr_trans (br_rt a2) b2, b3, b4⟩
  -- a function
  have fn : isFu k = true → (tP t = 2 → (¬ k = 78 → tm_translated_205_ok (sI s 230 33 0) (i3 k)) ∧ (k = 78 → (tG t = false → tm_translated_205_ok (sI s 230 33 0) (i3 k)) ∧ (¬ tG t = false → tm_bring_ok (sI s 230 33 0) 87 ∧ tm_bring_ok (tm_bring (sI s 230 33 0) 87) 87 ∧ tm_translated_205_ok (tm_bring (tm_bring (sI s 230 33 0) 87) 87) (i3 k)))) ∧ rTr s (if tP t = 2 then (if ¬ k = 78 then tm_translated_205 (sI s 230 33 0) (i3 k) else (if tG t = false then tm_translated_205 (sI s 230 33 0) (i3 k) else tm_translated_205 (tm_bring (tm_bring (sI s 230 33 0) 87) 87) (i3 k))) else (5, s)) (if tP t = 2 then (0, aT178 k t) else (5, t)) := by
    intro hf
    have hfi := isFu_iff.mp hf
    have nb : isBg k = false := by
      cases hb : isBg k
      · rfl
      · have := isBg_iff.mp hb; omega
    have z := rEs (b := false) h
    have f33 : fr Prt s (sI s 230 33 0) := rt_sI (by omega) (fr_refl ..)
    have z' : rtr (sI s 230 33 0) (t.1, t.2.1, t.2.2.1, false, t.2.2.2.2) := z
    generalize sI s 230 33 0 = u at *
    by_cases g2 : tP t = 2
    · rw [if_pos g2, if_pos g2]
      have last : ∀ {v : xS} {O : Nat × (Nat → Int)}, O.1 < 100 → fr Prt s v → rtr v (O, t.2.1, t.2.2.1, false, t.2.2.2.2) → tm_translated_205_ok v (i3 k) ∧ rTr s (tm_translated_205 v (i3 k)) (0, (pu O k, (tN t, tT t), 2, false, false)) := by
        intro v O hO fv hv
        rw [tm_translated_205_eq]
        unfold tm_translated_205_ok tm_translated_205_d
        obtain ⟨y1, y2, y3⟩ := rbring (t := (O, t.2.1, t.2.2.1, false, t.2.2.2.2)) (c := k) hO hv
        have w := rGs (b := false) y3
        refine ⟨y1, rt_sI (by omega) (fr_trans fv (br_rt y2)), rfl, fun _ => ?_⟩
        have w' : rtr (sI (tm_bring v (i3 k)) 230 27 0) (pu O k, (tN t, tT t), tP t, false, false) := w
        rw [g2] at w'
        exact w'
      obtain ⟨p1, p2⟩ := last (v := u) (O := tO t) (by omega) f33 z'
      unfold aT178 aSep
      rw [nb]
      by_cases g78 : k = 78
      · rw [if_neg (show ¬ ¬ k = 78 from fun q => q g78)]
        cases hg : tG t
        · rw [if_pos (show false = false from rfl)]
          exact ⟨fun _ => ⟨fun q => absurd g78 q, fun _ => ⟨fun _ => p1, fun q => absurd rfl q⟩⟩, p2⟩
        · rw [if_neg (show ¬ true = false by decide)]
          obtain ⟨a1, a2, a3⟩ := rbring (t := (t.1, t.2.1, t.2.2.1, false, t.2.2.2.2)) (c := 87) (by show (tO t).1 < 100; omega) z'
          have a1' : tm_bring_ok u 87 := a1
          obtain ⟨b1, b2, b3⟩ := rbring (c := 87) (by show (tO t).1 + 1 < 100; omega) a3
          have b1' : tm_bring_ok (tm_bring u 87) 87 := b1
          obtain ⟨l1, l2⟩ := last (v := tm_bring (tm_bring u 87) 87) (O := pu (pu (tO t) 87) 87) (by show (tO t).1 + 1 + 1 < 100; omega) (fr_trans f33 (fr_trans (br_rt a2) (br_rt b2))) b3
          dsimp only [cond_true, cond_false]
          rw [if_pos g78]
          exact ⟨fun _ => ⟨fun q => absurd g78 q, fun _ => ⟨fun q => (by cases q), fun _ => ⟨a1', b1', l1⟩⟩⟩, l2⟩
      · rw [if_pos (show ¬ k = 78 from g78)]
        have eo : (bif tG t then (bif false then pu (tO t) 61 else if k = 78 then pu (pu (tO t) 87) 87 else tO t) else tO t) = tO t := by
          rw [if_neg g78]; cases tG t <;> rfl
        rw [eo]
        exact ⟨fun _ => ⟨fun _ => p1, fun q => absurd q g78⟩, p2⟩
    · rw [if_neg g2, if_neg g2]
      exact ⟨fun q => absurd q g2, bad 5 (by decide)⟩
  -- what is none of an entry
  have m128 : isNb k = false → tm_translated_128_ok s (i3 k) (zb (isFu k)) ∧ rTr s (tm_translated_128 s (i3 k) (zb (isFu k))) (if isNb k = false ∧ isFu k = false ∧ isRw k = false then (1, t) else if isRw k = true then aTrow k t else if tP t = 2 then (0, aT178 k t) else (5, t)) := by
    intro hnb
    rw [tm_translated_128_eq]
    unfold tm_translated_128_ok tm_translated_128_d
    rw [tm_translated_140_eq]
    unfold tm_translated_140_ok tm_translated_140_d
    rw [isOp_tm hk]
    simp only [c40, c41, c78, zb0, c32, c27]
    by_cases gr : isRw k = true
    · rw [if_neg (show ¬ (isNb k = false ∧ isFu k = false ∧ isRw k = false) from fun q => by rw [gr] at q; cases q.2.2), if_pos gr]
      obtain ⟨b1, b2⟩ := rtrow hk gr hP (by omega) h
      by_cases g40 : k = 40
      · rw [if_pos g40]
        obtain ⟨y1, y2⟩ := b1 (Or.inl g40)
        exact ⟨⟨fun _ => y1, fun q => absurd g40 q⟩, y2⟩
      · rw [if_neg g40]
        by_cases g41 : k = 41
        · rw [if_neg (show ¬ ¬ k = 41 from fun q => q g41)]
          obtain ⟨y1, y2⟩ := b1 (Or.inr g41)
          exact ⟨⟨fun q => absurd q g40, fun _ => ⟨fun q => absurd g41 q, fun _ => y1⟩⟩, y2⟩
        · rw [if_pos (show ¬ k = 41 from g41)]
          have hop : isOp k = true := by rcases isRw_iff.mp gr with w | w | w; exact w; exact absurd w g40; exact absurd w g41
          obtain ⟨y1, y2⟩ := b2 hop
          rw [hop, if_neg (show ¬ true = false by decide)]
          exact ⟨⟨fun q => absurd q g40, fun _ => ⟨fun _ => ⟨fun q => (by cases q), fun _ => y1⟩, fun q => absurd q g41⟩⟩, y2⟩
    · have grf : isRw k = false := by cases hh : isRw k; rfl; exact absurd hh gr
      have n40 : ¬ k = 40 := fun w => gr (isRw_iff.mpr (Or.inr (Or.inl w)))
      have n41 : ¬ k = 41 := fun w => gr (isRw_iff.mpr (Or.inr (Or.inr w)))
      have nop : isOp k = false := by
        cases hh : isOp k
        · rfl
        · exact absurd (isRw_iff.mpr (Or.inl hh)) gr
      rw [if_neg n40, if_pos (show ¬ k = 41 from n41), nop, if_pos (show false = false from rfl), if_neg gr]
      cases hf : isFu k
      · rw [if_neg (show ¬ ¬ false = false from fun q => q rfl), if_pos ⟨hnb, rfl, grf⟩]
        exact ⟨⟨fun q => absurd q n40, fun _ => ⟨fun _ => ⟨fun _ q => absurd rfl q, fun q => (by cases q)⟩, fun q => absurd q n41⟩⟩, bad 1 (by decide)⟩
      · rw [if_pos (show ¬ true = false by decide), if_neg (show ¬ (isNb k = false ∧ true = false ∧ isRw k = false) from fun q => by cases q.2.1)]
        obtain ⟨y1, y2⟩ := fn hf
        exact ⟨⟨fun q => absurd q n40, fun _ => ⟨fun _ => ⟨fun _ _ => y1, fun q => (by cases q)⟩, fun q => absurd q n41⟩⟩, y2⟩
  have m103 : tm_translated_103_ok s (i3 k) (zb (isFu k)) ∧ rTr s (tm_translated_103 s (i3 k) (zb (isFu k))) (if isNb k = false ∧ isFu k = false ∧ isRw k = false then (1, t) else if isRw k = true then aTrow k t else if isNb k = true then (if tP t = 2 then (5, t) else if 4 ≤ aNm (tT t) (tN t) then (6, t) else (0, aT178 k t)) else if tP t = 2 then (0, aT178 k t) else (5, t)) := by
    rw [tm_translated_103_eq]
    unfold tm_translated_103_ok tm_translated_103_d
    rw [tm_translated_122_eq]
    unfold tm_translated_122_ok tm_translated_122_d
    rw [isBg_tm hk]
    simp only [c97, c106]
    by_cases hnb : isNb k = true
    · have nrw : ¬ isRw k = true := by
        intro w
        have h1 := isRw_iff.mp w
        have h2 := isNb_iff.mp hnb
        rw [isBg_iff, isRc_iff] at h2
        rw [isOp_iff] at h1
        omega
      rw [if_neg (show ¬ (isNb k = false ∧ isFu k = false ∧ isRw k = false) from fun q => by rw [hnb] at q; cases q.1), if_neg nrw, if_pos hnb]
      obtain ⟨y1, y2⟩ := fresh hnb
      cases hb : isBg k
      · rw [if_neg (show ¬ false = true by decide)]
        have hr := isRc_iff.mp (by rcases isNb_iff.mp hnb with w | w; rw [hb] at w; cases w; exact w)
        rw [if_neg (show ¬ k < 97 by omega), if_neg (show ¬ 106 < k by omega)]
        exact ⟨⟨fun q => (by cases q), fun _ => ⟨fun q => absurd q (by omega), fun _ => ⟨fun q => absurd q (by omega), fun _ => y1⟩⟩⟩, y2⟩
      · rw [if_pos (show true = true from rfl)]
        exact ⟨⟨fun _ => y1, fun q => (by cases q)⟩, y2⟩
    · have hnf : isNb k = false := by cases hh : isNb k; rfl; exact absurd hh hnb
      obtain ⟨y1, y2⟩ := m128 hnf
      rw [if_neg hnb]
      have hb : isBg k = false := by
        cases hh : isBg k
        · rfl
        · exact absurd (isNb_iff.mpr (Or.inl hh)) hnb
      have hr : ¬ (97 ≤ k ∧ k ≤ 106) := fun w => hnb (isNb_iff.mpr (Or.inr (isRc_iff.mpr w)))
      rw [hb, if_neg (show ¬ false = true by decide)]
      by_cases g97 : k < 97
      · rw [if_pos g97]
        exact ⟨⟨fun q => (by cases q), fun _ => ⟨fun _ => y1, fun q => absurd g97 q⟩⟩, y2⟩
      · rw [if_neg g97, if_pos (show 106 < k by omega)]
        exact ⟨⟨fun q => (by cases q), fun _ => ⟨fun q => absurd q g97, fun _ => ⟨fun _ => y1, fun q => absurd (show 106 < k by omega) q⟩⟩⟩, y2⟩
  -- on an open entry
  have on : tEn t = true → tm_translated_91_ok s (i3 k) ∧ rTr s (tm_translated_91 s (i3 k)) (0, (pu (tO t) k, t.2)) := by
    intro hE
    rw [tm_translated_91_eq]
    unfold tm_translated_91_ok tm_translated_91_d
    obtain ⟨y1, y2, y3⟩ := rbring (c := k) (by omega) h
    have w := rGs (b := true) y3
    refine ⟨y1, rt_sI (by omega) (br_rt y2), rfl, fun _ => ?_⟩
    have w' : rtr (sI (tm_bring s (i3 k)) 230 27 1) (pu (tO t) k, t.2.1, t.2.2.1, t.2.2.2.1, true) := w
    have e : t.2 = (t.2.1, t.2.2.1, t.2.2.2.1, true) := by
      have : t.2.2.2.2 = true := hG hE
      rw [← this]
    rw [e]; exact w'
  rw [tm_translated_eq]
  unfold tm_translated_ok tm_translated_d
  rw [i3_natN (by omega), hx, eF, isBg_tm hk]
  simp only [c61, c33, c78]
  rw [if_pos (show ¬ k = 61 from h61)]
  have hin : vp_in (i3 (i : Int)) 40 := by rw [i3_inN (by omega)]; omega
  unfold aT1
  have hnone : isBg k = true ∨ k = 78 → ¬ (isNb k = false ∧ isFu k = false ∧ isRw k = false) := by
    rintro (w | w) q
    · rw [isNb_iff.mpr (Or.inl w)] at q; cases q.1
    · rw [isFu_iff.mpr (Or.inr (Or.inr (Or.inr w)))] at q; cases q.2.1
  have rest : ¬ (tEn t = true ∧ (isBg k = true ∨ k = 78)) → (if isNb k = false ∧ isFu k = false ∧ isRw k = false then (1, t) else if tEn t = true ∧ (isBg k = true ∨ k = 78) then (0, (pu (tO t) k, t.2)) else if isRw k = true then aTrow k t else if isNb k = true then (if tP t = 2 then (5, t) else if 4 ≤ aNm (tT t) (tN t) then (6, t) else (0, aT178 k t)) else if tP t = 2 then (0, aT178 k t) else (5, t)) = (if isNb k = false ∧ isFu k = false ∧ isRw k = false then ((1 : Int), t) else if isRw k = true then aTrow k t else if isNb k = true then (if tP t = 2 then (5, t) else if 4 ≤ aNm (tT t) (tN t) then (6, t) else (0, aT178 k t)) else if tP t = 2 then (0, aT178 k t) else (5, t)) := fun w => by rw [if_neg w]
  cases hE : tEn t
  · rw [if_pos (show false = false from rfl)]
    rw [hE] at rest
    rw [rest (fun q => by cases q.1)]
    exact ⟨⟨hin, fun _ => ⟨fun _ => m103.1, fun q => absurd rfl q⟩⟩, m103.2⟩
  · rw [if_neg (show ¬ true = false by decide)]
    rw [hE] at rest
    obtain ⟨o1, o2⟩ := on hE
    cases hb : isBg k
    · rw [if_neg (show ¬ false = true by decide)]
      by_cases g78 : k = 78
      · rw [if_neg (show ¬ ¬ k = 78 from fun q => q g78)]
        rw [if_neg (hnone (Or.inr g78)), if_pos (show true = true ∧ (false = true ∨ k = 78) from ⟨rfl, Or.inr g78⟩)]
        exact ⟨⟨hin, fun _ => ⟨fun q => (by cases q), fun _ => ⟨fun q => (by cases q), fun _ => ⟨fun q => absurd g78 q, fun _ => o1⟩⟩⟩⟩, o2⟩
      · rw [if_pos (show ¬ k = 78 from g78)]
        rw [hb] at rest
        rw [rest (fun q => by rcases q.2 with q | q; cases q; exact g78 q)]
        exact ⟨⟨hin, fun _ => ⟨fun q => (by cases q), fun _ => ⟨fun q => (by cases q), fun _ => ⟨fun _ => m103.1, fun q => absurd q g78⟩⟩⟩⟩, m103.2⟩
    · rw [if_pos (show true = true from rfl)]
      rw [if_neg (hnone (Or.inl hb)), if_pos (show true = true ∧ (true = true ∨ k = 78) from ⟨rfl, Or.inl rfl⟩)]
      exact ⟨⟨hin, fun _ => ⟨fun q => (by cases q), fun _ => ⟨fun _ => o1, fun q => (by cases q)⟩⟩⟩, o2⟩
