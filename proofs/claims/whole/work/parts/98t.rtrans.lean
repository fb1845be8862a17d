/-! THE TRANSLATOR, at the reference -/
theorem isBg_iff {k : Int} : isBg k = true ↔ (48 ≤ k ∧ k ≤ 57) ∨ k = 46 ∨ k = 69 := by
  unfold isBg isDg; simp only [Bool.or_eq_true, Bool.and_eq_true, decide_eq_true_eq]
theorem isRc_iff {k : Int} : isRc k = true ↔ 97 ≤ k ∧ k ≤ 106 := by
  unfold isRc; simp only [Bool.and_eq_true, decide_eq_true_eq]
theorem isNb_iff {k : Int} : isNb k = true ↔ isBg k = true ∨ isRc k = true := by
  unfold isNb; simp only [Bool.or_eq_true]
theorem isFu_iff {k : Int} : isFu k = true ↔ k = 81 ∨ k = 83 ∨ k = 73 ∨ k = 78 := by
  unfold isFu isFt; simp only [Bool.or_eq_true, decide_eq_true_eq]; omega
theorem isOp_iff {k : Int} : isOp k = true ↔ k = 43 ∨ k = 45 ∨ k = 42 ∨ k = 47 := by
  unfold isOp; simp only [Bool.or_eq_true, decide_eq_true_eq]
theorem isRw_iff {k : Int} : isRw k = true ↔ isOp k = true ∨ k = 40 ∨ k = 41 := by
  constructor
  · intro h; rcases isRw_k h with w | w | w
    · exact Or.inr (Or.inl w)
    · exact Or.inr (Or.inr w)
    · exact Or.inl w
  · intro h
    unfold isRw isRk
    rcases h with w | w | w
    · have := isOp_iff.mp w
      rw [w, decide_eq_false (show ¬ k = 61 by omega)]; rfl
    · subst w; rfl
    · subst w; rfl
theorem isBg_tm {k : Int} (hk : 0 ≤ k ∧ k ≤ 255) : tm_begins (i3 k) = isBg k := by
  unfold tm_begins tm_isFigure isBg isDg
  have c1 : (i3 k = 46) = (k = 46) := by rw [i3_lit, i3_eq (by omega)]
  have c2 : (i3 k = 69) = (k = 69) := by rw [i3_lit, i3_eq (by omega)]
  have c3 : (i3 k < 48) = (k < 48) := by rw [i3_lit, i3_lt (by omega)]
  have c4 : ((57 : Int32) < i3 k) = (57 < k) := by rw [i3_lit, i3_lt (by omega)]
  simp only [c1, c2, c3, c4]
  by_cases g1 : k < 48
  · rw [decide_eq_true g1, decide_eq_false (show ¬ 48 ≤ k by omega)]; rfl
  · rw [decide_eq_false g1, decide_eq_true (show 48 ≤ k by omega)]
    by_cases g2 : 57 < k
    · rw [decide_eq_true g2, decide_eq_false (show ¬ k ≤ 57 by omega)]; rfl
    · rw [decide_eq_false g2, decide_eq_true (show k ≤ 57 by omega)]; rfl
def Prt (b j : Nat) : Prop := (b = 230 ∧ (j = 24 ∨ j = 26 ∨ j = 27 ∨ j = 32 ∨ j = 33)) ∨ b = 240 ∨ b = 241
def rrow (s : xS) (n : Nat) (T : Nat → Int) : Prop := gI s 230 26 = i3 n ∧ (∀ i, i < n → gI s 241 i = i3 (kI (T i))) ∧ n ≤ 8 ∧ (∀ i, i < n → isK (T i))
def rtr (s : xS) (t : aT) : Prop := rrow s (tN t) (tT t) ∧ gI s 230 32 = i3 (tP t) ∧ gI s 230 33 = zb (tEn t) ∧ gI s 230 27 = zb (tG t) ∧ txt s 230 240 24 (tO t)
theorem txt_fr {P : Nat → Nat → Prop} {s u : xS} {a c k : Nat} {t : Nat × (Nat → Int)} (f : fr P s u) (h1 : ¬ P a k) (h2 : ∀ i, ¬ P c i) (h : txt s a c k t) : txt u a c k t := ⟨(f.1 _ _ h1).1.trans h.1, fun i hi => (f.1 _ _ (h2 i)).1.trans (h.2 i hi)⟩
theorem rrow_fr {P : Nat → Nat → Prop} {s u : xS} {n : Nat} {T : Nat → Int} (f : fr P s u) (h1 : ¬ P 230 26) (h2 : ∀ i, ¬ P 241 i) (h : rrow s n T) : rrow u n T := ⟨(f.1 _ _ h1).1.trans h.1, fun i hi => (f.1 _ _ (h2 i)).1.trans (h.2.1 i hi), h.2.2⟩
theorem rbring {s : xS} {t : aT} {c : Int} (ho : (tO t).1 < 100) (h : rtr s t) : tm_bring_ok s (i3 c) ∧ fr (fun b j => (b = 230 ∧ j = 24) ∨ b = 240) s (tm_bring s (i3 c)) ∧ rtr (tm_bring s (i3 c)) (pu (tO t) c, t.2) := by
  obtain ⟨h1, h2, h3, h4, h5⟩ := h
  rw [tm_bring_eq]
  unfold tm_bring_ok tm_bring_d
  have e2 : gI s 230 24 + 1 = i3 ((tO t).1 + 1 : Nat) := by rw [h5.1, i3_lit, i3_add]; rfl
  have e3 : (gI s 230 24).toNatClampNeg = (tO t).1 := by rw [h5.1, i3_natN (by omega)]
  rw [e3, e2]
  have f : fr (fun b j => (b = 230 ∧ j = 24) ∨ b = 240) s (sI (sI s 240 (tO t).1 (i3 c)) 230 24 (i3 ((tO t).1 + 1 : Nat))) := fr_sI (fr_sI (fr_refl ..) (Or.inr rfl)) (Or.inl ⟨rfl, rfl⟩)
  exact ⟨by rw [h5.1, i3_inN (by omega)]; omega, f, rrow_fr f (by omega) (fun i => by omega) h1, (f.1 _ _ (by omega)).1.trans h2, (f.1 _ _ (by omega)).1.trans h3, (f.1 _ _ (by omega)).1.trans h4, txt_push (by omega) h5⟩
theorem br_rt {x y : xS} (f : fr (fun b j => (b = 230 ∧ j = 24) ∨ b = 240) x y) : fr Prt x y := fr_mono f (fun b j q => by unfold Prt; omega)
theorem rGs {s : xS} {t : aT} {b : Bool} (h : rtr s t) : rtr (sI s 230 27 (zb b)) (t.1, t.2.1, t.2.2.1, t.2.2.2.1, b) := by
  obtain ⟨h1, h2, h3, h4, h5⟩ := h
  have f : fr (fun b j => b = 230 ∧ j = 27) s (sI s 230 27 (zb b)) := fr_sI (fr_refl ..) ⟨rfl, rfl⟩
  exact ⟨rrow_fr f (by omega) (fun i => by omega) h1, (f.1 _ _ (by omega)).1.trans h2, (f.1 _ _ (by omega)).1.trans h3, by rw [gI_sI, if_pos ⟨rfl, rfl⟩]; rfl, txt_fr f (by omega) (fun i => by omega) h5⟩
theorem rEs {s : xS} {t : aT} {b : Bool} (h : rtr s t) : rtr (sI s 230 33 (zb b)) (t.1, t.2.1, t.2.2.1, b, t.2.2.2.2) := by
  obtain ⟨h1, h2, h3, h4, h5⟩ := h
  have f : fr (fun b j => b = 230 ∧ j = 33) s (sI s 230 33 (zb b)) := fr_sI (fr_refl ..) ⟨rfl, rfl⟩
  exact ⟨rrow_fr f (by omega) (fun i => by omega) h1, (f.1 _ _ (by omega)).1.trans h2, by rw [gI_sI, if_pos ⟨rfl, rfl⟩]; rfl, (f.1 _ _ (by omega)).1.trans h4, txt_fr f (by omega) (fun i => by omega) h5⟩
theorem rPs {s : xS} {t : aT} {p : Int} (h : rtr s t) : rtr (sI s 230 32 (i3 p)) (t.1, t.2.1, p, t.2.2.2) := by
  obtain ⟨h1, h2, h3, h4, h5⟩ := h
  have f : fr (fun b j => b = 230 ∧ j = 32) s (sI s 230 32 (i3 p)) := fr_sI (fr_refl ..) ⟨rfl, rfl⟩
  exact ⟨rrow_fr f (by omega) (fun i => by omega) h1, by rw [gI_sI, if_pos ⟨rfl, rfl⟩]; rfl, (f.1 _ _ (by omega)).1.trans h3, (f.1 _ _ (by omega)).1.trans h4, txt_fr f (by omega) (fun i => by omega) h5⟩
theorem rt_sI {s u : xS} {j : Nat} {v : Int32} (h : j = 24 ∨ j = 26 ∨ j = 27 ∨ j = 32 ∨ j = 33) (f : fr Prt s u) : fr Prt s (sI u 230 j v) := fr_sI f (Or.inl ⟨rfl, h⟩)
theorem kI_0 {v : Int} (h : isK v) : (i3 (kI v) = 0) = (v = 40) := by
  unfold isK at h
  rcases h with h | h | h | h | h <;> subst h <;> decide
theorem rnum_4 {s : xS} {T : Nat → Int} {m : Nat} (h : rrow s m T) : ∀ (n i : Nat), i ≤ m → m + 1 ≤ n + i → tm_numbersInRow_4_ok n s (i3 (aNm T i)) (i3 i) ∧ tm_numbersInRow_4 n s (i3 (aNm T i)) (i3 i) = i3 (aNm T m) := by
  obtain ⟨h1, h2, h3, h4⟩ := h
  intro n
  induction n with
  | zero => intro i k1 k2; omega
  | succ n ih =>
    intro i k1 k2
    unfold tm_numbersInRow_4 tm_numbersInRow_4_ok
    have c1 : (gI s 230 26 ≤ i3 i) = (m ≤ i) := by rw [h1]; exact i3_leN (by omega) (by omega)
    have e1 : i3 i + 1 = i3 (i + 1 : Nat) := by rw [i3_lit, i3_add]; rfl
    have e2 : i3 (aNm T i) + 1 = i3 (aNm T i + 1 : Nat) := by rw [i3_lit, i3_add]; rfl
    simp only [c1, e1, e2]
    rw [i3_natN (by omega)]
    by_cases g : m ≤ i
    · rw [if_pos g, show i = m by omega]
      exact ⟨fun q => absurd (Nat.le_refl m) q, rfl⟩
    · rw [if_neg g]
      have c2 : (gI s 241 i = 0) = (T i = 40) := by rw [h2 i (by omega)]; exact kI_0 (h4 i (by omega))
      simp only [c2]
      have hin : vp_in (i3 i) 8 := by rw [i3_inN (by omega)]; omega
      have e3 : (if T i = 40 then i3 (aNm T i) else i3 (aNm T i + 1 : Nat)) = i3 (aNm T (i + 1) : Nat) := by
        rw [show aNm T (i + 1) = aNm T i + (if T i = 40 then 0 else 1) from rfl]
        by_cases w : T i = 40
        · rw [if_pos w, if_pos w]; rfl
        · rw [if_neg w, if_neg w]
      rw [e3]
      obtain ⟨p1, p2⟩ := ih (i + 1) (by omega) (by omega)
      exact ⟨fun _ => ⟨hin, p1⟩, p2⟩
theorem rnum {s : xS} {T : Nat → Int} {m : Nat} (h : rrow s m T) : tm_numbersInRow_ok s ∧ tm_numbersInRow s = i3 (aNm T m) := by
  unfold tm_numbersInRow_ok tm_numbersInRow
  have := h.2.2.1
  exact rnum_4 h xfu 0 (Nat.zero_le _) (by rw [xfu_eq]; omega)
theorem nm_br (T : Nat → Int) (n : Nat) : (aBr T n = false) ↔ n ≤ aNm T n := by
  induction n with
  | zero => exact ⟨fun _ => Nat.le_refl _, fun _ => rfl⟩
  | succ n ih =>
    have hle := aNm_le T n
    rw [show aBr T (n + 1) = (aBr T n || decide (T n = 40)) from rfl, show aNm T (n + 1) = aNm T n + (if T n = 40 then 0 else 1) from rfl]
    by_cases g : T n = 40
    · rw [decide_eq_true g, if_pos g, Bool.or_true]
      constructor
      · intro q; cases q
      · intro q; omega
    · rw [decide_eq_false g, if_neg g, Bool.or_false, ih]
      omega
theorem rshut {s : xS} {n : Nat} {T : Nat → Int} {O : Nat × (Nat → Int)} {P : Int} {E G : Bool} (ho : O.1 < 100) (h : rtr s (O, (n + 1, T), P, E, G)) : tm_shut_ok s ∧ fr Prt s (tm_shut s) ∧ rtr (tm_shut s) ((if T n = 40 then O else pu O (T n)), (n, T), P, E, G) := by
  obtain ⟨h1, h2, h3, h4, h5⟩ := h
  have hn : n + 1 ≤ 8 := h1.2.2.1
  have hT : gI s 241 n = i3 (kI (T n)) := h1.2.1 n (Nat.lt_succ_self n)
  have hK : isK (T n) := h1.2.2.2 n (Nat.lt_succ_self n)
  rw [tm_shut_eq]
  unfold tm_shut_ok tm_shut_d
  have e1 : gI s 230 26 - 1 = i3 n := by rw [h1.1, i3_lit, i3_sub]; exact congrArg i3 (by show ((n + 1 : Nat) : Int) - 1 = n; omega)
  rw [e1, i3_natN (by omega)]
  have c2 : (gI s 241 n = 0) = (T n = 40) := by rw [hT]; exact kI_0 hK
  simp only [c2]
  have hin : vp_in (i3 n) 8 := by rw [i3_inN (by omega)]; omega
  have f : fr (fun b j => b = 230 ∧ j = 26) s (sI s 230 26 (i3 n)) := fr_sI (fr_refl ..) ⟨rfl, rfl⟩
  have base : rtr (sI s 230 26 (i3 n)) (O, (n, T), P, E, G) := ⟨⟨by rw [gI_sI, if_pos ⟨rfl, rfl⟩]; rfl, fun i hi => (f.1 _ _ (by omega)).1.trans (h1.2.1 i (by have : i < n := hi; show i < n + 1; omega)), by show n ≤ 8; omega, fun i hi => h1.2.2.2 i (by have : i < n := hi; show i < n + 1; omega)⟩, (f.1 _ _ (by omega)).1.trans h2, (f.1 _ _ (by omega)).1.trans h3, (f.1 _ _ (by omega)).1.trans h4, txt_fr f (by omega) (fun i => by omega) h5⟩
  have fp : fr Prt s (sI s 230 26 (i3 n)) := fr_mono f (fun b j q => by unfold Prt; omega)
  by_cases g : T n = 40
  · rw [if_pos g, if_pos g]
    exact ⟨⟨hin, fun q => absurd g q⟩, fp, base⟩
  · rw [if_neg g, if_neg g, hT]
    have ek : kI (T n) = T n := if_neg g
    rw [ek]
    obtain ⟨y1, y2, y3⟩ := rbring (t := (O, (n, T), P, E, G)) (c := T n) ho base
    exact ⟨⟨hin, fun _ => ⟨hin, y1⟩⟩, fr_trans fp (br_rt y2), y3⟩
theorem tgt_1 {v : Int} (h : isK v) (g : v ≠ 40) : 1 ≤ tgt v := by
  unfold isK at h
  rcases h with h | h | h | h | h
  · exact absurd h g
  all_goals (subst h; decide)
def rTr (s : xS) (r : Int32 × xS) (q : Int × aT) : Prop := fr Prt s r.2 ∧ r.1 = i3 q.1 ∧ (q.1 = 0 → rtr r.2 q.2)
theorem rbk_104 {T : Nat → Int} {P : Int} {E : Bool} : ∀ (n m : Nat) (s : xS) (x : (Nat × (Nat → Int)) × Bool), m + 1 ≤ n → x.1.1 + m ≤ 100 → aBr T m = true → rtr s (x.1, (m, T), P, E, x.2) → tm_bracket_104_ok n s ∧ rTr s (tm_bracket_104 n s) (0, ((aCO T (aLeft T 1 m) m x).1, (aLeft T 1 m - 1, T), P, E, (aCO T (aLeft T 1 m) m x).2)) := by
  intro n
  induction n with
  | zero => intro m s x k1; omega
  | succ n ih =>
    intro m s x k1 k2 k3 h
    cases m with
    | zero => cases k3
    | succ j =>
      have hn : j + 1 ≤ 8 := h.1.2.2.1
      have hT : gI s 241 j = i3 (kI (T j)) := h.1.2.1 j (Nat.lt_succ_self j)
      have hK : isK (T j) := h.1.2.2.2 j (Nat.lt_succ_self j)
      unfold tm_bracket_104 tm_bracket_104_ok
      have e1 : gI s 230 26 - 1 = i3 j := by rw [h.1.1, i3_lit, i3_sub]; exact congrArg i3 (by show ((j + 1 : Nat) : Int) - 1 = j; omega)
      rw [e1, i3_natN (by omega)]
      have c2 : (gI s 241 j = 0) = (T j = 40) := by rw [hT]; exact kI_0 hK
      simp only [c2]
      have hin : vp_in (i3 j) 8 := by rw [i3_inN (by omega)]; omega
      obtain ⟨y1, y2, y3⟩ := rshut (by omega) h
      by_cases g : T j = 40
      · rw [if_pos g]
        rw [if_pos g] at y3
        have el : aLeft T 1 (j + 1) = j + 1 := by unfold aLeft; rw [g, if_neg (by decide)]
        have ec : aCO T (j + 1) (j + 1) x = x := by unfold aCO; rw [if_pos (Nat.lt_succ_self j)]
        rw [el, ec]
        exact ⟨⟨hin, fun _ => y1, fun q => absurd g q⟩, y2, rfl, fun _ => y3⟩
      · rw [if_neg g]
        rw [if_neg g] at y3
        have el : aLeft T 1 (j + 1) = aLeft T 1 j := by rw [aLeft, if_pos (tgt_1 hK g)]
        have hl := aLeft_le T 1 j
        have ec : aCO T (aLeft T 1 j) (j + 1) x = aCO T (aLeft T 1 j) j (pu x.1 (T j), false) := by rw [aCO, if_neg (by omega), if_neg g]
        rw [el, ec]
        have hb : aBr T j = true := by
          rw [show aBr T (j + 1) = (aBr T j || decide (T j = 40)) from rfl, decide_eq_false g, Bool.or_false] at k3
          exact k3
        have z := rGs (b := false) y3
        obtain ⟨p1, p2, p3⟩ := ih j (sI (tm_shut s) 230 27 0) (pu x.1 (T j), false) (by omega) (by show x.1.1 + 1 + j ≤ 100; omega) hb z
        exact ⟨⟨hin, fun q => absurd q g, fun _ => ⟨y1, p1⟩⟩, fr_trans (rt_sI (by omega) y2) p2, p3⟩
theorem rop_15 {T : Nat → Int} {E : Bool} {P k : Int} (hk : isOp k = true) : ∀ (n m : Nat) (s : xS) (x : (Nat × (Nat → Int)) × Bool), m + 1 ≤ n → x.1.1 + m ≤ 100 → rtr s (x.1, (m, T), P, E, x.2) → tm_operator_15_ok n s (i3 k) ∧ rTr s (tm_operator_15 n s (i3 k)) (if 8 ≤ aLeft T (tgt k) m then (6, (x.1, (m, T), P, E, x.2)) else (0, ((aCO T (aLeft T (tgt k) m) m x).1, (aLeft T (tgt k) m + 1, updA T (aLeft T (tgt k) m) k), 1, E, (aCO T (aLeft T (tgt k) m) m x).2))) := by
  obtain ⟨t1, t2⟩ := op_tgt hk
  have hki := isOp_iff.mp hk
  have lay : ∀ (m : Nat) (s : xS) (x : (Nat × (Nat → Int)) × Bool), rtr s (x.1, (m, T), P, E, x.2) → tm_operator_55_ok s (i3 k) ∧ rTr s (tm_operator_55 s (i3 k)) (if 8 ≤ m then (6, (x.1, (m, T), P, E, x.2)) else (0, (x.1, (m + 1, updA T m k), 1, E, x.2))) := by
    intro m s x h
    obtain ⟨h1, h2, h3, h4, h5⟩ := h
    have hn : m ≤ 8 := h1.2.2.1
    rw [tm_operator_55_eq]
    unfold tm_operator_55_ok tm_operator_55_d
    have em : gI s 230 26 = i3 m := h1.1
    have c8 : (gI s 230 26 = 8) = (8 ≤ m) := by rw [em, i3_lit, i3_eq (by omega)]; apply propext; omega
    have e1 : gI s 230 26 + 1 = i3 (m + 1 : Nat) := by rw [em, i3_lit, i3_add]; rfl
    have e2 : (gI s 230 26).toNatClampNeg = m := by rw [em, i3_natN (by omega)]
    simp only [c8, e1, e2]
    by_cases g : 8 ≤ m
    · rw [if_neg (show ¬ ¬ _ from fun q => q g), if_pos g]
      exact ⟨fun q => absurd g q, fr_refl .., rfl, fun q => absurd q (show ¬ (6 : Int) = 0 by decide)⟩
    · rw [if_pos (show ¬ _ from g), if_neg g]
      have f : fr (fun b j => (b = 241 ∧ j = m) ∨ (b = 230 ∧ (j = 26 ∨ j = 32))) s (sI (sI (sI s 241 m (i3 k)) 230 26 (i3 (m + 1 : Nat))) 230 32 1) := fr_sI (fr_sI (fr_sI (fr_refl ..) (Or.inl ⟨rfl, rfl⟩)) (Or.inr ⟨rfl, Or.inl rfl⟩)) (Or.inr ⟨rfl, Or.inr rfl⟩)
      refine ⟨fun _ => by rw [em, i3_inN (by omega)]; omega, fr_mono f (fun b j q => by unfold Prt; omega), rfl, fun _ => ⟨⟨?_, fun i hi => ?_, by show m + 1 ≤ 8; omega, fun i hi => ?_⟩, ?_, (f.1 _ _ (by omega)).1.trans h3, (f.1 _ _ (by omega)).1.trans h4, txt_fr f (by omega) (fun i => by omega) h5⟩⟩
      · rw [gI_sI, if_neg (by omega), gI_sI, if_pos ⟨rfl, rfl⟩]; rfl
      · have hi' : i < m + 1 := hi
        show _ = i3 (kI (if i = m then k else T i))
        rw [gI_sI, if_neg (by omega), gI_sI, if_neg (by omega), gI_sI]
        by_cases w : i = m
        · rw [if_pos ⟨rfl, w⟩, if_pos w]
          have : kI k = k := if_neg (by omega)
          rw [this]
        · rw [if_neg (fun q => w q.2), if_neg w]; exact h1.2.1 i (by show i < m; omega)
      · have hi' : i < m + 1 := hi
        show isK (if i = m then k else T i)
        by_cases w : i = m
        · rw [if_pos w]; exact isOp_K hk
        · rw [if_neg w]; exact h1.2.2.2 i (by show i < m; omega)
      · rw [gI_sI, if_pos ⟨rfl, rfl⟩]; rfl
  intro n
  induction n with
  | zero => intro m s x k1; omega
  | succ n ih =>
    intro m s x k1 k2 h
    have hn : m ≤ 8 := h.1.2.2.1
    unfold tm_operator_15 tm_operator_15_ok
    have em : gI s 230 26 = i3 m := h.1.1
    have c0 : (gI s 230 26 ≤ 0) = (m = 0) := by rw [em, i3_lit, i3_le (by omega)]; apply propext; omega
    simp only [c0]
    cases m with
    | zero =>
      rw [if_pos rfl]
      obtain ⟨y1, y2⟩ := lay 0 s x h
      exact ⟨⟨fun _ => y1, fun q => absurd rfl q⟩, y2⟩
    | succ j =>
      rw [if_neg (Nat.succ_ne_zero j)]
      have hT : gI s 241 j = i3 (kI (T j)) := h.1.2.1 j (Nat.lt_succ_self j)
      have hK : isK (T j) := h.1.2.2.2 j (Nat.lt_succ_self j)
      have e1 : gI s 230 26 - 1 = i3 j := by rw [em, i3_lit, i3_sub]; exact congrArg i3 (by omega)
      have r1 := tgt_rng (T j)
      have r2 := tgt_rng k
      rw [e1, i3_natN (by omega), hT, rk_tgt hK, t1]
      have c2 : (i3 (tgt (T j)) < i3 (tgt k)) = (¬ tgt k ≤ tgt (T j)) := by rw [i3_lt (by omega)]; apply propext; omega
      simp only [c2]
      have hin : vp_in (i3 j) 8 := by rw [i3_inN (by omega)]; omega
      by_cases g : tgt k ≤ tgt (T j)
      · rw [if_neg (show ¬ ¬ _ from fun q => q g)]
        have g40 : T j ≠ 40 := by
          intro w
          rw [w] at g
          have : tgt 40 = 0 := rfl
          omega
        obtain ⟨y1, y2, y3⟩ := rshut (by omega) h
        rw [if_neg g40] at y3
        have el : aLeft T (tgt k) (j + 1) = aLeft T (tgt k) j := by rw [aLeft, if_pos g]
        have hl := aLeft_le T (tgt k) j
        have ec : aCO T (aLeft T (tgt k) j) (j + 1) x = aCO T (aLeft T (tgt k) j) j (pu x.1 (T j), false) := by rw [aCO, if_neg (by omega), if_neg g40]
        rw [el, ec]
        have z := rGs (b := false) y3
        obtain ⟨p1, p2, p3, p4⟩ := ih j (sI (tm_shut s) 230 27 0) (pu x.1 (T j), false) (by omega) (by show x.1.1 + 1 + j ≤ 100; omega) z
        rw [if_neg (show ¬ 8 ≤ aLeft T (tgt k) j by omega)] at p3 p4
        rw [if_neg (show ¬ 8 ≤ aLeft T (tgt k) j by omega)]
        exact ⟨⟨fun q => absurd q (Nat.succ_ne_zero j), fun _ => ⟨hin, fun q => absurd g q, fun _ => ⟨y1, p1⟩⟩⟩, fr_trans (rt_sI (by omega) y2) p2, p3, p4⟩
      · rw [if_pos (show ¬ _ from g)]
        have el : aLeft T (tgt k) (j + 1) = j + 1 := by rw [aLeft, if_neg g]
        have ec : aCO T (j + 1) (j + 1) x = x := by rw [aCO, if_pos (Nat.lt_succ_self j)]
        rw [el, ec]
        obtain ⟨y1, y2⟩ := lay (j + 1) s x h
        exact ⟨⟨fun q => absurd q (Nat.succ_ne_zero j), fun _ => ⟨hin, fun _ => y1, fun q => absurd g q⟩⟩, y2⟩
