/-! THE TRANSLATOR: what it does, and the class -/
abbrev aT : Type := (Nat × (Nat → Int)) × (Nat × (Nat → Int)) × Int × Bool × Bool
def tO (t : aT) : Nat × (Nat → Int) := t.1
def tN (t : aT) : Nat := t.2.1.1
def tT (t : aT) : Nat → Int := t.2.1.2
def tP (t : aT) : Int := t.2.2.1
def tEn (t : aT) : Bool := t.2.2.2.1
def tG (t : aT) : Bool := t.2.2.2.2
def pu (o : Nat × (Nat → Int)) (c : Int) : Nat × (Nat → Int) := (o.1 + 1, updA o.2 o.1 c)
def isRc (k : Int) : Bool := decide (97 ≤ k) && decide (k ≤ 106)
def isFt (k : Int) : Bool := decide (k = 81) || (decide (k = 83) || decide (k = 73))
def isNb (k : Int) : Bool := isBg k || isRc k
def isFu (k : Int) : Bool := isFt k || decide (k = 78)
def isRw (k : Int) : Bool := isRk k && !decide (k = 61)
def aNm (T : Nat → Int) : Nat → Nat
  | 0 => 0
  | n + 1 => aNm T n + (if T n = 40 then 0 else 1)
/-- what closing brings -/
def aCO (T : Nat → Int) (l : Nat) : Nat → (Nat × (Nat → Int)) × Bool → (Nat × (Nat → Int)) × Bool
  | 0, x => x
  | n + 1, x => if n < l then x else if T n = 40 then aCO T l n x else aCO T l n (pu x.1 (T n), false)
def aSep (k : Int) (G : Bool) (o : Nat × (Nat → Int)) : Nat × (Nat → Int) := bif G then (bif isBg k then pu o 61 else if k = 78 then pu (pu o 87) 87 else o) else o
def aT178 (k : Int) (t : aT) : aT := (pu (aSep k (tG t) (tO t)) k, (tN t, tT t), 2, isBg k, isBg k)
def aTrow (k : Int) (t : aT) : Int × aT :=
  if aOutR k (tP t) (tT t) (tN t) = true ∨ (isOp k = true ∧ tP t = 0) then (5, t)
  else if 8 ≤ aLbR k (tT t) (tN t) ∧ (k = 40 ∨ isOp k = true) then (6, t)
  else (0, ((aCO (tT t) (aLbR k (tT t) (tN t)) (tN t) (tO t, tG t)).1, (if k = 41 then (aLbR k (tT t) (tN t) - 1, tT t) else (aLbR k (tT t) (tN t) + 1, updA (tT t) (aLbR k (tT t) (tN t)) k)), (if k = 41 then 2 else 1), false, (aCO (tT t) (aLbR k (tT t) (tN t)) (tN t) (tO t, tG t)).2))
def aT1 (k : Int) (t : aT) : Int × aT :=
  if isNb k = false ∧ isFu k = false ∧ isRw k = false then (1, t)
  else if tEn t = true ∧ (isBg k = true ∨ k = 78) then (0, (pu (tO t) k, t.2))
  else if isRw k = true then aTrow k t
  else if isNb k = true then (if tP t = 2 then (5, t) else if 4 ≤ aNm (tT t) (tN t) then (6, t) else (0, aT178 k t))
  else if tP t = 2 then (0, aT178 k t) else (5, t)
/-- the keys from place i, and the end -/
def aTall (tx : Nat → Int) : Nat → Nat → aT → Int × (Nat × (Nat → Int))
  | 0, _, t => if tP t = 2 ∧ aBr (tT t) (tN t) = false then (0, (aCO (tT t) 0 (tN t) (tO t, tG t)).1) else (5, tO t)
  | n + 1, i, t => if (aT1 (tx i) t).1 = 0 then aTall tx n (i + 1) (aT1 (tx i) t).2 else ((aT1 (tx i) t).1, tO t)
def aT0 (ok : Nat → Int) : aT := ((0, ok), (0, fun _ => 40), 0, false, false)
def aTn (A : aA) : Nat := if 0 < qTn A ∧ qTx A (qTn A - 1) = 61 then qTn A - 1 else qTn A
def aTres (A : aA) : Int × (Nat × (Nat → Int)) := aTall (qTx A) (aTn A) 0 (aT0 (qOk A))
def aTrans (A : aA) : Int × aA := if (aTres A).1 = 0 then (((aTres A).2.1 : Nat), zO A (aTres A).2.1 (aTres A).2.2) else (-(aTres A).1, zO A 0 (qOk A))
/-- what holds of it after m keys -/
def wT (m : Nat) (t : aT) : Prop := tN t ≤ 8 ∧ (∀ i, i < tN t → isK (tT t i)) ∧ (0 ≤ tP t ∧ tP t ≤ 2) ∧ (tEn t = true → tG t = true) ∧ (tO t).1 + aNm (tT t) (tN t) + (bif tG t then 1 else 0) ≤ 2 * m
theorem aNm_le (T : Nat → Int) (n : Nat) : aNm T n ≤ n := by
  induction n with
  | zero => exact Nat.le_refl _
  | succ n ih => unfold aNm; split <;> omega
theorem aNm_upd {T : Nat → Int} {l : Nat} {k : Int} : ∀ n, n ≤ l → aNm (updA T l k) n = aNm T n := by
  intro n
  induction n with
  | zero => intro _; rfl
  | succ n ih =>
    intro h
    unfold aNm
    rw [ih (by omega)]
    have : updA T l k n = T n := if_neg (by omega)
    rw [this]
theorem aNm_mono (T : Nat → Int) {l n : Nat} (h : l ≤ n) : aNm T l ≤ aNm T n := by
  induction n with
  | zero => have : l = 0 := by omega
            subst this; exact Nat.le_refl _
  | succ n ih =>
    by_cases g : l = n + 1
    · subst g; exact Nat.le_refl _
    · have := ih (by omega)
      rw [show aNm T (n + 1) = aNm T n + (if T n = 40 then 0 else 1) from rfl]
      omega
theorem aCO_n (T : Nat → Int) {l : Nat} : ∀ (n : Nat) (x : (Nat × (Nat → Int)) × Bool), l ≤ n → (aCO T l n x).1.1 + aNm T l = x.1.1 + aNm T n := by
  intro n
  induction n with
  | zero => intro x h; have : l = 0 := by omega
            subst this; rfl
  | succ n ih =>
    intro x h
    unfold aCO
    by_cases g : n < l
    · rw [if_pos g, show l = n + 1 by omega]
    · rw [if_neg g]
      by_cases g2 : T n = 40
      · rw [if_pos g2, ih x (by omega)]
        rw [show aNm T (n + 1) = aNm T n + (if T n = 40 then 0 else 1) from rfl, if_pos g2]; rfl
      · rw [if_neg g2, ih _ (by omega)]
        rw [show aNm T (n + 1) = aNm T n + (if T n = 40 then 0 else 1) from rfl, if_neg g2]
        show x.1.1 + 1 + aNm T n = _; omega
theorem aCO_g (T : Nat → Int) {l : Nat} : ∀ (n : Nat) (x : (Nat × (Nat → Int)) × Bool), (aCO T l n x).2 = true → x.2 = true := by
  intro n
  induction n with
  | zero => intro x h; exact h
  | succ n ih =>
    intro x h
    unfold aCO at h
    split at h
    · exact h
    · split at h
      · exact ih x h
      · exact absurd (ih _ h) (show ¬ false = true by decide)
theorem isOp_K {k : Int} (h : isOp k = true) : isK k := by
  have := isOp_k h
  unfold isK; omega
theorem isRw_k {k : Int} (h : isRw k = true) : k = 40 ∨ k = 41 ∨ isOp k = true := by
  unfold isRw at h
  rw [Bool.and_eq_true] at h
  have h2 : k ≠ 61 := by simpa using h.2
  have h1 := h.1
  unfold isRk at h1
  simp only [Bool.or_eq_true, decide_eq_true_eq] at h1
  rcases h1 with w | w | w | w
  · exact Or.inr (Or.inr w)
  · exact Or.inl w
  · exact Or.inr (Or.inl w)
  · exact absurd w h2
theorem gn_le (b : Bool) : (bif b then 1 else 0 : Nat) ≤ 1 := by cases b <;> decide
theorem wT_1 {m : Nat} {t : aT} {k : Int} (h : wT m t) (h0 : (aT1 k t).1 = 0) : wT (m + 1) (aT1 k t).2 := by
  obtain ⟨h1, h2, h3, h4, h5⟩ := h
  have h178 : wT (m + 1) (aT178 k t) := by
    refine ⟨h1, h2, by show (0 : Int) ≤ 2 ∧ (2 : Int) ≤ 2; omega, fun q => q, ?_⟩
    show (aSep k (tG t) (tO t)).1 + 1 + aNm (tT t) (tN t) + (bif isBg k then 1 else 0) ≤ _
    unfold aSep
    cases hg : tG t
    · rw [hg] at h5
      have := gn_le (isBg k)
      simp only [cond_false] at h5 ⊢
      omega
    · rw [hg] at h5
      simp only [cond_true] at h5 ⊢
      cases hb : isBg k
      · simp only [cond_false]
        split
        · show (tO t).1 + 1 + 1 + 1 + _ + _ ≤ _; omega
        · omega
      · simp only [cond_true]
        show (tO t).1 + 1 + 1 + _ + _ ≤ _; omega
  revert h0
  unfold aT1
  split
  · exact fun q => absurd q (show ¬ (1 : Int) = 0 by decide)
  · split
    · intro _
      refine ⟨h1, h2, h3, h4, ?_⟩
      show (tO t).1 + 1 + aNm (tT t) (tN t) + (bif tG t then 1 else 0) ≤ _; omega
    · split
      · rename_i hrw
        unfold aTrow
        have hl := aLbR_le k (tT t) (tN t)
        have hn := aCO_n (tT t) (l := aLbR k (tT t) (tN t)) (tN t) (tO t, tG t) hl
        have hg := aCO_g (tT t) (l := aLbR k (tT t) (tN t)) (tN t) (tO t, tG t)
        have hnm := aNm_upd (T := tT t) (l := aLbR k (tT t) (tN t)) (k := k) (aLbR k (tT t) (tN t)) (Nat.le_refl _)
        have hgl : (bif (aCO (tT t) (aLbR k (tT t) (tN t)) (tN t) (tO t, tG t)).2 then 1 else 0 : Nat) ≤ (bif tG t then 1 else 0 : Nat) := by
          cases hq : (aCO (tT t) (aLbR k (tT t) (tN t)) (tN t) (tO t, tG t)).2
          · exact Nat.zero_le _
          · have : tG t = true := hg hq
            rw [this]; exact Nat.le_refl _
        generalize aLbR k (tT t) (tN t) = l at *
        generalize aCO (tT t) l (tN t) (tO t, tG t) = x at *
        dsimp only at hn
        split
        · exact fun q => absurd q (show ¬ (5 : Int) = 0 by decide)
        · split
          · exact fun q => absurd q (show ¬ (6 : Int) = 0 by decide)
          · rename_i hfull
            intro _
            by_cases g : k = 41
            · rw [if_pos g, if_pos g]
              refine ⟨by show l - 1 ≤ 8; omega, fun i hi => h2 i (by have : i < l - 1 := hi; omega), by show (0 : Int) ≤ 2 ∧ (2 : Int) ≤ 2; omega, fun q => absurd q (show ¬ false = true by decide), ?_⟩
              show x.1.1 + aNm (tT t) (l - 1) + (bif x.2 then 1 else 0) ≤ _
              have := aNm_mono (tT t) (show l - 1 ≤ l by omega)
              omega
            · rw [if_neg g, if_neg g]
              have hk : k = 40 ∨ isOp k = true := by rcases isRw_k hrw with w | w | w; exact Or.inl w; exact absurd w g; exact Or.inr w
              have hl8 : l < 8 := by
                by_cases w : 8 ≤ l
                · exact absurd ⟨w, hk⟩ hfull
                · omega
              refine ⟨by show l + 1 ≤ 8; omega, fun i hi => ?_, by show (0 : Int) ≤ 1 ∧ (1 : Int) ≤ 2; omega, fun q => absurd q (show ¬ false = true by decide), ?_⟩
              · show isK (if i = l then k else tT t i)
                have hi' : i < l + 1 := hi
                by_cases w : i = l
                · rw [if_pos w]; rcases hk with w | w; exact Or.inl w; exact isOp_K w
                · rw [if_neg w]; exact h2 i (by omega)
              · show x.1.1 + aNm (updA (tT t) l k) (l + 1) + (bif x.2 then 1 else 0) ≤ _
                have : aNm (updA (tT t) l k) (l + 1) ≤ aNm (tT t) l + 1 := by
                  rw [show aNm (updA (tT t) l k) (l + 1) = aNm (updA (tT t) l k) l + (if updA (tT t) l k l = 40 then 0 else 1) from rfl, hnm]
                  split <;> omega
                omega
      · split
        · split
          · exact fun q => absurd q (show ¬ (5 : Int) = 0 by decide)
          · split
            · exact fun q => absurd q (show ¬ (6 : Int) = 0 by decide)
            · exact fun _ => h178
        · split
          · exact fun _ => h178
          · exact fun q => absurd q (show ¬ (5 : Int) = 0 by decide)
/-! the class -/
def Ptr (b j : Nat) : Prop := (b = 225 ∧ (j = 1 ∨ j = 5 ∨ j = 6)) ∨ b = 226 ∨ b = 228 ∨ b = 229
def ctr (s : xS) (t : aT) : Prop := rowR s 228 229 (tT t) (tN t) ∧ gI s 228 2 = i3 (tP t) ∧ gI s 225 5 = zb (tEn t) ∧ gI s 225 6 = zb (tG t) ∧ txt s 225 226 1 (tO t)
theorem cemit {s : xS} {t : aT} {c : Int} (ho : (tO t).1 < 120) (h : ctr s t) : tr_emit_ok s (i3 c) ∧ fr (fun b j => (b = 225 ∧ j = 1) ∨ b = 226) s (tr_emit s (i3 c)) ∧ ctr (tr_emit s (i3 c)) (pu (tO t) c, t.2) := by
  obtain ⟨h1, h2, h3, h4, h5⟩ := h
  rw [tr_emit_eq]
  unfold tr_emit_ok tr_emit_d
  have c1 : ¬ (120 : Int32) ≤ gI s 225 1 := by rw [h5.1, i3_lit, i3_le (by omega)]; omega
  have e2 : gI s 225 1 + 1 = i3 ((tO t).1 + 1 : Nat) := by rw [h5.1, i3_lit, i3_add]; rfl
  have e3 : (gI s 225 1).toNatClampNeg = (tO t).1 := by rw [h5.1, i3_natN (by omega)]
  rw [if_neg c1, e2, e3]
  have f : fr (fun b j => (b = 225 ∧ j = 1) ∨ b = 226) s (sI (sI s 226 (tO t).1 (i3 c)) 225 1 (i3 ((tO t).1 + 1 : Nat))) := fr_sI (fr_sI (fr_refl ..) (Or.inr rfl)) (Or.inl ⟨rfl, rfl⟩)
  exact ⟨fun _ => by rw [h5.1, i3_inN (by omega)]; omega, f, ⟨(f.1 _ _ (by omega)).1.trans h1.1, fun i hi => (f.1 _ _ (by omega)).1.trans (h1.2.1 i hi), h1.2.2.1, h1.2.2.2.1, h1.2.2.2.2⟩, (f.1 _ _ (by omega)).1.trans h2, (f.1 _ _ (by omega)).1.trans h3, (f.1 _ _ (by omega)).1.trans h4, txt_push (by omega) h5⟩
theorem cG {s : xS} {t : aT} {b : Bool} (h : ctr s t) : ctr (sI s 225 6 (zb b)) (t.1, t.2.1, t.2.2.1, t.2.2.2.1, b) := by
  obtain ⟨h1, h2, h3, h4, h5⟩ := h
  have f : fr (fun b j => b = 225 ∧ j = 6) s (sI s 225 6 (zb b)) := fr_sI (fr_refl ..) ⟨rfl, rfl⟩
  exact ⟨⟨(f.1 _ _ (by omega)).1.trans h1.1, fun i hi => (f.1 _ _ (by omega)).1.trans (h1.2.1 i hi), h1.2.2.1, h1.2.2.2.1, h1.2.2.2.2⟩, (f.1 _ _ (by omega)).1.trans h2, (f.1 _ _ (by omega)).1.trans h3, by rw [gI_sI, if_pos ⟨rfl, rfl⟩]; rfl, (f.1 _ _ (by omega)).1.trans h5.1, fun i hi => (f.1 _ _ (by omega)).1.trans (h5.2 i hi)⟩
theorem cE5 {s : xS} {t : aT} {b : Bool} (h : ctr s t) : ctr (sI s 225 5 (zb b)) (t.1, t.2.1, t.2.2.1, b, t.2.2.2.2) := by
  obtain ⟨h1, h2, h3, h4, h5⟩ := h
  have f : fr (fun b j => b = 225 ∧ j = 5) s (sI s 225 5 (zb b)) := fr_sI (fr_refl ..) ⟨rfl, rfl⟩
  exact ⟨⟨(f.1 _ _ (by omega)).1.trans h1.1, fun i hi => (f.1 _ _ (by omega)).1.trans (h1.2.1 i hi), h1.2.2.1, h1.2.2.2.1, h1.2.2.2.2⟩, (f.1 _ _ (by omega)).1.trans h2, by rw [gI_sI, if_pos ⟨rfl, rfl⟩]; rfl, (f.1 _ _ (by omega)).1.trans h4, (f.1 _ _ (by omega)).1.trans h5.1, fun i hi => (f.1 _ _ (by omega)).1.trans (h5.2 i hi)⟩
theorem cclose_10 {l : Nat} {P : Int} {E : Bool} {N : Nat} {T : Nat → Int} : ∀ (n i : Nat) (s : xS) (x : (Nat × (Nat → Int)) × Bool), i ≤ N → i + 1 ≤ n → x.1.1 + i ≤ 120 → l ≤ 8 → ctr s (x.1, (N, T), P, E, x.2) → tr_close_10_ok n s (i3 l) (i3 ((i : Int) - 1)) ∧ fr Ptr s (tr_close_10 n s (i3 l) (i3 ((i : Int) - 1))) ∧ ctr (tr_close_10 n s (i3 l) (i3 ((i : Int) - 1))) ((aCO T l i x).1, (N, T), P, E, (aCO T l i x).2) := by
  intro n
  induction n with
  | zero => intro i s x k1 k2; omega
  | succ n ih =>
    intro i s x k1 k2 k3 k4 h
    have hN : N ≤ 8 := h.1.2.2.1
    unfold tr_close_10 tr_close_10_ok
    have c1 : (i3 ((i : Int) - 1) < i3 l) = ((i : Int) - 1 < l) := by rw [i3_lt (by omega)]
    simp only [c1]
    cases i with
    | zero =>
      rw [if_pos (show ((0 : Nat) : Int) - 1 < l by omega)]
      exact ⟨fun q => absurd (show ((0 : Nat) : Int) - 1 < l by omega) q, fr_refl .., h⟩
    | succ j =>
      have ej : ((j + 1 : Nat) : Int) - 1 = (j : Int) := by omega
      rw [ej]
      have e2 : i3 (j : Int) + -1 = i3 ((j : Int) - 1) := by rw [i3_lit, i3_neg, i3_add]; exact congrArg i3 (by omega)
      rw [e2, i3_natN (by omega)]
      unfold aCO
      by_cases g : j < l
      · rw [if_pos (show (j : Int) < l by omega), if_pos g]
        exact ⟨fun q => absurd (show (j : Int) < l by omega) q, fr_refl .., h⟩
      · rw [if_neg (show ¬ (j : Int) < l by omega), if_neg g]
        have hT : gI s 229 j = i3 (T j) := h.1.2.1 j (by show j < N; omega)
        have hK := isK_rng (h.1.2.2.2.1 j (by show j < N; omega))
        have hK' : 0 ≤ T j ∧ T j ≤ 255 := hK
        have c2 : (gI s 229 j = 40) = (T j = 40) := by rw [hT, i3_lit, i3_eq (by omega)]
        simp only [c2]
        have hin : vp_in (i3 (j : Int)) 8 := by rw [i3_inN (by omega)]; omega
        by_cases g2 : T j = 40
        · rw [if_pos g2, if_pos g2]
          obtain ⟨p1, p2⟩ := ih j s x (by omega) (by omega) (by omega) k4 h
          exact ⟨fun _ => ⟨hin, fun _ => p1, fun q => absurd g2 q⟩, p2⟩
        · rw [if_neg g2, if_neg g2, hT]
          obtain ⟨y1, y2, y3⟩ := cemit (c := T j) (by show x.1.1 < 120; omega) h
          have z := cG (b := false) y3
          obtain ⟨p1, p2, p3⟩ := ih j (sI (tr_emit s (i3 (T j))) 225 6 0) (pu x.1 (T j), false) (by omega) (by omega) (by show x.1.1 + 1 + j ≤ 120; omega) k4 z
          exact ⟨fun _ => ⟨hin, fun q => absurd q g2, fun _ => ⟨hin, y1, p1⟩⟩, fr_trans (fr_sI (fr_mono y2 (fun b j q => by unfold Ptr; omega)) (Or.inl ⟨rfl, Or.inr (Or.inr rfl)⟩)) p2, p3⟩
theorem ctclose {s : xS} {t : aT} {l : Nat} (hl : l ≤ 8) (ho : (tO t).1 + tN t ≤ 120) (h : ctr s t) : tr_close_ok s (i3 l) ∧ fr Ptr s (tr_close s (i3 l)) ∧ ctr (tr_close s (i3 l)) ((aCO (tT t) l (tN t) (tO t, tG t)).1, (tN t, tT t), tP t, tEn t, (aCO (tT t) l (tN t) (tO t, tG t)).2) := by
  rw [tr_close_eq]
  unfold tr_close_ok tr_close_d
  have e : gI s 228 1 - 1 = i3 ((tN t : Int) - 1) := by rw [h.1.1, i3_lit, i3_sub]
  have hN := h.1.2.2.1
  rw [e]
  exact cclose_10 xfu (tN t) s (tO t, tG t) (Nat.le_refl _) (by rw [xfu_eq]; omega) ho hl h
theorem cnum_4 {s : xS} {a t : Nat} {T : Nat → Int} {m : Nat} (h : rowR s a t T m) : ∀ (n i : Nat), i ≤ m → m + 1 ≤ n + i → ro_countNumbers_4_ok n s a t (i3 (aNm T i)) (i3 i) ∧ ro_countNumbers_4 n s a t (i3 (aNm T i)) (i3 i) = i3 (aNm T m) := by
  obtain ⟨h1, h2, h3, h4, h5⟩ := h
  intro n
  induction n with
  | zero => intro i k1 k2; omega
  | succ n ih =>
    intro i k1 k2
    unfold ro_countNumbers_4 ro_countNumbers_4_ok
    have c1 : (gI s a 1 ≤ i3 i) = (m ≤ i) := by rw [h1]; exact i3_leN (by omega) (by omega)
    have e1 : i3 i + 1 = i3 (i + 1 : Nat) := by rw [i3_lit, i3_add]; rfl
    have e2 : i3 (aNm T i) + 1 = i3 (aNm T i + 1 : Nat) := by rw [i3_lit, i3_add]; rfl
    simp only [c1, e1, e2, h5]
    rw [i3_natN (by omega)]
    by_cases g : m ≤ i
    · rw [if_pos g, show i = m by omega]
      exact ⟨fun q => absurd (Nat.le_refl m) q, rfl⟩
    · rw [if_neg g]
      have hK := isK_rng (h4 i (by omega))
      have c2 : (gI s t i = 40) = (T i = 40) := by rw [h2 i (by omega), i3_lit, i3_eq (by omega)]
      simp only [c2]
      have hin : vp_in (i3 i) 8 := by rw [i3_inN (by omega)]; omega
      obtain ⟨p1, p2⟩ := ih (i + 1) (by omega) (by omega)
      rw [show aNm T (i + 1) = aNm T i + (if T i = 40 then 0 else 1) from rfl] at p1 p2
      by_cases g2 : T i = 40
      · rw [if_pos g2] at p1 p2
        rw [if_pos g2]
        exact ⟨fun _ => ⟨hin, fun _ => p1, fun q => absurd g2 q⟩, p2⟩
      · rw [if_neg g2] at p1 p2
        rw [if_neg g2]
        exact ⟨fun _ => ⟨hin, fun q => absurd q g2, fun _ => p1⟩, p2⟩
theorem cnum {s : xS} {a t : Nat} {T : Nat → Int} {m : Nat} (h : rowR s a t T m) : ro_countNumbers_ok s a t ∧ ro_countNumbers s a t = i3 (aNm T m) := by
  unfold ro_countNumbers_ok ro_countNumbers
  have := h.2.2.1
  exact cnum_4 h xfu 0 (Nat.zero_le _) (by rw [xfu_eq]; omega)
def cTr (s : xS) (r : Int32 × xS) (q : Int × aT) : Prop := fr Ptr s r.2 ∧ r.1 = i3 q.1 ∧ (q.1 = 0 → ctr r.2 q.2)
theorem ctrow {s : xS} {t : aT} {k : Int} (hk : 0 ≤ k ∧ k ≤ 255) (hw : isRw k = true) (hP : 0 ≤ tP t ∧ tP t ≤ 2) (ho : (tO t).1 + tN t ≤ 119) (h : ctr s t) : tr_takeRowKey_ok s (i3 k) ∧ cTr s (tr_takeRowKey s (i3 k)) (aTrow k t) := by
  obtain ⟨h1, h2, h3, h4, h5⟩ := h
  have hh : ctr s t := ⟨h1, h2, h3, h4, h5⟩
  have hN := h1.2.2.1
  obtain ⟨o1, o2⟩ := cout hk hP h2 h1
  obtain ⟨l1, l2⟩ := cleft hk h1
  have hl := aLbR_le k (tT t) (tN t)
  have c0 : (gI s 228 2 = 0) = (tP t = 0) := by rw [h2, i3_lit, i3_eq (by omega)]
  rw [tr_takeRowKey_eq]
  unfold tr_takeRowKey_ok tr_takeRowKey_d
  rw [o2, isOp_te hk]
  simp only [c0]
  have main : tr_takeRowKey_30_ok s (i3 k) ∧ cTr s (tr_takeRowKey_30 s (i3 k)) (if 8 ≤ aLbR k (tT t) (tN t) ∧ (k = 40 ∨ isOp k = true) then (6, t) else (0, ((aCO (tT t) (aLbR k (tT t) (tN t)) (tN t) (tO t, tG t)).1, (if k = 41 then (aLbR k (tT t) (tN t) - 1, tT t) else (aLbR k (tT t) (tN t) + 1, updA (tT t) (aLbR k (tT t) (tN t)) k)), (if k = 41 then 2 else 1), false, (aCO (tT t) (aLbR k (tT t) (tN t)) (tN t) (tO t, tG t)).2))) := by
    rw [tr_takeRowKey_30_eq]
    unfold tr_takeRowKey_30_ok tr_takeRowKey_30_d
    rw [l2, cfull hk (by omega)]
    by_cases g : 8 ≤ aLbR k (tT t) (tN t) ∧ (k = 40 ∨ isOp k = true)
    · rw [decide_eq_true g, if_neg (show ¬ true = false by decide), if_pos g]
      exact ⟨⟨l1, fun q => (by cases q)⟩, fr_refl .., rfl, fun q => absurd q (show ¬ (6 : Int) = 0 by decide)⟩
    · rw [decide_eq_false g, if_pos (show false = false from rfl), if_neg g]
      have z := cE5 (b := false) hh
      obtain ⟨y1, y2, y3⟩ := ctclose (l := aLbR k (tT t) (tN t)) (by omega) (by show (tO t).1 + tN t ≤ 120; omega) z
      have y1' : tr_close_ok (sI s 225 5 0) (i3 (aLbR k (tT t) (tN t) : Nat)) := y1
      have y2' : fr Ptr (sI s 225 5 0) (tr_close (sI s 225 5 0) (i3 (aLbR k (tT t) (tN t) : Nat))) := y2
      have y3' : ctr (tr_close (sI s 225 5 0) (i3 (aLbR k (tT t) (tN t) : Nat))) ((aCO (tT t) (aLbR k (tT t) (tN t)) (tN t) (tO t, tG t)).1, (tN t, tT t), tP t, false, (aCO (tT t) (aLbR k (tT t) (tN t)) (tN t) (tO t, tG t)).2) := y3
      generalize aLbR k (tT t) (tN t) = l at *
      generalize aCO (tT t) l (tN t) (tO t, tG t) = x at *
      have f0 : fr Ptr s (tr_close (sI s 225 5 0) (i3 (l : Nat))) := fr_trans (fr_sI (fr_refl ..) (Or.inl ⟨rfl, Or.inr (Or.inl rfl)⟩)) y2'
      generalize tr_close (sI s 225 5 0) (i3 (l : Nat)) = u at *
      obtain ⟨r1, r2, r3, r4, r5⟩ := y3'
      rw [ro_follow_eq]
      unfold ro_follow_ok ro_follow_d
      have c61 : ¬ i3 k = 61 := by
        rw [i3_lit, i3_eq (by omega)]
        rcases isRw_k hw with w | w | w
        · omega
        · omega
        · have := isOp_k w; omega
      have c41 : (i3 k = 41) = (k = 41) := by rw [i3_lit, i3_eq (by omega)]
      have c8 : ((8 : Int32) ≤ i3 (l : Nat)) = (8 ≤ l) := by rw [i3_lit, i3_le (by omega)]; apply propext; omega
      rw [if_pos (show ¬ i3 k = 61 from c61)]
      simp only [c41, c8]
      by_cases g41 : k = 41
      · rw [if_neg (show ¬ ¬ k = 41 from fun q => q g41), if_pos g41, if_pos g41]
        have em : imax (i3 (l : Nat) - 1) 0 = i3 (l - 1 : Nat) := by
          unfold imax
          rw [i3_lit, i3_lit, i3_sub]
          by_cases w : l = 0
          · subst w; rfl
          · rw [if_neg (by rw [i3_lt (by omega)]; omega)]; exact congrArg i3 (by omega)
        rw [em]
        have f1 : fr (fun b j => b = 228) u (sI (sI u 228 1 (i3 (l - 1 : Nat))) 228 2 2) := fr_sI (fr_sI (fr_refl ..) rfl) rfl
        refine ⟨⟨l1, fun _ => ⟨y1', fun _ q => absurd g41 q⟩⟩, fr_trans f0 (fr_mono f1 (fun b j q => by unfold Ptr; omega)), rfl, fun _ => ⟨⟨?_, fun i hi => (f1.1 _ _ (by omega)).1.trans (r1.2.1 i (by have : i < l - 1 := hi; show i < tN t; omega)), by show l - 1 ≤ 8; omega, fun i hi => r1.2.2.2.1 i (by have : i < l - 1 := hi; show i < tN t; omega), r1.2.2.2.2⟩, ?_, (f1.1 _ _ (by omega)).1.trans r3, (f1.1 _ _ (by omega)).1.trans r4, (f1.1 _ _ (by omega)).1.trans r5.1, fun i hi => (f1.1 _ _ (by omega)).1.trans (r5.2 i hi)⟩⟩
        · rw [gI_sI, if_neg (by omega), gI_sI, if_pos ⟨rfl, rfl⟩]; rfl
        · rw [gI_sI, if_pos ⟨rfl, rfl⟩]; rfl
      · rw [if_pos (show ¬ k = 41 from g41), if_neg g41, if_neg g41]
        have hk' : k = 40 ∨ isOp k = true := by rcases isRw_k hw with w | w | w; exact Or.inl w; exact absurd w g41; exact Or.inr w
        have hl8 : ¬ 8 ≤ l := fun w => g ⟨w, hk'⟩
        have e1 : i3 (l : Nat) + 1 = i3 (l + 1 : Nat) := by rw [i3_lit, i3_add]; rfl
        rw [if_neg hl8, e1, i3_natN (by omega)]
        have f1 : fr (fun b j => b = 228 ∨ (b = 229 ∧ j = l)) u (sI (sI (sI u 229 l (i3 k)) 228 1 (i3 (l + 1 : Nat))) 228 2 1) := fr_sI (fr_sI (fr_sI (fr_refl ..) (Or.inr ⟨rfl, rfl⟩)) (Or.inl rfl)) (Or.inl rfl)
        refine ⟨⟨l1, fun _ => ⟨y1', fun _ _ _ => ?_⟩⟩, fr_trans f0 (fr_mono f1 (fun b j q => by unfold Ptr; omega)), rfl, fun _ => ⟨⟨?_, fun i hi => ?_, by show l + 1 ≤ 8; omega, fun i hi => ?_, r1.2.2.2.2⟩, ?_, (f1.1 _ _ (by omega)).1.trans r3, (f1.1 _ _ (by omega)).1.trans r4, (f1.1 _ _ (by omega)).1.trans r5.1, fun i hi => (f1.1 _ _ (by omega)).1.trans (r5.2 i hi)⟩⟩
        · rw [r1.2.2.2.2, i3_inN (by omega)]; omega
        · rw [gI_sI, if_neg (by omega), gI_sI, if_pos ⟨rfl, rfl⟩]; rfl
        · have hi' : i < l + 1 := hi
          show _ = i3 (if i = l then k else tT t i)
          rw [gI_sI, if_neg (by omega), gI_sI, if_neg (by omega), gI_sI]
          by_cases w : i = l
          · rw [if_pos ⟨rfl, w⟩, if_pos w]
          · rw [if_neg (fun q => w q.2), if_neg w]; exact r1.2.1 i (by show i < tN t; omega)
        · have hi' : i < l + 1 := hi
          show isK (if i = l then k else tT t i)
          by_cases w : i = l
          · rw [if_pos w]; rcases hk' with w | w; exact Or.inl w; exact isOp_K w
          · rw [if_neg w]; exact r1.2.2.2.1 i (by show i < tN t; omega)
        · rw [gI_sI, if_pos ⟨rfl, rfl⟩]; rfl
  unfold aTrow
  have bad : cTr s (5, s) (5, t) := ⟨fr_refl .., rfl, fun q => absurd q (show ¬ (5 : Int) = 0 by decide)⟩
  cases go : aOutR k (tP t) (tT t) (tN t)
  · rw [if_neg (show ¬ false = true by decide)]
    cases gp : isOp k
    · rw [if_pos (show false = false from rfl), if_neg (show ¬ (false = true ∨ (false = true ∧ tP t = 0)) from fun q => by rcases q with q | q; cases q; cases q.1)]
      rw [gp] at main
      exact ⟨⟨o1, fun _ => ⟨fun _ => main.1, fun q => (by cases q)⟩⟩, main.2⟩
    · rw [if_neg (show ¬ true = false by decide)]
      by_cases g0 : tP t = 0
      · rw [if_neg (show ¬ ¬ tP t = 0 from fun q => q g0), if_pos (show false = true ∨ (true = true ∧ tP t = 0) from Or.inr ⟨rfl, g0⟩)]
        exact ⟨⟨o1, fun _ => ⟨fun q => (by cases q), fun _ q => absurd g0 q⟩⟩, bad⟩
      · rw [if_pos (show ¬ tP t = 0 from g0), if_neg (show ¬ (false = true ∨ (true = true ∧ tP t = 0)) from fun q => by rcases q with q | q; cases q; exact g0 q.2)]
        rw [gp] at main
        exact ⟨⟨o1, fun _ => ⟨fun q => (by cases q), fun _ _ => main.1⟩⟩, main.2⟩
  · rw [if_pos (show true = true from rfl), if_pos (show true = true ∨ _ from Or.inl rfl)]
    exact ⟨⟨o1, fun q => (by cases q)⟩, bad⟩
theorem isRc_te {k : Int} (hk : 0 ≤ k ∧ k ≤ 255) : te_isRecall (i3 k) = isRc k := by
  unfold te_isRecall isRc
  have c1 : (i3 k < 97) = (k < 97) := by rw [i3_lit, i3_lt (by omega)]
  have c2 : ((106 : Int32) < i3 k) = (106 < k) := by rw [i3_lit, i3_lt (by omega)]
  simp only [c1, c2]
  by_cases g1 : k < 97
  · rw [decide_eq_true g1, decide_eq_false (show ¬ 97 ≤ k by omega)]; rfl
  · rw [decide_eq_false g1, decide_eq_true (show 97 ≤ k by omega)]
    by_cases g2 : 106 < k
    · rw [decide_eq_true g2, decide_eq_false (show ¬ k ≤ 106 by omega)]; rfl
    · rw [decide_eq_false g2, decide_eq_true (show k ≤ 106 by omega)]; rfl
theorem isFt_te {k : Int} (hk : 0 ≤ k ∧ k ≤ 255) : te_isFunction (i3 k) = isFt k := by
  unfold te_isFunction isFt
  have c1 : (i3 k = 81) = (k = 81) := by rw [i3_lit, i3_eq (by omega)]
  have c2 : (i3 k = 83) = (k = 83) := by rw [i3_lit, i3_eq (by omega)]
  have c3 : (i3 k = 73) = (k = 73) := by rw [i3_lit, i3_eq (by omega)]
  simp only [c1, c2, c3]
theorem c198 {s : xS} {t : aT} {k : Int} (ho : (tO t).1 < 120) (h : ctr s t) : tr_take_198_ok s (i3 k) ∧ cTr s (tr_take_198 s (i3 k)) (0, (pu (tO t) k, (tN t, tT t), 2, tEn t, tEn t)) := by
  rw [tr_take_198_eq]
  unfold tr_take_198_ok tr_take_198_d
  obtain ⟨y1, y2, y3⟩ := cemit (c := k) ho h
  have e5 : gI (tr_emit s (i3 k)) 225 5 = zb (tEn t) := y3.2.2.1
  rw [e5]
  have z := cG (b := tEn t) y3
  have f0 : fr Ptr s (sI (tr_emit s (i3 k)) 225 6 (zb (tEn t))) := fr_sI (fr_mono y2 (fun b j q => by unfold Ptr; omega)) (Or.inl ⟨rfl, Or.inr (Or.inr rfl)⟩)
  generalize sI (tr_emit s (i3 k)) 225 6 (zb (tEn t)) = u at *
  obtain ⟨r1, r2, r3, r4, r5⟩ := z
  have f : fr (fun b j => b = 228 ∧ j = 2) u (sI u 228 2 2) := fr_sI (fr_refl ..) ⟨rfl, rfl⟩
  refine ⟨⟨y1, by cases tEn t; exact Or.inl rfl; exact Or.inr rfl⟩, fr_trans f0 (fr_mono f (fun b j q => by unfold Ptr; omega)), rfl, fun _ => ⟨⟨(f.1 _ _ (by omega)).1.trans r1.1, fun i hi => (f.1 _ _ (by omega)).1.trans (r1.2.1 i hi), r1.2.2.1, r1.2.2.2.1, r1.2.2.2.2⟩, by rw [gI_sI, if_pos ⟨rfl, rfl⟩]; rfl, (f.1 _ _ (by omega)).1.trans r3, (f.1 _ _ (by omega)).1.trans r4, (f.1 _ _ (by omega)).1.trans r5.1, fun i hi => (f.1 _ _ (by omega)).1.trans (r5.2 i hi)⟩⟩
theorem c178 {s : xS} {t : aT} {k : Int} (hk : 0 ≤ k ∧ k ≤ 255) (ho : (tO t).1 ≤ 116) (h : ctr s t) : tr_take_178_ok s (i3 k) ∧ cTr s (tr_take_178 s (i3 k)) (0, aT178 k t) := by
  rw [tr_take_178_eq]
  unfold tr_take_178_ok tr_take_178_d
  have g6 : (gI s 225 6 = 0) = (tG t = false) := by rw [h.2.2.2.1]; cases tG t <;> simp [zb]
  rw [isBg_te hk]
  have z := cE5 (b := isBg k) h
  have f0 : fr Ptr s (sI s 225 5 (zb (isBg k))) := fr_sI (fr_refl ..) (Or.inl ⟨rfl, Or.inr (Or.inl rfl)⟩)
  simp only [g6]
  generalize sI s 225 5 (zb (isBg k)) = u at *
  cases hg : tG t
  · rw [if_pos (show false = false from rfl)]
    obtain ⟨p1, p2, p3, p4⟩ := c198 (k := k) (t := (t.1, t.2.1, t.2.2.1, isBg k, t.2.2.2.2)) (by show (tO t).1 < 120; omega) z
    refine ⟨⟨fun _ => p1, fun q => absurd rfl q⟩, fr_trans f0 p2, p3, fun _ => ?_⟩
    have := p4 rfl
    unfold aT178 aSep
    rw [hg]
    exact this
  · rw [if_neg (show ¬ true = false by decide)]
    have sep : tr_separate_ok u (i3 k) ∧ fr Ptr u (tr_separate u (i3 k)) ∧ ctr (tr_separate u (i3 k)) (aSep k true (tO t), t.2.1, t.2.2.1, isBg k, t.2.2.2.2) := by
      rw [tr_separate_eq]
      unfold tr_separate_ok tr_separate_d aSep
      rw [isBg_te hk]
      have c78 : (i3 k = 78) = (k = 78) := by rw [i3_lit, i3_eq (by omega)]
      simp only [c78]
      have me : ∀ {x y : xS}, fr (fun b j => (b = 225 ∧ j = 1) ∨ b = 226) x y → fr Ptr x y := fun f => fr_mono f (fun b j q => by unfold Ptr; omega)
      cases hb : isBg k
      · rw [hb] at z
        rw [if_pos (show false = false from rfl)]
        by_cases g : k = 78
        · rw [if_neg (show ¬ ¬ k = 78 from fun q => q g)]
          obtain ⟨a1, a2, a3⟩ := cemit (c := 87) (by show (tO t).1 < 120; omega) z
          obtain ⟨b1, b2, b3⟩ := cemit (c := 87) (by show (tO t).1 + 1 < 120; omega) a3
          have a1' : tr_emit_ok u 87 := a1
          have b1' : tr_emit_ok (tr_emit u 87) 87 := b1
          dsimp only [cond_true, cond_false]
          rw [if_pos g]
          exact ⟨⟨fun _ _ => ⟨a1', b1'⟩, fun q => (by cases q)⟩, fr_trans (me a2) (me b2), b3⟩
        · rw [if_pos (show ¬ k = 78 from g)]
          dsimp only [cond_true, cond_false]
          rw [if_neg g]
          exact ⟨⟨fun _ q => absurd q g, fun q => (by cases q)⟩, fr_refl .., z⟩
      · rw [hb] at z
        rw [if_neg (show ¬ true = false by decide)]
        obtain ⟨a1, a2, a3⟩ := cemit (c := 61) (by show (tO t).1 < 120; omega) z
        exact ⟨⟨fun q => (by cases q), fun _ => a1⟩, me a2, a3⟩
    obtain ⟨s1, s2, s3⟩ := sep
    have hle : (aSep k true (tO t)).1 ≤ (tO t).1 + 2 := by
      unfold aSep
      dsimp only [cond_true]
      cases isBg k
      · dsimp only [cond_false]; split
        · show (tO t).1 + 1 + 1 ≤ _; omega
        · omega
      · show (tO t).1 + 1 ≤ _; omega
    obtain ⟨p1, p2, p3, p4⟩ := c198 (k := k) (t := (aSep k true (tO t), t.2.1, t.2.2.1, isBg k, t.2.2.2.2)) (by show (aSep k true (tO t)).1 < 120; omega) s3
    refine ⟨⟨fun q => (by cases q), fun _ => ⟨s1, p1⟩⟩, fr_trans f0 (fr_trans s2 p2), p3, fun _ => ?_⟩
    have := p4 rfl
    unfold aT178
    rw [hg]
    exact this
theorem zb0 {b : Bool} : (zb b = 0) = (b = false) := by cases b <;> simp [zb]
theorem ct1 {s : xS} {t : aT} {k : Int} (hk : 0 ≤ k ∧ k ≤ 255) (hP : 0 ≤ tP t ∧ tP t ≤ 2) (ho : (tO t).1 + tN t ≤ 115) (h : ctr s t) : tr_take_ok s (i3 k) ∧ cTr s (tr_take s (i3 k)) (aT1 k t) := by
  have hN := h.1.2.2.1
  have c78 : (i3 k = 78) = (k = 78) := by rw [i3_lit, i3_eq (by omega)]
  have c61 : (i3 k = 61) = (k = 61) := by rw [i3_lit, i3_eq (by omega)]
  have c2 : (gI s 228 2 = 2) = (tP t = 2) := by rw [h.2.1, i3_lit, i3_eq (by omega)]
  have cE : (gI s 225 5 = 0) = (tEn t = false) := by rw [h.2.2.1]; exact zb0
  obtain ⟨n1, n2⟩ := cnum h.1
  have hNm := aNm_le (tT t) (tN t)
  have c4 : (ro_countNumbers s 228 229 < 4) = (¬ 4 ≤ aNm (tT t) (tN t)) := by rw [n2, i3_lit, i3_lt (by omega)]; apply propext; omega
  have bad : ∀ c : Int, c ≠ 0 → cTr s (i3 c, s) (c, t) := fun c hc => ⟨fr_refl .., rfl, fun q => absurd q hc⟩
  -- what follows when it does not go on an open entry
  have m101 : tr_take_101_ok s (i3 k) (zb (isNb k)) (zb (isRw k)) ∧ cTr s (tr_take_101 s (i3 k) (zb (isNb k)) (zb (isRw k))) (if isRw k = true then aTrow k t else if isNb k = true then (if tP t = 2 then (5, t) else if 4 ≤ aNm (tT t) (tN t) then (6, t) else (0, aT178 k t)) else if tP t = 2 then (0, aT178 k t) else (5, t)) := by
    rw [tr_take_101_eq]
    unfold tr_take_101_ok tr_take_101_d
    simp only [zb0, c2, c4]
    cases hr : isRw k
    · rw [if_pos (show false = false from rfl), if_neg (show ¬ false = true by decide)]
      obtain ⟨y1, y2⟩ := c178 (k := k) hk (by omega) h
      cases hn : isNb k
      · rw [if_neg (show ¬ false = true by decide), decide_eq_true (show false = false from rfl)]
        dsimp only [cond_true]
        by_cases g2 : tP t = 2
        · rw [decide_eq_true g2, if_pos (show (!true) = false from rfl), if_pos (show false = false from rfl), if_pos g2]
          exact ⟨⟨fun _ _ => ⟨fun _ => y1, fun q => absurd rfl q⟩, fun q => absurd rfl q⟩, y2⟩
        · rw [decide_eq_false g2, if_neg (show ¬ (!false) = false by decide), if_neg g2]
          exact ⟨⟨fun _ q => absurd q (by decide), fun q => absurd rfl q⟩, bad 5 (by decide)⟩
      · rw [if_pos (show true = true from rfl), decide_eq_false (show ¬ true = false by decide)]
        dsimp only [cond_false]
        by_cases g2 : tP t = 2
        · rw [decide_eq_true g2, if_neg (show ¬ true = false by decide), if_pos g2]
          exact ⟨⟨fun _ q => absurd q (by decide), fun q => absurd rfl q⟩, bad 5 (by decide)⟩
        · rw [decide_eq_false g2, if_pos (show false = false from rfl), if_neg (show ¬ true = false by decide), if_neg g2]
          by_cases g4 : 4 ≤ aNm (tT t) (tN t)
          · rw [if_neg (show ¬ ¬ _ from fun q => q g4), if_pos g4]
            exact ⟨⟨fun _ _ => ⟨fun q => (by cases q), fun _ => ⟨n1, fun q => absurd g4 q⟩⟩, fun q => absurd rfl q⟩, bad 6 (by decide)⟩
          · rw [if_pos (show ¬ _ from g4), if_neg g4]
            exact ⟨⟨fun _ _ => ⟨fun q => (by cases q), fun _ => ⟨n1, fun _ => y1⟩⟩, fun q => absurd rfl q⟩, y2⟩
    · rw [if_neg (show ¬ true = false by decide), if_pos (show true = true from rfl)]
      obtain ⟨y1, y2⟩ := ctrow hk hr hP (by omega) h
      exact ⟨⟨fun q => (by cases q), fun _ => y1⟩, y2⟩
  have m74 : tr_take_74_ok s (i3 k) (zb (isNb k)) (zb (isRw k)) ∧ cTr s (tr_take_74 s (i3 k) (zb (isNb k)) (zb (isRw k))) (if tEn t = true ∧ (isBg k = true ∨ k = 78) then (0, (pu (tO t) k, t.2)) else if isRw k = true then aTrow k t else if isNb k = true then (if tP t = 2 then (5, t) else if 4 ≤ aNm (tT t) (tN t) then (6, t) else (0, aT178 k t)) else if tP t = 2 then (0, aT178 k t) else (5, t)) := by
    rw [tr_take_74_eq]
    unfold tr_take_74_ok tr_take_74_d
    rw [tr_take_94_eq]
    unfold tr_take_94_ok tr_take_94_d
    rw [isBg_te hk]
    simp only [cE, c78]
    obtain ⟨y1, y2, y3⟩ := cemit (c := k) (by omega) h
    have on : cTr s (0, tr_emit s (i3 k)) (0, (pu (tO t) k, t.2)) := ⟨fr_mono y2 (fun b j q => by unfold Ptr; omega), rfl, fun _ => y3⟩
    cases he : tEn t
    · rw [if_pos (show false = false from rfl), if_neg (show ¬ (false = true ∧ _) from fun q => absurd q.1 (by decide))]
      exact ⟨⟨fun _ => m101.1, fun q => absurd rfl q⟩, m101.2⟩
    · rw [if_neg (show ¬ true = false by decide)]
      cases hb : isBg k
      · rw [if_neg (show ¬ false = true by decide)]
        by_cases g : k = 78
        · rw [if_neg (show ¬ ¬ k = 78 from fun q => q g), if_pos (show true = true ∧ (false = true ∨ k = 78) from ⟨rfl, Or.inr g⟩)]
          exact ⟨⟨fun q => (by cases q), fun _ => ⟨fun q => (by cases q), fun _ => ⟨fun q => absurd g q, fun _ => y1⟩⟩⟩, on⟩
        · rw [if_pos (show ¬ k = 78 from g), if_neg (show ¬ (true = true ∧ (false = true ∨ k = 78)) from fun q => by rcases q.2 with q | q; cases q; exact g q)]
          exact ⟨⟨fun q => (by cases q), fun _ => ⟨fun q => (by cases q), fun _ => ⟨fun _ => m101.1, fun q => absurd q g⟩⟩⟩, m101.2⟩
      · rw [if_pos (show true = true from rfl), if_pos (show true = true ∧ (true = true ∨ k = 78) from ⟨rfl, Or.inl rfl⟩)]
        exact ⟨⟨fun q => (by cases q), fun _ => ⟨fun _ => y1, fun q => (by cases q)⟩⟩, on⟩
  rw [tr_take_eq]
  unfold tr_take_ok tr_take_d aT1
  rw [isBg_te hk, isRc_te hk, isFt_te hk, isRk_te hk]
  simp only [c78, c61]
  have eN : (isBg k || isRc k) = isNb k := rfl
  have eF : (isFt k || decide (k = 78)) = isFu k := rfl
  have eR : (isRk k && !decide (k = 61)) = isRw k := rfl
  rw [eN, eF, eR]
  cases h1 : isNb k
  · rw [if_neg (show ¬ false = true by decide)]
    cases h2 : isFu k
    · rw [if_neg (show ¬ false = true by decide)]
      cases h3 : isRw k
      · rw [if_neg (show ¬ false = true by decide), if_pos (show false = false ∧ false = false ∧ false = false from ⟨rfl, rfl, rfl⟩)]
        exact ⟨⟨fun q => (by cases q), fun _ => ⟨fun q => (by cases q), fun _ q => (by cases q)⟩⟩, bad 1 (by decide)⟩
      · rw [if_pos (show true = true from rfl), if_neg (show ¬ (false = false ∧ false = false ∧ true = false) from fun q => by cases q.2.2)]
        rw [h1, h3] at m74
        exact ⟨⟨fun q => (by cases q), fun _ => ⟨fun q => (by cases q), fun _ _ => m74.1⟩⟩, m74.2⟩
    · rw [if_pos (show true = true from rfl), if_neg (show ¬ (false = false ∧ true = false ∧ isRw k = false) from fun q => by cases q.2.1)]
      rw [h1] at m74
      exact ⟨⟨fun q => (by cases q), fun _ => ⟨fun _ => m74.1, fun q => (by cases q)⟩⟩, m74.2⟩
  · rw [if_pos (show true = true from rfl), if_neg (show ¬ (true = false ∧ isFu k = false ∧ isRw k = false) from fun q => by cases q.1)]
    rw [h1] at m74
    exact ⟨⟨fun _ => m74.1, fun q => (by cases q)⟩, m74.2⟩
