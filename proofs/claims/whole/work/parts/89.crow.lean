/-! THE CLASS'S ROWS OF THINGS -/
def rowR (s : xS) (a t : Nat) (T : Nat → Int) (n : Nat) : Prop := gI s a 1 = i3 n ∧ (∀ i, i < n → gI s t i = i3 (T i)) ∧ n ≤ 8 ∧ (∀ i, i < n → isK (T i)) ∧ (xK0 t).2 = 8
theorem isOp_te {k : Int} (hk : 0 ≤ k ∧ k ≤ 255) : te_isOperation (i3 k) = isOp k := by
  unfold te_isOperation isOp
  have c1 : (i3 k = 43) = (k = 43) := by rw [i3_lit, i3_eq (by omega)]
  have c2 : (i3 k = 45) = (k = 45) := by rw [i3_lit, i3_eq (by omega)]
  have c3 : (i3 k = 42) = (k = 42) := by rw [i3_lit, i3_eq (by omega)]
  have c4 : (i3 k = 47) = (k = 47) := by rw [i3_lit, i3_eq (by omega)]
  simp only [c1, c2, c3, c4]
theorem isRk_te {k : Int} (hk : 0 ≤ k ∧ k ≤ 255) : te_isRowKey (i3 k) = isRk k := by
  unfold te_isRowKey isRk
  have c1 : (i3 k = 40) = (k = 40) := by rw [i3_lit, i3_eq (by omega)]
  have c2 : (i3 k = 41) = (k = 41) := by rw [i3_lit, i3_eq (by omega)]
  have c3 : (i3 k = 61) = (k = 61) := by rw [i3_lit, i3_eq (by omega)]
  simp only [c1, c2, c3, isOp_te hk]
theorem isBg_te {k : Int} (hk : 0 ≤ k ∧ k ≤ 255) : te_beginsEntry (i3 k) = isBg k := by
  unfold te_beginsEntry isBg
  have c1 : (i3 k = 46) = (k = 46) := by rw [i3_lit, i3_eq (by omega)]
  have c2 : (i3 k = 69) = (k = 69) := by rw [i3_lit, i3_eq (by omega)]
  simp only [c1, c2, isDg_te k hk]
theorem tgt_ro {v : Int} (hv : 0 ≤ v ∧ v ≤ 255) : ro_tightness (i3 v) = i3 (tgt v) := by
  unfold ro_tightness tgt
  have c1 : (i3 v = 40) = (v = 40) := by rw [i3_lit, i3_eq (by omega)]
  have c2 : (i3 v = 43) = (v = 43) := by rw [i3_lit, i3_eq (by omega)]
  have c3 : (i3 v = 45) = (v = 45) := by rw [i3_lit, i3_eq (by omega)]
  simp only [c1, c2, c3]
  by_cases g1 : v = 40
  · rw [if_neg (fun q => q g1), if_pos g1]; rfl
  · rw [if_pos g1, if_neg g1]
    by_cases g2 : v = 43
    · rw [if_pos g2, if_pos g2]; rfl
    · rw [if_neg g2, if_neg g2]
      by_cases g3 : v = 45
      · rw [if_pos g3, if_pos g3]; rfl
      · rw [if_neg g3, if_neg g3]; rfl
theorem tgt_rng (v : Int) : 0 ≤ tgt v ∧ tgt v ≤ 2 := by
  unfold tgt
  split
  · omega
  · split
    · omega
    · split <;> omega
theorem isK_rng {v : Int} (h : isK v) : 0 ≤ v ∧ v ≤ 255 := by unfold isK at h; omega
theorem aBr_iff (T : Nat → Int) (n : Nat) : aBr T n = true ↔ ∃ j, j < n ∧ T j = 40 := by
  induction n with
  | zero =>
    constructor
    · intro q; cases q
    · rintro ⟨j, h, _⟩; omega
  | succ n ih =>
    unfold aBr
    simp only [Bool.or_eq_true, decide_eq_true_eq, ih]
    constructor
    · rintro (⟨j, h1, h2⟩ | h)
      · exact ⟨j, by omega, h2⟩
      · exact ⟨n, by omega, h⟩
    · rintro ⟨j, h1, h2⟩
      by_cases g : j = n
      · subst g; exact Or.inr h2
      · exact Or.inl ⟨j, by omega, h2⟩
theorem cbr_2 {s : xS} {a t : Nat} {T : Nat → Int} {m : Nat} (h : rowR s a t T m) : ∀ (n i : Nat), i ≤ m → m + 1 ≤ n + i → (∀ j, j < i → T j ≠ 40) → ro_hasBracket_2_ok n s a t (i3 i) ∧ ro_hasBracket_2 n s a t (i3 i) = aBr T m := by
  obtain ⟨h1, h2, h3, h4, h5⟩ := h
  intro n
  induction n with
  | zero => intro i k1 k2; omega
  | succ n ih =>
    intro i k1 k2 k3
    unfold ro_hasBracket_2 ro_hasBracket_2_ok
    have c1 : (gI s a 1 ≤ i3 i) = (m ≤ i) := by rw [h1]; exact i3_leN (by omega) (by omega)
    have e1 : i3 i + 1 = i3 (i + 1 : Nat) := by rw [i3_lit, i3_add]; rfl
    simp only [c1, e1, i3_natN (show i < 2147483648 by omega), h5]
    by_cases g : m ≤ i
    · rw [if_pos g]
      refine ⟨fun q => absurd g q, ?_⟩
      cases hb : aBr T m
      · rfl
      · obtain ⟨j, j1, j2⟩ := (aBr_iff T m).mp hb
        exact absurd j2 (k3 j (by omega))
    · rw [if_neg g]
      have hT := isK_rng (h4 i (by omega))
      have c2 : (gI s t i = 40) = (T i = 40) := by rw [h2 i (by omega), i3_lit, i3_eq (by omega)]
      simp only [c2]
      have hin : vp_in (i3 i) 8 := by rw [i3_inN (by omega)]; omega
      by_cases g2 : T i = 40
      · rw [if_neg (fun q => q g2)]
        refine ⟨fun _ => ⟨hin, fun q => absurd g2 q⟩, ?_⟩
        exact ((aBr_iff T m).mpr ⟨i, by omega, g2⟩).symm
      · rw [if_pos g2]
        obtain ⟨p1, p2⟩ := ih (i + 1) (by omega) (by omega) (fun j hj => by
          by_cases w : j = i
          · subst w; exact g2
          · exact k3 j (by omega))
        exact ⟨fun _ => ⟨hin, fun _ => p1⟩, p2⟩
theorem cbr {s : xS} {a t : Nat} {T : Nat → Int} {m : Nat} (h : rowR s a t T m) : ro_hasBracket_ok s a t ∧ ro_hasBracket s a t = aBr T m := by
  unfold ro_hasBracket_ok ro_hasBracket
  exact cbr_2 h xfu 0 (by omega) (by have := h.2.2.1; rw [xfu_eq]; omega) (fun j hj => by omega)
theorem cleft_41 {s : xS} {a t : Nat} {T : Nat → Int} {m : Nat} (h : rowR s a t T m) {least : Int} (hl : 0 ≤ least ∧ least ≤ 2) : ∀ (n i : Nat), i ≤ m → i + 1 ≤ n → ro_leftBehind_41_ok n s a t (i3 least) (i3 i) ∧ ro_leftBehind_41 n s a t (i3 least) (i3 i) = i3 (aLeft T least i) := by
  obtain ⟨h1, h2, h3, h4, h5⟩ := h
  intro n
  induction n with
  | zero => intro i k1 k2; omega
  | succ n ih =>
    intro i k1 k2
    unfold ro_leftBehind_41 ro_leftBehind_41_ok
    have c1 : (i3 i ≤ 0) = (i = 0) := by rw [i3_lit, i3_le (by omega)]; apply propext; omega
    simp only [c1, h5]
    cases i with
    | zero => rw [if_pos rfl]; exact ⟨fun q => absurd rfl q, rfl⟩
    | succ j =>
      rw [if_neg (by omega)]
      have e1 : i3 ((j + 1 : Nat) : Int) - 1 = i3 j := by rw [i3_lit, i3_sub]; exact congrArg i3 (by omega)
      have e2 : i3 ((j + 1 : Nat) : Int) + -1 = i3 j := by rw [i3_lit, i3_neg, i3_add]; exact congrArg i3 (by omega)
      have hr := tgt_rng (T j)
      have c2 : (ro_tightness (gI s t j) < i3 least) = (¬ least ≤ tgt (T j)) := by
        rw [h2 j (by omega), tgt_ro (isK_rng (h4 j (by omega))), i3_lt (by omega)]; apply propext; omega
      rw [e1, e2, i3_natN (by omega)]
      simp only [c2]
      have hin : vp_in (i3 j) 8 := by rw [i3_inN (by omega)]; omega
      unfold aLeft
      by_cases g : least ≤ tgt (T j)
      · rw [if_neg (fun q => q g), if_pos g]
        obtain ⟨p1, p2⟩ := ih j (by omega) (by omega)
        exact ⟨fun _ => ⟨hin, fun _ => p1⟩, p2⟩
      · rw [if_pos g, if_neg g]
        exact ⟨fun _ => ⟨hin, fun q => absurd g q⟩, rfl⟩
theorem cleft {s : xS} {a t : Nat} {T : Nat → Int} {m : Nat} {k : Int} (hk : 0 ≤ k ∧ k ≤ 255) (h : rowR s a t T m) : ro_leftBehind_ok s a t (i3 k) ∧ ro_leftBehind s a t (i3 k) = i3 (aLbR k T m) := by
  unfold ro_leftBehind_ok ro_leftBehind aLbR
  have c1 : (i3 k = 40) = (k = 40) := by rw [i3_lit, i3_eq (by omega)]
  have c2 : (i3 k = 61) = (k = 61) := by rw [i3_lit, i3_eq (by omega)]
  have c3 : (i3 k = 41) = (k = 41) := by rw [i3_lit, i3_eq (by omega)]
  simp only [c1, c2, c3]
  by_cases g : k = 40
  · rw [if_neg (show ¬ ¬ k = 40 from fun q => q g), if_pos g]; exact ⟨fun q => absurd g q, h.1⟩
  · rw [if_pos (show ¬ k = 40 from g), if_neg g]
    have e1 : (if k = 61 then (0 : Int32) else if k = 41 then (1 : Int32) else ro_tightness (i3 k)) = i3 (if k = 61 then 0 else if k = 41 then 1 else tgt k) := by
      split
      · rfl
      · split
        · rfl
        · exact tgt_ro hk
    rw [e1, h.1]
    have hr := tgt_rng k
    obtain ⟨p1, p2⟩ := cleft_41 h (least := if k = 61 then 0 else if k = 41 then 1 else tgt k) (by split <;> first | omega | (split <;> omega)) xfu m (by omega) (by have := h.2.2.1; rw [xfu_eq]; omega)
    exact ⟨fun _ => p1, p2⟩
theorem cout {s : xS} {a t : Nat} {T : Nat → Int} {m : Nat} {k P : Int} (hk : 0 ≤ k ∧ k ≤ 255) (hP : 0 ≤ P ∧ P ≤ 2) (hp : gI s a 2 = i3 P) (h : rowR s a t T m) : ro_isOutOfPlace_ok s a t (i3 k) ∧ ro_isOutOfPlace s a t (i3 k) = aOutR k P T m := by
  unfold ro_isOutOfPlace_ok ro_isOutOfPlace aOutR
  have c1 : (i3 k = 40) = (k = 40) := by rw [i3_lit, i3_eq (by omega)]
  have c3 : (i3 k = 41) = (k = 41) := by rw [i3_lit, i3_eq (by omega)]
  have c4 : (gI s a 2 = 1) = (P = 1) := by rw [hp, i3_lit, i3_eq (by omega)]
  have c5 : (gI s a 2 = 2) = (P = 2) := by rw [hp, i3_lit, i3_eq (by omega)]
  obtain ⟨b1, b2⟩ := cbr h
  simp only [c1, c3, c4, c5, b2]
  refine ⟨fun _ _ _ => b1, ?_⟩
  by_cases g : k = 40
  · rw [if_neg (fun q => q g), if_pos g]
  · rw [if_pos g, if_neg g]
    by_cases g2 : k = 41
    · rw [if_neg (fun q => q g2), if_pos g2]
      by_cases g3 : P = 2
      · rw [if_neg (fun q => q g3), decide_eq_true g3]; rfl
      · rw [if_pos g3, decide_eq_false g3]; rfl
    · rw [if_pos g2, if_neg g2]
theorem cfull {k : Int} {l a : Nat} (hk : 0 ≤ k ∧ k ≤ 255) (hl : l ≤ 8) : ro_isFullFor a (i3 k) (i3 l) = decide (8 ≤ l ∧ (k = 40 ∨ isOp k = true)) := by
  unfold ro_isFullFor
  have c1 : (i3 k = 40) = (k = 40) := by rw [i3_lit, i3_eq (by omega)]
  have c2 : (i3 l < 8) = (l < 8) := by rw [i3_lit, i3_lt (by omega)]; apply propext; omega
  simp only [c1, c2, isOp_te hk]
  by_cases g : l < 8
  · rw [decide_eq_true g, decide_eq_false (show ¬ (8 ≤ l ∧ (k = 40 ∨ isOp k = true)) by omega)]; rfl
  · rw [decide_eq_false g]
    by_cases g2 : k = 40 ∨ isOp k = true
    · rw [decide_eq_true (show 8 ≤ l ∧ (k = 40 ∨ isOp k = true) from ⟨by omega, g2⟩)]
      simp only [Bool.not_false, Bool.true_and, Bool.or_eq_true, decide_eq_true_eq]
      exact g2
    · rw [decide_eq_false (show ¬ (8 ≤ l ∧ (k = 40 ∨ isOp k = true)) from fun q => g2 q.2)]
      rw [← Bool.not_eq_true]
      simp only [Bool.not_false, Bool.true_and, Bool.or_eq_true, decide_eq_true_eq]
      exact g2
/-! a desk's row -/
theorem cD_row {s : xS} {D : aD} (h : cD s 2 D) (hv : vD D) : rowR s 5 6 (dT D) (dS D) := ⟨h.2.2.2.1.1, h.2.2.1, hv.2.2.2.1, hv.2.2.1, rfl⟩
theorem R0_4 {i : Nat} (hi : i < 8) : xR0 4 i - 1 = 23 + i ∧ xRok 4 i 5 := by
  have : i = 0 ∨ i = 1 ∨ i = 2 ∨ i = 3 ∨ i = 4 ∨ i = 5 ∨ i = 6 ∨ i = 7 := by omega
  rcases this with w | w | w | w | w | w | w | w <;> subst w <;> exact ⟨rfl, rfl, rfl⟩
theorem R0_3 {i : Nat} (hi : i < 15) : xR0 3 i - 1 = 8 + i ∧ xRok 3 i 5 := by
  have : i = 0 ∨ i = 1 ∨ i = 2 ∨ i = 3 ∨ i = 4 ∨ i = 5 ∨ i = 6 ∨ i = 7 ∨ i = 8 ∨ i = 9 ∨ i = 10 ∨ i = 11 ∨ i = 12 ∨ i = 13 ∨ i = 14 := by omega
  rcases this with w | w | w | w | w | w | w | w | w | w | w | w | w | w | w <;> subst w <;> exact ⟨rfl, rfl, rfl⟩
/-- what follows when all is closed -/
theorem cfollow {s : xS} {D : aD} {k : Int} {l : Nat} {p : Int × Int} (hk : 0 ≤ k ∧ k ≤ 255) (hr : isRk k = true) (h : cD s 2 D) (hv : vD D) (hp : cN s 32 p) (vp : vN p) (hl : l ≤ dS D) (hf : ¬ (8 ≤ l ∧ (k = 40 ∨ isOp k = true))) (hb : k = 41 → 1 ≤ l) : ((isOp k = false → ca_keyFormula_171_ok (de_set (ca_endEntry s) 18 32) (i3 k) (i3 l)) ∧ (isOp k = true → (8 ≤ l → ca_keyFormula_171_ok (de_set (ca_endEntry s) 18 32) (i3 k) (i3 l)) ∧ (¬ 8 ≤ l → (vp_in (i3 l) 8 ∧ xRok 4 l 5) ∧ ca_keyFormula_171_ok (de_set (de_set (ca_endEntry s) 18 32) (xR0 4 l - 1) 32) (i3 k) (i3 l)))) ∧ cRes s (if isOp k = false then ca_keyFormula_171 (de_set (ca_endEntry s) 18 32) (i3 k) (i3 l) else if 8 ≤ l then ca_keyFormula_171 (de_set (ca_endEntry s) 18 32) (i3 k) (i3 l) else ca_keyFormula_171 (de_set (de_set (ca_endEntry s) 18 32) (xR0 4 l - 1) 32) (i3 k) (i3 l)) (0, aFollow k l p D) := by
  have h8 := hv.2.2.2.1
  have he := cend h hv
  have ve := vD_end hv
  have hp1 : cN (ca_endEntry s) 32 p := by
    rw [ca_endEntry_eq]; unfold ca_endEntry_d
    split
    · exact hp
    · exact ⟨by rw [gJ_sI, gJ_sI]; exact hp.1, by rw [gI_sI, if_neg (by omega), gI_sI, if_neg (by omega)]; exact hp.2⟩
  obtain ⟨a1, a2⟩ := cfrom (show 10 < 15 by omega) hp1 he.2 ve
  have hp2 : cN (de_set (ca_endEntry s) 18 32) 32 p := by rw [de_set_put hp1]; exact cN_put (by omega) hp1
  have va := vD_sN (i := 10) ve vp
  have hS : dS (sN (aEnd D) 10 p) = dS D := dS_end D
  have fa : fr Pc s (de_set (ca_endEntry s) 18 32) := fr_trans he.1 a1
  have a2' : cD (de_set (ca_endEntry s) 18 32) 2 (sN (aEnd D) 10 p) := a2
  generalize de_set (ca_endEntry s) 18 32 = t at *
  have c1 : (i3 k = 61) = (k = 61) := by rw [i3_lit, i3_eq (by omega)]
  have c3 : (i3 k = 41) = (k = 41) := by rw [i3_lit, i3_eq (by omega)]
  have c4 : ((8 : Int32) ≤ i3 l) = (8 ≤ l) := by rw [i3_lit, i3_le (by omega)]; apply propext; omega
  have e1 : i3 l + 1 = i3 (l + 1 : Nat) := by rw [i3_lit, i3_add]; rfl
  have k8 : (xK0 6).2 = 8 := rfl
  unfold ca_keyFormula_171_ok ro_follow_ok aFollow
  rw [ca_keyFormula_171_eq]
  unfold ca_keyFormula_171_d
  rw [ro_follow_eq]
  unfold ro_follow_d
  simp only [c1, c3, c4, e1, k8, i3_natN (show l < 2147483648 by omega)]
  have hin : ¬ 8 ≤ l → vp_in (i3 l) 8 := fun q => by rw [i3_inN (by omega)]; omega
  by_cases g1 : k = 61
  · have ho : isOp k = false := by rw [g1]; rfl
    rw [if_pos g1, if_pos ho, if_neg (fun q => q g1), ro_clear_eq]
    unfold ro_clear_d
    refine ⟨⟨fun _ q => absurd g1 q, fun q => by rw [ho] at q; cases q⟩, fr_sI (fr_sI fa (by unfold Pc; omega)) (by unfold Pc; omega), rfl, ?_⟩
    have f : fr (fun b j => b = 5 ∧ (j = 1 ∨ j = 2)) t (sI (sI t 5 1 0) 5 2 0) := fr_sI (fr_sI (fr_refl ..) ⟨rfl, Or.inl rfl⟩) ⟨rfl, Or.inr rfl⟩
    obtain ⟨h1, h2, h3, ⟨h4, h4'⟩, h5, h6, h6', h7⟩ := a2'
    exact ⟨fun i hi => cN_fr f (by omega) (by omega) (h1 i hi), fun i hi => absurd hi (Nat.not_lt_zero i), fun i hi => absurd hi (Nat.not_lt_zero i), ⟨by rw [gI_sI, if_neg (by omega), gI_sI, if_pos ⟨rfl, rfl⟩]; rfl, by rw [gI_sI, if_pos ⟨rfl, rfl⟩]; rfl⟩, (f.1 _ _ (by omega)).1.trans h5, (f.1 _ _ (by omega)).1.trans h6, bo_fr f (fun j _ => by omega) h6', fun q => cE_fr f (fun j _ => by omega) (h7 q)⟩
  · rw [if_pos g1, if_neg g1]
    by_cases g2 : k = 41
    · have ho : isOp k = false := by rw [g2]; rfl
      rw [if_pos ho, if_neg (fun q => q g2), if_pos g2]
      have e2 : imax (i3 l - 1) 0 = i3 (l - 1 : Nat) := by
        have := hb g2
        have e : i3 l - 1 = i3 (l - 1 : Nat) := by rw [i3_lit, i3_sub]; exact congrArg i3 (by omega)
        rw [e]; unfold imax
        rw [if_neg]
        rw [i3_lit, i3_lt (by omega)]; omega
      rw [e2]
      refine ⟨⟨fun _ _ q => absurd g2 q, fun q => by rw [ho] at q; cases q⟩, fr_sI (fr_sI fa (by unfold Pc; omega)) (by unfold Pc; omega), rfl, ?_⟩
      have f : fr (fun b j => b = 5 ∧ (j = 1 ∨ j = 2)) t (sI (sI t 5 1 (i3 (l - 1 : Nat))) 5 2 2) := fr_sI (fr_sI (fr_refl ..) ⟨rfl, Or.inl rfl⟩) ⟨rfl, Or.inr rfl⟩
      obtain ⟨h1, h2, h3, ⟨h4, h4'⟩, h5, h6, h6', h7⟩ := a2'
      exact ⟨fun i hi => cN_fr f (by omega) (by omega) (h1 i hi), fun i hi h40 => cN_fr f (by omega) (by omega) (h2 i (by have : i < l - 1 := hi; rw [hS]; omega) h40), fun i hi => (f.1 _ _ (by omega)).1.trans (h3 i (by have : i < l - 1 := hi; rw [hS]; omega)), ⟨by rw [gI_sI, if_neg (by omega), gI_sI, if_pos ⟨rfl, rfl⟩]; rfl, by rw [gI_sI, if_pos ⟨rfl, rfl⟩]; rfl⟩, (f.1 _ _ (by omega)).1.trans h5, (f.1 _ _ (by omega)).1.trans h6, bo_fr f (fun j _ => by omega) h6', fun q => cE_fr f (fun j _ => by omega) (h7 q)⟩
    · have hk' : k = 40 ∨ isOp k = true := by
        unfold isRk at hr
        simp only [Bool.or_eq_true, decide_eq_true_eq] at hr
        rcases hr with w | w | w | w
        · exact Or.inr w
        · exact Or.inl w
        · exact absurd w g2
        · exact absurd w g1
      have hl8 : ¬ 8 ≤ l := fun q => hf ⟨q, hk'⟩
      have fin : ∀ {u : xS} {q0 : Int × Int}, fr Pc s u → cD u 2 (sN (sN (aEnd D) 10 p) (15 + l) q0) → (k ≠ 40 → cN u (23 + l) p) → cRes s (0, sI (sI (sI u 6 l (i3 k)) 5 1 (i3 (l + 1 : Nat))) 5 2 1) (0, sP (sSz (sT (sN (sN (aEnd D) 10 p) (15 + l) p) l k) (l + 1)) 1) := by
        intro u q0 fu hd hn
        have f : fr (fun b j => (b = 5 ∧ (j = 1 ∨ j = 2)) ∨ (b = 6 ∧ j = l)) u (sI (sI (sI u 6 l (i3 k)) 5 1 (i3 (l + 1 : Nat))) 5 2 1) := fr_sI (fr_sI (fr_sI (fr_refl ..) (Or.inr ⟨rfl, rfl⟩)) (Or.inl ⟨rfl, Or.inl rfl⟩)) (Or.inl ⟨rfl, Or.inr rfl⟩)
        refine ⟨fr_sI (fr_sI (fr_sI fu (by unfold Pc; omega)) (by unfold Pc; omega)) (by unfold Pc; omega), rfl, ?_⟩
        obtain ⟨h1, h2, h3, ⟨h4, h4'⟩, h5, h6, h6', h7⟩ := hd
        refine ⟨fun i hi => ?_, fun i hi h40 => ?_, fun i hi => ?_, ⟨by rw [gI_sI, if_neg (by omega), gI_sI, if_pos ⟨rfl, rfl⟩]; rfl, by rw [gI_sI, if_pos ⟨rfl, rfl⟩]; rfl⟩, (f.1 _ _ (by omega)).1.trans h5, (f.1 _ _ (by omega)).1.trans h6, bo_fr f (fun j _ => by omega) h6', fun q => cE_fr f (fun j _ => by omega) (h7 q)⟩
        · show cN _ _ (if i = 15 + l then p else (sN (aEnd D) 10 p).1 i)
          rw [if_neg (by omega)]
          have hh := h1 i hi
          rw [show dN (sN (sN (aEnd D) 10 p) (15 + l) q0) i = (sN (aEnd D) 10 p).1 i from if_neg (show ¬ i = 15 + l by omega)] at hh
          exact cN_fr f (by omega) (by omega) hh
        · have hi' : i < l + 1 := hi
          have h40' : (if i = l then k else (aEnd D).2.1 i) ≠ 40 := h40
          show cN _ _ (if 15 + i = 15 + l then p else (sN (aEnd D) 10 p).1 (15 + i))
          by_cases q : i = l
          · subst q
            rw [if_pos rfl] at h40'
            rw [if_pos rfl, show 2 + 21 + i = 23 + i by omega]
            exact cN_fr f (by omega) (by omega) (hn h40')
          · rw [if_neg q] at h40'
            rw [if_neg (by omega)]
            have hh := h2 i (by show i < dS (aEnd D); rw [dS_end]; omega) h40'
            rw [show dN (sN (sN (aEnd D) 10 p) (15 + l) q0) (15 + i) = (sN (aEnd D) 10 p).1 (15 + i) from if_neg (show ¬ 15 + i = 15 + l by omega)] at hh
            exact cN_fr f (by omega) (by omega) hh
        · have hi' : i < l + 1 := hi
          show gI (sI (sI (sI u 6 l (i3 k)) 5 1 (i3 (l + 1 : Nat))) 5 2 1) 6 i = i3 (if i = l then k else (aEnd D).2.1 i)
          rw [gI_sI, if_neg (by omega), gI_sI, if_neg (by omega), gI_sI]
          by_cases q : i = l
          · rw [if_pos ⟨rfl, q⟩, if_pos q]
          · rw [if_neg (fun w => q w.2), if_neg q]
            exact h3 i (by show i < dS (aEnd D); rw [dS_end]; omega)
      simp only [if_pos g2, if_neg g2, if_neg hl8]
      cases ho : isOp k
      · have h40 : k = 40 := by
          rcases hk' with w | w
          · exact w
          · rw [ho] at w; cases w
        rw [if_pos rfl]
        exact ⟨⟨fun _ _ _ _ => hin hl8, fun q => by cases q⟩, fin fa (q0 := (sN (aEnd D) 10 p).1 (15 + l)) (by
          have w : sN (sN (aEnd D) 10 p) (15 + l) ((sN (aEnd D) 10 p).1 (15 + l)) = sN (aEnd D) 10 p := by
            unfold sN
            refine Prod.ext (funext fun j => ?_) rfl
            dsimp only
            by_cases q : j = 15 + l
            · rw [if_pos q, q]
            · rw [if_neg q]
          rw [w]; exact a2') (fun q => absurd h40 q)⟩
      · rw [if_neg (by simp)]
        obtain ⟨r1, r2⟩ := R0_4 (show l < 8 by omega)
        rw [r1, de_set_put hp2]
        refine ⟨⟨fun q => (by cases q), fun _ => ⟨fun q => absurd q hl8, fun _ => ⟨⟨hin hl8, r2⟩, fun _ _ _ => hin hl8⟩⟩⟩, ?_⟩
        have f := cput1_fr t (23 + l) p
        have w : cD (cput1 t (23 + l) p) 2 (sN (sN (aEnd D) 10 p) (15 + l) p) := by
          obtain ⟨h1, h2, h3, ⟨h4, h4'⟩, h5, h6, h6', h7⟩ := a2'
          refine ⟨fun i hi => ?_, fun i hi h40 => ?_, fun i hi => (f.1 _ _ (by omega)).1.trans (h3 i hi), ⟨(f.1 _ _ (by omega)).1.trans h4, (f.1 _ _ (by omega)).1.trans h4'⟩, (f.1 _ _ (by omega)).1.trans h5, (f.1 _ _ (by omega)).1.trans h6, bo_fr f (fun j _ => by omega) h6', fun q => cE_fr f (fun j _ => by omega) (h7 q)⟩
          · show cN _ _ (if i = 15 + l then p else (sN (aEnd D) 10 p).1 i)
            rw [if_neg (by omega)]
            exact cN_fr f (by omega) (by omega) (h1 i hi)
          · show cN _ _ (if 15 + i = 15 + l then p else (sN (aEnd D) 10 p).1 (15 + i))
            by_cases q : i = l
            · subst q
              rw [if_pos rfl, show 2 + 21 + i = 23 + i by omega]
              exact cput1_cN ..
            · rw [if_neg (by omega)]
              exact cN_fr f (by omega) (by omega) (h2 i hi h40)
        rw [if_pos (show ¬ k = 61 from g1)]
        exact fin (fr_trans fa (put_c (by omega))) w (fun _ => cput1_cN ..)
