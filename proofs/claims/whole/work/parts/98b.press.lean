/-! LABELS, THE HISTORY, ONE KEY PRESSED -/
theorem aLabF_rng (c : Nat → Int) (k : Int) : ∀ (n i : Nat), aLabF c k n i = -1 ∨ ((i : Int) ≤ aLabF c k n i ∧ aLabF c k n i < (i + n : Nat)) := by
  intro n
  induction n with
  | zero => intro i; exact Or.inl rfl
  | succ n ih =>
    intro i
    unfold aLabF
    split
    · right; omega
    · rcases ih (i + 1) with h | h
      · exact Or.inl h
      · right; omega
theorem aLab_rng (c : Nat → Int) (k : Int) : -1 ≤ aLab c k ∧ aLab c k ≤ 99 := by
  unfold aLab
  rcases aLabF_rng c k 100 0 with h | h <;> omega
theorem clab_2 {s : xS} {c : Nat → Int} {k : Int} (h : ∀ i, i < 100 → gI s 36 i = i3 (c i)) (hc : ∀ i, i < 100 → 0 ≤ c i ∧ c i ≤ 255) (hk : 0 ≤ k ∧ k ≤ 255) : ∀ (n i : Nat), i ≤ 100 → 101 ≤ n + i → pr_placeOf_2_ok n s (i3 k) (i3 i) ∧ pr_placeOf_2 n s (i3 k) (i3 i) = i3 (aLabF c k (100 - i) i) := by
  intro n
  induction n with
  | zero => intro i h1 h2; omega
  | succ n ih =>
    intro i h1 h2
    unfold pr_placeOf_2 pr_placeOf_2_ok
    have c1 : ((100 : Int32) ≤ i3 i) = (100 ≤ i) := by rw [i3_lit, i3_le (by omega)]; apply propext; omega
    have e1 : i3 i + 1 = i3 (i + 1 : Nat) := by rw [i3_lit, i3_add]; rfl
    have e2 : (128 : Int32) + i3 k = i3 (128 + k) := by rw [i3_lit, i3_add]
    simp only [c1, e1, e2, i3_natN (show i < 2147483648 by omega)]
    by_cases g : 100 ≤ i
    · rw [if_pos g, show 100 - i = 0 by omega]
      exact ⟨fun q => absurd g q, rfl⟩
    · have hci := hc i (by omega)
      have c2 : (gI s 36 i = i3 (128 + k)) = (c i = 128 + k) := by rw [h i (by omega), i3_eq (by omega)]
      rw [if_neg g]
      simp only [c2]
      obtain ⟨m, hm⟩ : ∃ m, 100 - i = m + 1 := ⟨99 - i, by omega⟩
      rw [hm]
      unfold aLabF
      have hin : vp_in (i3 i) 100 := by rw [i3_inN (by omega)]; omega
      by_cases g2 : c i = 128 + k
      · rw [if_neg (show ¬ ¬ c i = 128 + k from fun q => q g2), if_pos g2]
        exact ⟨fun _ => ⟨hin, fun q => absurd g2 q⟩, rfl⟩
      · rw [if_pos (show ¬ c i = 128 + k from g2), if_neg g2]
        obtain ⟨p1, p2⟩ := ih (i + 1) (by omega) (by omega)
        rw [show 100 - (i + 1) = m by omega] at p2
        exact ⟨fun _ => ⟨hin, fun _ => p1⟩, p2⟩
theorem clab {s : xS} {c : Nat → Int} {k : Int} (h : ∀ i, i < 100 → gI s 36 i = i3 (c i)) (hc : ∀ i, i < 100 → 0 ≤ c i ∧ c i ≤ 255) (hk : 0 ≤ k ∧ k ≤ 255) : pr_placeOf_ok s (i3 k) ∧ pr_placeOf s (i3 k) = i3 (aLab c k) := by
  unfold pr_placeOf_ok pr_placeOf aLab
  exact clab_2 h hc hk xfu 0 (by omega) (by rw [xfu_eq]; omega)
theorem rlab_2 {s : xS} {c : Nat → Int} {k : Int} (h : ∀ i, i < 100 → gI s 233 i = i3 (c i)) (hc : ∀ i, i < 100 → 0 ≤ c i ∧ c i ≤ 255) (hk : 0 ≤ k ∧ k ≤ 255) : ∀ (n i : Nat), i ≤ 100 → 101 ≤ n + i → tm_labelAt_2_ok n s (i3 k) (i3 i) ∧ tm_labelAt_2 n s (i3 k) (i3 i) = i3 (aLabF c k (100 - i) i) := by
  intro n
  induction n with
  | zero => intro i h1 h2; omega
  | succ n ih =>
    intro i h1 h2
    unfold tm_labelAt_2 tm_labelAt_2_ok
    have c1 : ((100 : Int32) ≤ i3 i) = (100 ≤ i) := by rw [i3_lit, i3_le (by omega)]; apply propext; omega
    have e1 : i3 i + 1 = i3 (i + 1 : Nat) := by rw [i3_lit, i3_add]; rfl
    have e2 : (128 : Int32) + i3 k = i3 (128 + k) := by rw [i3_lit, i3_add]
    simp only [c1, e1, e2, i3_natN (show i < 2147483648 by omega)]
    by_cases g : 100 ≤ i
    · rw [if_pos g, show 100 - i = 0 by omega]
      exact ⟨fun q => absurd g q, rfl⟩
    · have hci := hc i (by omega)
      have c2 : (gI s 233 i = i3 (128 + k)) = (c i = 128 + k) := by rw [h i (by omega), i3_eq (by omega)]
      rw [if_neg g]
      simp only [c2]
      obtain ⟨m, hm⟩ : ∃ m, 100 - i = m + 1 := ⟨99 - i, by omega⟩
      rw [hm]
      unfold aLabF
      have hin : vp_in (i3 i) 100 := by rw [i3_inN (by omega)]; omega
      by_cases g2 : c i = 128 + k
      · rw [if_neg (show ¬ ¬ c i = 128 + k from fun q => q g2), if_pos g2]
        exact ⟨fun _ => ⟨hin, fun q => absurd g2 q⟩, rfl⟩
      · rw [if_pos (show ¬ c i = 128 + k from g2), if_neg g2]
        obtain ⟨p1, p2⟩ := ih (i + 1) (by omega) (by omega)
        rw [show 100 - (i + 1) = m by omega] at p2
        exact ⟨fun _ => ⟨hin, fun _ => p1⟩, p2⟩
theorem rlab {s : xS} {c : Nat → Int} {k : Int} (h : ∀ i, i < 100 → gI s 233 i = i3 (c i)) (hc : ∀ i, i < 100 → 0 ≤ c i ∧ c i ≤ 255) (hk : 0 ≤ k ∧ k ≤ 255) : tm_labelAt_ok s (i3 k) ∧ tm_labelAt s (i3 k) = i3 (aLab c k) := by
  unfold tm_labelAt_ok tm_labelAt aLab
  exact rlab_2 h hc hk xfu 0 (by omega) (by rw [xfu_eq]; omega)
/-! the history -/
def hPush (K : Nat) (H : Nat → aD) (D : aD) : Nat → aD := fun j => if K = 5 then (if j = 5 then D else H (j + 1)) else (if j = K + 1 then D else H j)
def kPush (K : Nat) : Nat := if K = 5 then 5 else K + 1
def aPush (A : aA) (D : aD) : aA := zH A (kPush (qK A)) (hPush (qK A) (qH A) D)
theorem R0_48 {i : Nat} (hi : i < 6) : xR0 48 i - 1 = 49 + 29 * i ∧ xRok 48 i 2 ∧ xDn (49 + 29 * i) := by
  have : i = 0 ∨ i = 1 ∨ i = 2 ∨ i = 3 ∨ i = 4 ∨ i = 5 := by omega
  rcases this with w | w | w | w | w | w <;> subst w <;> exact ⟨rfl, ⟨rfl, rfl⟩, xDn_all (by omega)⟩
theorem xDn_2 : xDn 2 := xDn_all (Or.inl rfl)
theorem cprep {s : xS} {A : aA} {nx : Nat} {D : aD} (hv : vD D) (hd : cD s 2 D) (h : CVh s A nx) : hi_prepare_ok s ∧ fr (Pd (49 + 29 * nx)) s (hi_prepare s) ∧ cD (hi_prepare s) (49 + 29 * nx) D := by
  rw [hi_prepare_eq]
  unfold hi_prepare_ok hi_prepare_d
  obtain ⟨h1, h2, h3, h4, h5⟩ := h
  obtain ⟨x1, x2, x3⟩ := R0_48 h1
  rw [h3, i3_natN (by omega), x1]
  obtain ⟨p1, p2, p3⟩ := ccopy x3 xDn_2 (by omega) hv hd
  exact ⟨⟨⟨by rw [i3_inN (by omega)]; omega, x2⟩, x3.1, xDn_2.1, p1⟩, p2, p3⟩
theorem mod_i3 {x : Nat} (hx : x < 1000) : i3 (x : Int) - i3 (x : Int) / 6 * 6 = i3 (x % 6 : Nat) := by
  rw [i3_lit, i3_quo (by omega), i3_mul, i3_sub]
  exact congrArg i3 (mod_sub x 6)
/-- the class keeps what is prepared -/
theorem ckeep {s : xS} {A : aA} {nx : Nat} {D : aD} (hva : VAh A) (hr : qR A ≠ 2) (hp : cD s (49 + 29 * nx) D) (h : CVh s A nx) : fr (fun b j => b = 47 ∧ (j = 0 ∨ j = 2)) s (hi_keep s) ∧ CVh (hi_keep s) (aPush A D) ((nx + 1) % 6) := by
  rw [hi_keep_eq]
  unfold hi_keep_d
  obtain ⟨h1, h2, h3, h4, h5⟩ := h
  have hK := hva.1
  have e1 : gI s 47 2 + 1 = i3 (nx + 1 : Nat) := by rw [h3, i3_lit, i3_add]; rfl
  have e2 : imin (gI s 47 0 + 1) 5 = i3 (kPush (qK A) : Nat) := by
    rw [h2, i3_lit, i3_add]
    unfold imin kPush
    have c : (i3 5 < i3 ((qK A : Int) + 1)) = (qK A = 5) := by rw [i3_lt (by omega)]; apply propext; omega
    rw [i3_lit]
    simp only [c]
    by_cases g : qK A = 5
    · rw [if_pos g, if_pos g]; rfl
    · rw [if_neg g, if_neg g]; rfl
  rw [e1, mod_i3 (by omega), e2]
  have f : fr (fun b j => b = 47 ∧ (j = 0 ∨ j = 2)) s (sI (sI s 47 2 (i3 ((nx + 1) % 6 : Nat))) 47 0 (i3 (kPush (qK A) : Nat))) := fr_sI (fr_sI (fr_refl ..) ⟨rfl, Or.inr rfl⟩) ⟨rfl, Or.inl rfl⟩
  refine ⟨f, ?_, ?_, ?_, fun j j1 j2 => ?_, fun w => absurd w hr⟩
  · omega
  · rw [gI_sI, if_pos ⟨rfl, rfl⟩]; rfl
  · rw [gI_sI, if_neg (by omega), gI_sI, if_pos ⟨rfl, rfl⟩]
  · have j2' : j ≤ kPush (qK A) := j2
    have nf : ∀ {m : Nat} {E : aD}, m < 6 → dS E ≤ 8 → cD s (49 + 29 * m) E → cD (sI (sI s 47 2 (i3 ((nx + 1) % 6 : Nat))) 47 0 (i3 (kPush (qK A) : Nat))) (49 + 29 * m) E := fun hm h8 hc => cD_fr f (fun b k k1 k2 => by omega) hc h8
    have hpos : ((nx + 1) % 6 + 5 + j - kPush (qK A)) % 6 = if j = kPush (qK A) then nx else (nx + 5 + (if qK A = 5 then j + 1 else j) - qK A) % 6 := by
      unfold kPush at j2' ⊢
      by_cases g : qK A = 5
      · rw [if_pos g] at j2' ⊢
        rw [if_pos g, g]
        split <;> omega
      · rw [if_neg g] at j2' ⊢
        rw [if_neg g]
        split <;> omega
    show cD _ (49 + 29 * (((nx + 1) % 6 + 5 + j - kPush (qK A)) % 6)) (hPush (qK A) (qH A) D j)
    rw [hpos]
    unfold hPush
    by_cases gj : j = kPush (qK A)
    · rw [if_pos gj]
      have hD : (if qK A = 5 then (if j = 5 then D else qH A (j + 1)) else (if j = qK A + 1 then D else qH A j)) = D := by
        unfold kPush at gj
        by_cases g : qK A = 5
        · rw [if_pos g] at gj; rw [if_pos g, if_pos gj]
        · rw [if_neg g] at gj; rw [if_neg g, if_pos gj]
      rw [hD]
      obtain ⟨z1, z2, z3, z4, z5, z6, z7, z8⟩ := hp
      exact ⟨fun i hi => cN_fr f (by omega) (by omega) (z1 i hi), fun i hi h40 => cN_fr f (by omega) (by omega) (z2 i hi h40), fun i hi => (f.1 _ _ (by omega)).1.trans (z3 i hi), ⟨(f.1 _ _ (by omega)).1.trans z4.1, (f.1 _ _ (by omega)).1.trans z4.2⟩, (f.1 _ _ (by omega)).1.trans z5, (f.1 _ _ (by omega)).1.trans z6, bo_fr f (fun j _ => by omega) z7, fun q => cE_fr f (fun j _ => by omega) (z8 q)⟩
    · rw [if_neg gj]
      unfold kPush at j2' gj
      have hm := Nat.mod_lt (nx + 5 + (if qK A = 5 then j + 1 else j) - qK A) (show 0 < 6 by omega)
      by_cases g : qK A = 5
      · rw [if_pos g] at j2' gj
        rw [if_pos g] at hm ⊢
        rw [if_pos g, if_neg gj]
        exact nf hm (hva.2.1 (j + 1) (by omega) (by omega)).2.2.2.1 (h4 (j + 1) (by omega) (by omega))
      · rw [if_neg g] at j2' gj
        rw [if_neg g] at hm ⊢
        rw [if_neg g, if_neg gj]
        exact nf hm (hva.2.1 j j1 (by omega)).2.2.2.1 (h4 j j1 (by omega))
theorem vPush {A : aA} {D : aD} (hva : VAh A) (hv : vD D) : VAh (aPush A D) := by
  have hK := hva.1
  refine ⟨by show kPush (qK A) ≤ 5; unfold kPush; split <;> omega, fun j j1 j2 => ?_, hva.2.2⟩
  have j2' : j ≤ kPush (qK A) := j2
  show vD (hPush (qK A) (qH A) D j)
  unfold hPush
  unfold kPush at j2'
  by_cases g : qK A = 5
  · rw [if_pos g] at j2' ⊢
    split
    · exact hv
    · exact hva.2.1 (j + 1) (by omega) (by omega)
  · rw [if_neg g] at j2' ⊢
    split
    · exact hv
    · exact hva.2.1 j j1 (by omega)
/-- the reference keeps its block f -/
theorem rkeep {s : xS} {A : aA} {f : Nat} {D : aD} (hf : f = 6 ∨ f = 7) (hva : VAh A) (hv : vD D) (hp : rD s f D) (h : gI s 230 3 = i3 (qK A) ∧ ∀ j, 1 ≤ j → j ≤ qK A → rD s j (qH A j)) : tm_keep_ok s (i3 f) ∧ fr (fun b j => (b = 230 ∧ j = 3) ∨ (b = 231 ∧ 80 ≤ j ∧ j < 480) ∨ (b = 232 ∧ 24 ≤ j ∧ j < 144)) s (tm_keep s (i3 f)) ∧ gI (tm_keep s (i3 f)) 230 3 = i3 (kPush (qK A)) ∧ (∀ j, 1 ≤ j → j ≤ kPush (qK A) → rD (tm_keep s (i3 f)) j (hPush (qK A) (qH A) D j)) := by
  have hK := hva.1
  rw [tm_keep_eq]
  unfold tm_keep_ok tm_keep_d
  rw [tm_keep_39_eq]
  unfold tm_keep_39_ok tm_keep_39_d
  obtain ⟨h1, h2⟩ := h
  have c1 : (gI s 230 3 = 5) = (qK A = 5) := by rw [h1, i3_lit, i3_eq (by omega)]; apply propext; omega
  simp only [c1]
  -- the last step: one more
  have last : ∀ {t : xS} {k : Nat} {G : Nat → aD}, k ≤ 4 → gI t 230 3 = i3 k → (∀ j, 1 ≤ j → j ≤ k → rD t j (G j) ∧ vD (G j)) → rD t f D → tm_copy_ok (sI t 230 3 (gI t 230 3 + 1)) (i3 f) (gI t 230 3 + 1) ∧ fr (fun b j => (b = 230 ∧ j = 3) ∨ (b = 231 ∧ 80 ≤ j ∧ j < 480) ∨ (b = 232 ∧ 24 ≤ j ∧ j < 144)) t (tm_copy (sI t 230 3 (gI t 230 3 + 1)) (i3 f) (gI t 230 3 + 1)) ∧ gI (tm_copy (sI t 230 3 (gI t 230 3 + 1)) (i3 f) (gI t 230 3 + 1)) 230 3 = i3 (k + 1 : Nat) ∧ (∀ j, 1 ≤ j → j ≤ k + 1 → rD (tm_copy (sI t 230 3 (gI t 230 3 + 1)) (i3 f) (gI t 230 3 + 1)) j (if j = k + 1 then D else G j)) := by
    intro t k G hk t1 t2 t3
    have e1 : gI t 230 3 + 1 = i3 (k + 1 : Nat) := by rw [t1, i3_lit, i3_add]; rfl
    rw [e1]
    have f0 : fr (fun b j => b = 230 ∧ j = 3) t (sI t 230 3 (i3 (k + 1 : Nat))) := fr_sI (fr_refl ..) ⟨rfl, rfl⟩
    obtain ⟨p1, p2, p3⟩ := rcopy (sI t 230 3 (i3 (k + 1 : Nat))) (f := f) (i := k + 1) (by omega) (by omega) (by omega)
    refine ⟨p1, fr_trans (fr_mono f0 (fun b j q => Or.inl q)) (fr_mono p2 (fun b j q => by unfold Pb at q; omega)), ?_, fun j j1 j2 => ?_⟩
    · rw [(p2.1 _ _ (by unfold Pb; omega)).1, gI_sI, if_pos ⟨rfl, rfl⟩]
    · by_cases w : j = k + 1
      · subst w
        rw [if_pos rfl]
        exact p3 D hv (rD_fr f0 (fun _ _ _ => by omega) (fun _ _ _ => by omega) hv t3)
      · rw [if_neg w]
        obtain ⟨g1, g2⟩ := t2 j j1 (by omega)
        exact rD_fr p2 (fun m m1 m2 => by unfold Pb; omega) (fun m m1 m2 => by unfold Pb; omega) g2 (rD_fr f0 (fun _ _ _ => by omega) (fun _ _ _ => by omega) g2 g1)
  by_cases g : qK A = 5
  · rw [if_neg (show ¬ ¬ qK A = 5 from fun q => q g)]
    have loop : ∀ (n m : Nat) (t : xS), 1 ≤ m → m ≤ 5 → 6 ≤ n + m → fr (fun b j => (b = 231 ∧ 80 ≤ j ∧ j < 480) ∨ (b = 232 ∧ 24 ≤ j ∧ j < 144)) s t → (∀ j, 1 ≤ j → j < m → rD t j (qH A (j + 1))) → (∀ j, m ≤ j → j ≤ 5 → rD t j (qH A j)) → tm_keep_10_ok n t (i3 f) (i3 m) ∧ fr (fun b j => (b = 230 ∧ j = 3) ∨ (b = 231 ∧ 80 ≤ j ∧ j < 480) ∨ (b = 232 ∧ 24 ≤ j ∧ j < 144)) s (tm_keep_10 n t (i3 f) (i3 m)) ∧ gI (tm_keep_10 n t (i3 f) (i3 m)) 230 3 = i3 (5 : Nat) ∧ (∀ j, 1 ≤ j → j ≤ 5 → rD (tm_keep_10 n t (i3 f) (i3 m)) j (if j = 5 then D else qH A (j + 1))) := by
      intro n
      induction n with
      | zero => intro m t h1 h2 h3; omega
      | succ n ih =>
        intro m t m1 m2 m3 ft t1 t2
        unfold tm_keep_10 tm_keep_10_ok
        rw [tm_keep_39_eq]
        unfold tm_keep_39_ok tm_keep_39_d
        have c2 : ((5 : Int32) ≤ i3 m) = (5 ≤ m) := by rw [i3_lit, i3_le (by omega)]; apply propext; omega
        have e1 : i3 m + 1 = i3 (m + 1 : Nat) := by rw [i3_lit, i3_add]; rfl
        simp only [c2, e1]
        by_cases gm : 5 ≤ m
        · have hm5 : m = 5 := by omega
          subst hm5
          rw [if_pos gm]
          have e4 : gI t 230 3 - 1 = i3 (4 : Nat) := by rw [(ft.1 _ _ (by omega)).1, h1, g, i3_lit, i3_sub]; rfl
          rw [e4]
          have f0 : fr (fun b j => b = 230 ∧ j = 3) t (sI t 230 3 (i3 (4 : Nat))) := fr_sI (fr_refl ..) ⟨rfl, rfl⟩
          obtain ⟨p1, p2, p3, p4⟩ := last (t := sI t 230 3 (i3 (4 : Nat))) (k := 4) (G := fun j => qH A (j + 1)) (by omega) (by rw [gI_sI, if_pos ⟨rfl, rfl⟩]) (fun j j1 j2 => ⟨rD_fr f0 (fun _ _ _ => by omega) (fun _ _ _ => by omega) (hva.2.1 (j + 1) (by omega) (by omega)) (t1 j j1 (by omega)), hva.2.1 (j + 1) (by omega) (by omega)⟩) (rD_fr f0 (fun _ _ _ => by omega) (fun _ _ _ => by omega) hv (rD_fr ft (fun m _ _ => by omega) (fun m _ _ => by omega) hv hp))
          exact ⟨⟨fun _ => p1, fun q => absurd gm q⟩, fr_trans (fr_mono ft (fun b j q => by omega)) (fr_trans (fr_mono f0 (fun b j q => by omega)) p2), p3, p4⟩
        · rw [if_neg gm]
          obtain ⟨p1, p2, p3⟩ := rcopy t (f := m + 1) (i := m) (by omega) (by omega) (by omega)
          have vm := hva.2.1 (m + 1) (by omega) (by omega)
          obtain ⟨q1, q2, q3, q4⟩ := ih (m + 1) (tm_copy t (i3 (m + 1 : Nat)) (i3 m)) (by omega) (by omega) (by omega) (fr_trans ft (fr_mono p2 (fun b j q => by unfold Pb at q; omega))) (fun j j1 j2 => by
            by_cases w : j = m
            · subst w
              exact p3 _ vm (t2 (j + 1) (by omega) (by omega))
            · exact rD_fr p2 (fun k k1 k2 => by unfold Pb; omega) (fun k k1 k2 => by unfold Pb; omega) (hva.2.1 (j + 1) (by omega) (by omega)) (t1 j j1 (by omega))) (fun j j1 j2 => rD_fr p2 (fun k k1 k2 => by unfold Pb; omega) (fun k k1 k2 => by unfold Pb; omega) (hva.2.1 j (by omega) (by omega)) (t2 j (by omega) j2))
          exact ⟨⟨fun q => absurd q gm, fun _ => ⟨p1, q1⟩⟩, q2, q3, q4⟩
    obtain ⟨p1, p2, p3, p4⟩ := loop xfu 1 s (by omega) (by omega) (by rw [xfu_eq]; omega) (fr_refl ..) (fun j j1 j2 => by omega) (fun j j1 j2 => h2 j j1 (by omega))
    have e1 : i3 ((1 : Nat) : Int) = 1 := rfl
    rw [e1] at p1 p2 p3 p4
    unfold kPush hPush
    rw [if_pos g]
    refine ⟨⟨fun q => absurd g q, fun _ => p1⟩, p2, p3, fun j j1 j2 => ?_⟩
    rw [if_pos g]
    exact p4 j j1 j2
  · rw [if_pos (show ¬ qK A = 5 from g)]
    obtain ⟨p1, p2, p3, p4⟩ := last (t := s) (k := qK A) (G := qH A) (by omega) h1 (fun j j1 j2 => ⟨h2 j j1 j2, hva.2.1 j j1 j2⟩) hp
    unfold kPush hPush
    rw [if_neg g]
    refine ⟨⟨fun _ => p1, fun q => absurd q g⟩, p2, p3, fun j j1 j2 => ?_⟩
    rw [if_neg g]
    exact p4 j j1 j2
