/-! A STEP OF A PROGRAM -/
def aFil (n : Int × Int) (D : aD) : aD := sOn (sLi (sN (sN (sN (sN D 10 n) 11 n) 12 n) 13 n) true) false
def aFnd (e v a b : Int × Int) (D : aD) : aD := sN (sN (sN (aFil e D) 11 v) 12 a) 13 b
def updA {α : Type} (w : Nat → α) (i : Nat) (v : α) : Nat → α := fun j => if j = i then v else w j
def aCod (A : aA) : Int := if qAt A < 100 then qC A (qAt A).toNat else 0
noncomputable def aStp (A : aA) : Int × aA :=
  if aCod A = 0 ∨ aCod A = 153 then (-1, A)
  else if aCod A < 128 ∨ 165 < aCod A then (if (aKey (qM A) (aCod A) (qD A)).1 = 0 then (0, zX (zD A (aKey (qM A) (aCod A) (qD A)).2) (qAt A + 1) (qCg A) (qCl A)) else ((aKey (qM A) (aCod A) (qD A)).1, A))
  else if aCod A < 136 then (0, zX A (qAt A + 1) (qCg A) (qCl A))
  else if aCod A < 144 then (if aLab (qC A) (aCod A - 136) < 0 then (7, A) else (0, zX (zD A (aEnd (qD A))) (aLab (qC A) (aCod A - 136) + 1) (qCg A) (qCl A)))
  else if aCod A < 152 then (if aLab (qC A) (aCod A - 144) < 0 then (7, A) else if 4 ≤ qCg A then (8, A) else (0, zX (zD A (aEnd (qD A))) (aLab (qC A) (aCod A - 144) + 1) (qCg A + 1) (updA (qCl A) (qCg A) (qAt A))))
  else if aCod A = 152 then (if qCg A = 0 then (-1, zD A (aEnd (qD A))) else (0, zX (zD A (aEnd (qD A))) (qCl A (qCg A - 1) + 1) (qCg A - 1) (qCl A)))
  else if aCod A = 154 then (0, zX (zD A (aEnd (qD A))) (qAt A + (if (dN (qD A) 10).1 = 0 then 1 else 2)) (qCg A) (qCl A))
  else if aCod A = 155 then (0, zX (zD A (aEnd (qD A))) (qAt A + (if (dN (qD A) 10).1 < 0 then 1 else 2)) (qCg A) (qCl A))
  else (0, zX (zD A (sN (aEnd (qD A)) (aCod A - 156).toNat (aSum (dN (qD A) (aCod A - 156).toNat) (neg2 aOne)).2)) (qAt A + (if 0 < (aSum (dN (qD A) (aCod A - 156).toNat) (neg2 aOne)).2.1 then 1 else 2)) (qCg A) (qCl A))
/-- counting down never fails -/
theorem count_ok {n : Int × Int} (h : vN n) : (aSum n (neg2 aOne)).1 = 0 := by
  unfold aSum
  have hX : (sumX n (neg2 aOne)).natAbs ≤ (10 ^ 12 - 1) * 10 ^ 219 + 10 ^ 131 := by
    unfold sumX neg2 aOne
    have e0 : tE (0 : Int) = 120 := rfl
    dsimp only
    rw [e0]
    have hb := vN_b h
    have ht : tE n.2 ≤ 219 := by unfold tE; omega
    have h1 : (n.1 * 10 ^ tE n.2).natAbs ≤ (10 ^ 12 - 1) * 10 ^ 219 := by
      rw [Int.natAbs_mul, Int.natAbs_pow]
      exact Nat.mul_le_mul (by omega) (tenP ht)
    have h2 : ((-100000000000 : Int) * 10 ^ 120).natAbs = 10 ^ 131 := by
      rw [Int.natAbs_mul, Int.natAbs_pow]; rfl
    have h3 := Int.natAbs_add_le (n.1 * 10 ^ tE n.2) ((-100000000000 : Int) * 10 ^ 120)
    rw [h2] at h3
    exact Nat.le_trans h3 (Nat.add_le_add_right h1 _)
  have hf := aFin_spec (sumX n (neg2 aOne)).natAbs false (-131) (decide (sumX n (neg2 aOne) < 0))
  generalize aFin (sumX n (neg2 aOne)).natAbs false (-131) (decide (sumX n (neg2 aOne) < 0)) = r at *
  generalize (sumX n (neg2 aOne)).natAbs = X at *
  rcases hf with ⟨_, hr⟩ | ⟨_, d, e, hR, hr⟩
  · rw [hr]; rfl
  · have key : d ≤ 10 ^ 12 ∧ (e < 99 ∨ (e = 99 ∧ d < 10 ^ 12)) := by
      have hrg := RND_rng hR
      refine ⟨hrg.2, ?_⟩
      rcases hR with ⟨k, k1, k2, k3, k4⟩ | ⟨k, k0, k1, k2, k3, k4⟩
      · have hk : k ≤ 219 := by
          by_cases g : k ≤ 219
          · exact g
          · have : 10 ^ 231 ≤ 10 ^ (11 + k) := tenP (by omega)
            have h231 : (10 ^ 12 - 1) * 10 ^ 219 + 10 ^ 131 < 10 ^ 231 := by decide
            omega
        by_cases g : k = 219
        · subst g
          right
          refine ⟨by omega, ?_⟩
          rw [k3]
          unfold near
          have hq : X / 10 ^ 219 ≤ 10 ^ 12 - 1 := by
            have : X / 10 ^ 219 ≤ ((10 ^ 12 - 1) * 10 ^ 219 + 10 ^ 131) / 10 ^ 219 := Nat.div_le_div_right hX
            have e1 : ((10 ^ 12 - 1) * 10 ^ 219 + 10 ^ 131) / 10 ^ 219 = 10 ^ 12 - 1 := by decide
            omega
          by_cases hq2 : X / 10 ^ 219 = 10 ^ 12 - 1
          · have hm : X % 10 ^ 219 ≤ 10 ^ 131 := by
              have := Nat.div_add_mod X (10 ^ 219)
              rw [hq2] at this
              generalize X % 10 ^ 219 = m at *
              have e2 : 10 ^ 219 * (10 ^ 12 - 1) = (10 ^ 12 - 1) * 10 ^ 219 := Nat.mul_comm ..
              omega
            have h2 : 2 * 10 ^ 131 < 10 ^ 219 := by decide
            rw [if_neg]
            · omega
            · generalize X % 10 ^ 219 = m at *
              generalize 10 ^ 219 = P at *
              generalize 10 ^ 131 = Q at *
              rintro (w | ⟨w, _⟩) <;> omega
          · split <;> omega
        · left; omega
      · left; omega
    rw [hr]
    unfold fin
    split
    · rename_i g
      unfold fin0
      rw [if_neg (by omega)]
      split <;> rfl
    · unfold fin0
      rw [if_neg (by omega)]
      split <;> rfl
/-! the solver's value -/
noncomputable def aFin1 (A : aA) (D : aD) : aA := zR (aPush (zD A D) (qS A)) 0
def aFl (A : aA) (c : Int) : aA := zF (zR (zD A (qS A)) 0) c
def aTk (A : aA) (n : Int × Int) (w : Nat → Int × Int) : aA := zX (zD (zW A (qV A + 1) (qLb A) w) (aFil n (qD A))) (aLab (qC A) (qLb A) + 1) 0 (qCl A)
def aSm (n m : Int × Int) : Bool := if n.2 = m.2 then decide (n.1.natAbs < m.1.natAbs) else decide (n.2 < m.2)
noncomputable def aHlv (A : aA) (w : Nat → Int × Int) : aA :=
  if (aSum (w 1) (neg2 (w 0))).1 = 0 then
    if (aDiv (aSum (w 1) (neg2 (w 0))).2 aTwo).1 = 0 then
      if (aSum (w 0) (aDiv (aSum (w 1) (neg2 (w 0))).2 aTwo).2).1 = 0 then
        if (aSum (w 0) (aDiv (aSum (w 1) (neg2 (w 0))).2 aTwo).2).2 = w 0 ∨ (aSum (w 0) (aDiv (aSum (w 1) (neg2 (w 0))).2 aTwo).2).2 = w 1 then
          (if aSm (w 4) (w 3) = true then aFin1 A (aFnd (w 1) (w 4) (w 0) (w 1) (qD A)) else aFin1 A (aFnd (w 0) (w 3) (w 0) (w 1) (qD A)))
        else if qV A = 100 then aFl A 9 else aTk A (aSum (w 0) (aDiv (aSum (w 1) (neg2 (w 0))).2 aTwo).2).2 (updA w 2 (aSum (w 0) (aDiv (aSum (w 1) (neg2 (w 0))).2 aTwo).2).2)
      else aFl A (aSum (w 0) (aDiv (aSum (w 1) (neg2 (w 0))).2 aTwo).2).1
    else aFl A (aDiv (aSum (w 1) (neg2 (w 0))).2 aTwo).1
  else aFl A (aSum (w 1) (neg2 (w 0))).1
noncomputable def aVal (A : aA) : aA :=
  if (dN (qD A) 10).1 = 0 then aFin1 A (aFnd (aCur A) (dN (qD A) 10) (aCur A) (aCur A) (qD A))
  else if qV A = 1 then aTk A (qW A 1) (updA (qW A) 3 (dN (qD A) 10))
  else if qV A = 2 then (if decide ((dN (qD A) 10).1 < 0) = decide ((qW A 3).1 < 0) then aFl A 9 else aHlv A (updA (qW A) 4 (dN (qD A) 10)))
  else if decide ((dN (qD A) 10).1 < 0) = decide ((qW A 3).1 < 0) then aHlv A (updA (updA (qW A) 0 (qW A 2)) 3 (dN (qD A) 10))
  else aHlv A (updA (updA (qW A) 1 (qW A 2)) 4 (dN (qD A) 10))
noncomputable def aStep (A : aA) : aA :=
  if (aStp A).1 = 0 then (aStp A).2
  else if (aStp A).1 = -1 then (if qR A = 1 then zR (aStp A).2 0 else aVal (aStp A).2)
  else if qR A = 1 then zF (zR A 0) (aStp A).1 else aFl A (aStp A).1
theorem aFil_v {D : aD} {n : Int × Int} (h : vD D) (hn : vN n) : vD (aFil n D) := by
  unfold aFil
  have := vD_sN (i := 13) (vD_sN (i := 12) (vD_sN (i := 11) (vD_sN (i := 10) h hn) hn) hn) hn
  exact vD_shut (vD_sLi this)
theorem aFnd_v {D : aD} {e v a b : Int × Int} (h : vD D) (he : vN e) (hv : vN v) (ha : vN a) (hb : vN b) : vD (aFnd e v a b D) := vD_sN (vD_sN (vD_sN (aFil_v h he) hv) ha) hb
theorem vN_2 : vN aTwo := Or.inr ⟨by decide, by decide, by decide, by decide⟩
theorem aCod_rng {A : aA} (hA : VA A) (hr : qR A ≠ 0) : 0 ≤ aCod A ∧ aCod A ≤ 255 := by
  unfold aCod
  have := (hA.2.2.2.1 hr).1
  split
  · exact hA.2.2.1 _ (by omega)
  · omega
theorem aStp_c {A : aA} (h : vD (qD A)) : -1 ≤ (aStp A).1 ∧ (aStp A).1 ≤ 9 := by
  have := aKey_c (mdl := qM A) (k := aCod A) h
  unfold aStp
  repeat' (first | (dsimp only; omega) | split)
theorem aStp_same {A : aA} (h : (aStp A).1 ≠ 0) (h' : (aStp A).1 ≠ -1) : (aStp A).2 = A := by
  revert h h'
  unfold aStp
  repeat' split
  all_goals first
    | exact fun q => absurd rfl q
    | exact fun _ q => absurd rfl q
    | exact fun _ _ => rfl
theorem VA_stp {A : aA} (hr : qR A ≠ 0) (hA : VA A) : VA (aStp A).2 := by
  have hA0 := hA
  have hc := aCod_rng hA hr
  obtain ⟨h1, h2, h3, h4, h5, h6⟩ := hA
  obtain ⟨e1, e2, e3⟩ := h4 hr
  have hv := h1.1
  have he := vD_end hv
  have mk : ∀ {D : aD} {a : Int} {g : Nat} {l : Nat → Int}, vD D → (0 ≤ a ∧ a ≤ 101) → g ≤ 4 → (∀ i, i < g → 0 ≤ l i ∧ l i ≤ 99) → VA (zX (zD A D) a g l) := fun hD ha hg hl => ⟨⟨hD, h1.2⟩, h2, h3, fun _ => ⟨ha, hg, hl⟩, h5, h6⟩
  have mk0 : ∀ {a : Int}, (0 ≤ a ∧ a ≤ 101) → VA (zX A a (qCg A) (qCl A)) := fun ha => ⟨h1, h2, h3, fun _ => ⟨ha, e2, e3⟩, h5, h6⟩
  have hl1 := aLab_rng (qC A) (aCod A - 136)
  have hl2 := aLab_rng (qC A) (aCod A - 144)
  have at99 : ¬ aCod A = 0 → qAt A ≤ 99 := by
    intro q
    unfold aCod at q
    by_cases w : qAt A < 100
    · omega
    · rw [if_neg w] at q; exact absurd rfl q
  unfold aStp
  split
  · exact hA0
  · rename_i g0
    have ha := at99 (fun q => g0 (Or.inl q))
    split
    · split
      · exact mk (aKey_v (by omega) hv) (by omega) e2 e3
      · exact hA0
    · split
      · exact mk0 (by omega)
      · split
        · split
          · exact hA0
          · exact mk he (by omega) e2 e3
        · split
          · split
            · exact hA0
            · split
              · exact hA0
              · refine mk he (by omega) (by omega) (fun i hi => ?_)
                unfold updA
                split
                · omega
                · exact e3 i (by omega)
          · split
            · split
              · exact ⟨⟨he, h1.2⟩, h2, h3, h4, h5, h6⟩
              · rename_i gc
                have := e3 (qCg A - 1) (by omega)
                exact mk he (by omega) (by omega) (fun i hi => e3 i (by omega))
            · split
              · exact mk he (by split <;> omega) e2 e3
              · split
                · exact mk he (by split <;> omega) e2 e3
                · exact mk (vD_sN he (aSum_v _ _).1) (by split <;> omega) e2 e3
theorem VA_fin {A : aA} {D : aD} (hA : VA A) (hr : qR A = 2) (hD : vD D) : VA (aFin1 A D) := by
  obtain ⟨h1, h2, h3, h4, h5, h6⟩ := hA
  have hp := vPush h2 (h2.2.2 hr)
  exact ⟨⟨hD, h1.2.1, h1.2.2.1, by show (0 : Int) ≤ 0 ∧ (0 : Int) ≤ 2; omega⟩, ⟨hp.1, hp.2.1, fun q => absurd q (by show ¬ (0 : Int) = 2; decide)⟩, h3, fun q => absurd rfl q, ⟨h5.1, fun q => absurd q (by show ¬ (0 : Int) = 2; decide)⟩, h6⟩
theorem VA_fl {A : aA} {c : Int} (hA : VA A) (hr : qR A = 2) (hc : 0 ≤ c ∧ c ≤ 9) : VA (aFl A c) := by
  obtain ⟨h1, h2, h3, h4, h5, h6⟩ := hA
  exact ⟨⟨h2.2.2 hr, h1.2.1, hc, by show (0 : Int) ≤ 0 ∧ (0 : Int) ≤ 2; omega⟩, ⟨h2.1, h2.2.1, fun q => absurd q (by show ¬ (0 : Int) = 2; decide)⟩, h3, fun q => absurd rfl q, ⟨h5.1, fun q => absurd q (by show ¬ (0 : Int) = 2; decide)⟩, h6⟩
theorem VA_tk {A : aA} {n : Int × Int} {w : Nat → Int × Int} (hA : VA A) (hr : qR A = 2) (hn : vN n) (hV : qV A ≤ 99) (w0 : vN (w 0)) (w1 : vN (w 1)) (w2 : 2 ≤ qV A → vN (w 2)) (w3 : vN (w 3) ∧ (w 3).1 ≠ 0) (w4 : 2 ≤ qV A → vN (w 4) ∧ (w 4).1 ≠ 0) : VA (aTk A n w) := by
  obtain ⟨h1, h2, h3, h4, h5, h6⟩ := hA
  obtain ⟨k1, k2, k3, k4, _⟩ := h5.2 hr
  have hl := aLab_rng (qC A) (qLb A)
  refine ⟨⟨aFil_v h1.1 hn, h1.2⟩, h2, h3, fun _ => ⟨?_, ?_, ?_⟩, ⟨by show qV A + 1 ≤ 100; omega, fun _ => ⟨by show 1 ≤ qV A + 1; omega, k2, k3, k4, w0, w1, fun q => w2 (by have : 3 ≤ qV A + 1 := q; omega), fun _ => w3, fun q => w4 (by have : 3 ≤ qV A + 1 := q; omega)⟩⟩, h6⟩
  · show 0 ≤ aLab (qC A) (qLb A) + 1 ∧ aLab (qC A) (qLb A) + 1 ≤ 101; omega
  · show 0 ≤ 4; omega
  · intro i hi; exact absurd hi (Nat.not_lt_zero i)
theorem VA_hlv {A : aA} {w : Nat → Int × Int} (hA : VA A) (hr : qR A = 2) (hV2 : 2 ≤ qV A) (w0 : vN (w 0)) (w1 : vN (w 1)) (w3 : vN (w 3) ∧ (w 3).1 ≠ 0) (w4 : vN (w 4) ∧ (w 4).1 ≠ 0) : VA (aHlv A w) := by
  have hv := hA.1.1
  have s1 := aSum_v (w 1) (neg2 (w 0))
  have s2 := aDiv_v (aSum (w 1) (neg2 (w 0))).2 aTwo
  have s3 := aSum_v (w 0) (aDiv (aSum (w 1) (neg2 (w 0))).2 aTwo).2
  have hV := hA.2.2.2.2.1.1
  unfold aHlv
  split
  · split
    · split
      · split
        · split
          · exact VA_fin hA hr (aFnd_v hv w1 w4.1 w0 w1)
          · exact VA_fin hA hr (aFnd_v hv w0 w3.1 w0 w1)
        · split
          · exact VA_fl hA hr (by omega)
          · refine VA_tk hA hr s3.1 (by omega) ?_ ?_ (fun _ => ?_) ?_ (fun _ => ?_)
            · exact w0
            · exact w1
            · exact s3.1
            · exact w3
            · exact w4
      · exact VA_fl hA hr (by omega)
    · exact VA_fl hA hr (by omega)
  · exact VA_fl hA hr (by omega)
theorem VA_val {A : aA} (hA : VA A) (hr : qR A = 2) : VA (aVal A) := by
  have hv := hA.1.1
  have hx := hv.1 10 (by omega)
  obtain ⟨k1, k2, k3, k4, k5, k6, k7, k8, k9⟩ := hA.2.2.2.2.1.2 hr
  have hcur : vN (aCur A) := by
    unfold aCur
    split
    · exact k5
    · split
      · exact k6
      · exact k7 (by omega)
  unfold aVal
  split
  · exact VA_fin hA hr (aFnd_v hv hcur hx hcur hcur)
  · rename_i gx
    split
    · refine VA_tk hA hr k6 (by omega) k5 k6 (fun q => by omega) ⟨hx, gx⟩ (fun q => by omega)
    · split
      · split
        · exact VA_fl hA hr (by omega)
        · exact VA_hlv hA hr (by omega) k5 k6 (k8 (by omega)) ⟨hx, gx⟩
      · split
        · exact VA_hlv hA hr (by omega) (k7 (by omega)) k6 ⟨hx, gx⟩ (k9 (by omega))
        · exact VA_hlv hA hr (by omega) k5 (k7 (by omega)) (k8 (by omega)) ⟨hx, gx⟩
theorem VA_step {A : aA} (hr : qR A = 1 ∨ qR A = 2) (hA : VA A) : VA (aStep A) := by
  have hr0 : qR A ≠ 0 := by omega
  have hs := VA_stp hr0 hA
  have hc := aStp_c hA.1.1
  have hR : qR (aStp A).2 = qR A := by
    unfold aStp
    repeat' split
    all_goals rfl
  unfold aStep
  split
  · exact hs
  · split
    · split
      · rename_i g
        obtain ⟨h1, h2, h3, h4, h5, h6⟩ := hs
        exact ⟨⟨h1.1, h1.2.1, h1.2.2.1, by show (0 : Int) ≤ 0 ∧ (0 : Int) ≤ 2; omega⟩, ⟨h2.1, h2.2.1, fun q => absurd q (by show ¬ (0 : Int) = 2; decide)⟩, h3, fun q => absurd rfl q, ⟨h5.1, fun q => absurd q (by show ¬ (0 : Int) = 2; decide)⟩, h6⟩
      · exact VA_val hs (by omega)
    · split
      · obtain ⟨h1, h2, h3, h4, h5, h6⟩ := hA
        exact ⟨⟨h1.1, h1.2.1, by show 0 ≤ (aStp A).1 ∧ (aStp A).1 ≤ 9; omega, by show (0 : Int) ≤ 0 ∧ (0 : Int) ≤ 2; omega⟩, ⟨h2.1, h2.2.1, fun q => absurd q (by show ¬ (0 : Int) = 2; decide)⟩, h3, fun q => absurd rfl q, ⟨h5.1, fun q => absurd q (by show ¬ (0 : Int) = 2; decide)⟩, h6⟩
      · exact VA_fl hA (by omega) (by omega)
