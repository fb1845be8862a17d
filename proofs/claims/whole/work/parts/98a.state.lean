/-! THE WHOLE STATE, held by the class and by the reference -/
abbrev aA : Type := aD × (Int × Int × Int) × (Nat × (Nat → aD)) × aD × (Nat → Int) × (Int × Nat × (Nat → Int)) × (Nat × Int × (Nat → Int × Int)) × (Bool × Int) × (Nat × (Nat → Int)) × (Nat × (Nat → Int))
def qD (A : aA) : aD := A.1
def qM (A : aA) : Int := A.2.1.1
def qF (A : aA) : Int := A.2.1.2.1
def qR (A : aA) : Int := A.2.1.2.2
def qK (A : aA) : Nat := A.2.2.1.1
def qH (A : aA) : Nat → aD := A.2.2.1.2
def qS (A : aA) : aD := A.2.2.2.1
def qC (A : aA) : Nat → Int := A.2.2.2.2.1
def qAt (A : aA) : Int := A.2.2.2.2.2.1.1
def qCg (A : aA) : Nat := A.2.2.2.2.2.1.2.1
def qCl (A : aA) : Nat → Int := A.2.2.2.2.2.1.2.2
def qV (A : aA) : Nat := A.2.2.2.2.2.2.1.1
def qLb (A : aA) : Int := A.2.2.2.2.2.2.1.2.1
def qW (A : aA) : Nat → Int × Int := A.2.2.2.2.2.2.1.2.2
def qSc (A : aA) : Bool := A.2.2.2.2.2.2.2.1.1
def qPl (A : aA) : Int := A.2.2.2.2.2.2.2.1.2
def qTn (A : aA) : Nat := A.2.2.2.2.2.2.2.2.1.1
def qTx (A : aA) : Nat → Int := A.2.2.2.2.2.2.2.2.1.2
def qOn (A : aA) : Nat := A.2.2.2.2.2.2.2.2.2.1
def qOk (A : aA) : Nat → Int := A.2.2.2.2.2.2.2.2.2.2
/-- all of it, put together -/
def mkA (D : aD) (m f r : Int) (K : Nat) (H : Nat → aD) (S : aD) (c : Nat → Int) (a : Int) (cg : Nat) (cl : Nat → Int) (V : Nat) (lb : Int) (w : Nat → Int × Int) (sc : Bool) (pl : Int) (tn : Nat) (tx : Nat → Int) (o : Nat) (ok : Nat → Int) : aA := (D, (m, f, r), (K, H), S, c, (a, cg, cl), (V, lb, w), (sc, pl), (tn, tx), (o, ok))
def zD (A : aA) (D : aD) : aA := (D, A.2)
def zM (A : aA) (m : Int) : aA := (A.1, (m, A.2.1.2), A.2.2)
def zF (A : aA) (f : Int) : aA := (A.1, (A.2.1.1, f, A.2.1.2.2), A.2.2)
def zR (A : aA) (r : Int) : aA := (A.1, (A.2.1.1, A.2.1.2.1, r), A.2.2)
def zH (A : aA) (K : Nat) (H : Nat → aD) : aA := (A.1, A.2.1, (K, H), A.2.2.2)
def zS (A : aA) (S : aD) : aA := (A.1, A.2.1, A.2.2.1, S, A.2.2.2.2)
def zC (A : aA) (c : Nat → Int) : aA := (A.1, A.2.1, A.2.2.1, A.2.2.2.1, c, A.2.2.2.2.2)
def zX (A : aA) (a : Int) (cg : Nat) (cl : Nat → Int) : aA := (A.1, A.2.1, A.2.2.1, A.2.2.2.1, A.2.2.2.2.1, (a, cg, cl), A.2.2.2.2.2.2)
def zW (A : aA) (V : Nat) (lb : Int) (w : Nat → Int × Int) : aA := (A.1, A.2.1, A.2.2.1, A.2.2.2.1, A.2.2.2.2.1, A.2.2.2.2.2.1, (V, lb, w), A.2.2.2.2.2.2.2)
def zL (A : aA) (sc : Bool) (pl : Int) : aA := (A.1, A.2.1, A.2.2.1, A.2.2.2.1, A.2.2.2.2.1, A.2.2.2.2.2.1, A.2.2.2.2.2.2.1, (sc, pl), A.2.2.2.2.2.2.2.2)
def zT (A : aA) (n : Nat) (tx : Nat → Int) : aA := (A.1, A.2.1, A.2.2.1, A.2.2.2.1, A.2.2.2.2.1, A.2.2.2.2.2.1, A.2.2.2.2.2.2.1, A.2.2.2.2.2.2.2.1, (n, tx), A.2.2.2.2.2.2.2.2.2)
def zO (A : aA) (o : Nat) (ok : Nat → Int) : aA := (A.1, A.2.1, A.2.2.1, A.2.2.2.1, A.2.2.2.2.1, A.2.2.2.2.2.1, A.2.2.2.2.2.2.1, A.2.2.2.2.2.2.2.1, A.2.2.2.2.2.2.2.2.1, (o, ok))
/-- the first place of a label, or -1 -/
def aLabF (c : Nat → Int) (k : Int) : Nat → Nat → Int
  | 0, _ => -1
  | n + 1, i => if c i = 128 + k then (i : Int) else aLabF c k n (i + 1)
def aLab (c : Nat → Int) (k : Int) : Int := aLabF c k 100 0
def aTwo : Int × Int := (200000000000, 0)
def aCur (A : aA) : Int × Int := if qV A = 1 then qW A 0 else if qV A = 2 then qW A 1 else qW A 2
/-! the class's view, part by part -/
def CVd (s : xS) (A : aA) : Prop := cD s 2 (qD A) ∧ gI s 1 2 = i3 (qM A) ∧ cN s 33 aOne ∧ cN s 46 aTwo
def CVf (s : xS) (A : aA) : Prop := gI s 1 3 = i3 (qF A)
def CVr (s : xS) (A : aA) : Prop := gI s 0 6 = i3 (qR A)
def CVh (s : xS) (A : aA) (nx : Nat) : Prop := nx < 6 ∧ gI s 47 0 = i3 (qK A) ∧ gI s 47 2 = i3 nx ∧ (∀ j, 1 ≤ j → j ≤ qK A → cD s (49 + 29 * ((nx + 5 + j - qK A) % 6)) (qH A j)) ∧ (qR A = 2 → cD s (49 + 29 * nx) (qS A))
def CVp (s : xS) (A : aA) : Prop := ∀ i, i < 100 → gI s 36 i = i3 (qC A i)
def CVe (s : xS) (A : aA) : Prop := qR A ≠ 0 → gI s 35 1 = i3 (qAt A) ∧ gI s 35 2 = i3 (qCg A) ∧ ∀ i, i < qCg A → gI s 37 i = i3 (qCl A i)
def CVs (s : xS) (A : aA) : Prop := gI s 38 0 = i3 (qV A) ∧ (qR A = 2 → gI s 38 1 = i3 (aLab (qC A) (qLb A) + 1) ∧ cN s 39 (qW A 0) ∧ cN s 40 (qW A 1) ∧ cN s 43 (aCur A) ∧ (2 ≤ qV A → cN s 41 (qW A 3)) ∧ (3 ≤ qV A → cN s 42 (qW A 4)))
def CVl (s : xS) (A : aA) : Prop := gI s 223 0 = zb (qSc A) ∧ gI s 223 1 = i3 (qPl A)
def CVt (s : xS) (A : aA) : Prop := gI s 225 2 = i3 (qTn A) ∧ ∀ i, i < qTn A → gI s 227 i = i3 (qTx A i)
def CVo (s : xS) (A : aA) : Prop := gI s 225 1 = i3 (qOn A) ∧ ∀ i, i < qOn A → gI s 226 i = i3 (qOk A i)
def CV (s : xS) (A : aA) : Prop := CVd s A ∧ CVf s A ∧ CVr s A ∧ (∃ nx, CVh s A nx) ∧ CVp s A ∧ CVe s A ∧ CVs s A ∧ CVl s A ∧ CVt s A ∧ CVo s A
/-! the reference's -/
def rW (s : xS) (k : Nat) (n : Int × Int) : Prop := gI s 235 k = i3 n.1.sign ∧ gJ s 236 k = j6 n.1.natAbs ∧ gI s 237 k = i3 n.2
def RVd (s : xS) (A : aA) : Prop := rD s 0 (qD A) ∧ gI s 230 4 = i3 (qM A)
def RVf (s : xS) (A : aA) : Prop := gI s 230 5 = i3 (qF A)
def RVr (s : xS) (A : aA) : Prop := gI s 230 9 = i3 (qR A)
def RVh (s : xS) (A : aA) : Prop := gI s 230 3 = i3 (qK A) ∧ (∀ j, 1 ≤ j → j ≤ qK A → rD s j (qH A j)) ∧ (qR A = 2 → rD s 7 (qS A))
def RVp (s : xS) (A : aA) : Prop := ∀ i, i < 100 → gI s 233 i = i3 (qC A i)
def RVe (s : xS) (A : aA) : Prop := qR A ≠ 0 → gI s 230 10 = i3 (qAt A) ∧ gI s 230 8 = i3 (qCg A) ∧ ∀ i, i < qCg A → gI s 234 i = i3 (qCl A i)
def aPh (A : aA) : Int := if qV A = 1 then 0 else if qV A = 2 then 1 else 2
def RVs (s : xS) (A : aA) : Prop := gI s 230 13 = i3 (qV A) ∧ (qR A = 2 → gI s 230 11 = i3 (qLb A) ∧ gI s 230 12 = i3 (aPh A) ∧ rW s 0 (qW A 0) ∧ rW s 1 (qW A 1) ∧ (3 ≤ qV A → rW s 2 (qW A 2)) ∧ (2 ≤ qV A → rW s 3 (qW A 3)) ∧ (3 ≤ qV A → rW s 4 (qW A 4)))
def RVl (s : xS) (A : aA) : Prop := gI s 230 17 = zb (qSc A) ∧ gI s 230 18 = i3 (qPl A)
def RVt (s : xS) (A : aA) : Prop := gI s 230 22 = i3 (qTn A) ∧ ∀ i, i < qTn A → gI s 239 i = i3 (qTx A i)
def RVo (s : xS) (A : aA) : Prop := gI s 230 24 = i3 (qOn A) ∧ ∀ i, i < qOn A → gI s 240 i = i3 (qOk A i)
def RV (s : xS) (A : aA) : Prop := RVd s A ∧ RVf s A ∧ RVr s A ∧ RVh s A ∧ RVp s A ∧ RVe s A ∧ RVs s A ∧ RVl s A ∧ RVt s A ∧ RVo s A
/-! what holds of it -/
def VAd (A : aA) : Prop := vD (qD A) ∧ (qM A = 0 ∨ qM A = 1) ∧ (0 ≤ qF A ∧ qF A ≤ 9) ∧ (0 ≤ qR A ∧ qR A ≤ 2)
def VAh (A : aA) : Prop := qK A ≤ 5 ∧ (∀ j, 1 ≤ j → j ≤ qK A → vD (qH A j)) ∧ (qR A = 2 → vD (qS A))
def VAp (A : aA) : Prop := ∀ i, i < 100 → 0 ≤ qC A i ∧ qC A i ≤ 255
def VAe (A : aA) : Prop := qR A ≠ 0 → (0 ≤ qAt A ∧ qAt A ≤ 101) ∧ qCg A ≤ 4 ∧ ∀ i, i < qCg A → 0 ≤ qCl A i ∧ qCl A i ≤ 99
def VAs (A : aA) : Prop := qV A ≤ 100 ∧ (qR A = 2 → 1 ≤ qV A ∧ qM A = 0 ∧ (0 ≤ qLb A ∧ qLb A ≤ 7) ∧ 0 ≤ aLab (qC A) (qLb A) ∧ vN (qW A 0) ∧ vN (qW A 1) ∧ (3 ≤ qV A → vN (qW A 2)) ∧ (2 ≤ qV A → vN (qW A 3) ∧ (qW A 3).1 ≠ 0) ∧ (3 ≤ qV A → vN (qW A 4) ∧ (qW A 4).1 ≠ 0))
def VAt (A : aA) : Prop := (0 ≤ qPl A ∧ qPl A ≤ 9) ∧ qTn A ≤ 40 ∧ (∀ i, i < qTn A → 1 ≤ qTx A i ∧ qTx A i ≤ 255) ∧ qOn A ≤ 100
def VA (A : aA) : Prop := VAd A ∧ VAh A ∧ VAp A ∧ VAe A ∧ VAs A ∧ VAt A
/-! what keeps the parts -/
theorem CVd_fr {P : Nat → Nat → Prop} {s t : xS} {A : aA} (f : fr P s t) (h : ∀ b j, (1 ≤ b ∧ b ≤ 30 ∧ ¬ (b = 1 ∧ j = 3)) ∨ b = 33 ∨ b = 46 → ¬ P b j) (hv : vD (qD A)) (q : CVd s A) : CVd t A :=
  ⟨cD_fr f (fun b j _ _ => h b j (by omega)) q.1 hv.2.2.2.1, (f.1 _ _ (h _ _ (by omega))).1.trans q.2.1, cN_fr f (h _ _ (by omega)) (h _ _ (by omega)) q.2.2.1, cN_fr f (h _ _ (by omega)) (h _ _ (by omega)) q.2.2.2⟩
theorem CVf_fr {P : Nat → Nat → Prop} {s t : xS} {A : aA} (f : fr P s t) (h : ¬ P 1 3) (q : CVf s A) : CVf t A := (f.1 _ _ h).1.trans q
theorem CVr_fr {P : Nat → Nat → Prop} {s t : xS} {A : aA} (f : fr P s t) (h : ¬ P 0 6) (q : CVr s A) : CVr t A := (f.1 _ _ h).1.trans q
theorem CVh_fr {P : Nat → Nat → Prop} {s t : xS} {A : aA} {nx : Nat} (f : fr P s t) (h : ∀ b j, (47 ≤ b ∧ b ≤ 222) → ¬ P b j) (hv : VAh A) (q : CVh s A nx) : CVh t A nx := by
  obtain ⟨h1, h2, h3, h4, h5⟩ := q
  refine ⟨h1, (f.1 _ _ (h _ _ (by omega))).1.trans h2, (f.1 _ _ (h _ _ (by omega))).1.trans h3, fun j j1 j2 => cD_fr f (fun b k k1 k2 => h b k ?_) (h4 j j1 j2) (hv.2.1 j j1 j2).2.2.2.1, fun w => cD_fr f (fun b k k1 k2 => h b k (by omega)) (h5 w) (hv.2.2 w).2.2.2.1⟩
  have := Nat.mod_lt (nx + 5 + j - qK A) (show 0 < 6 by omega)
  omega
theorem CVp_fr {P : Nat → Nat → Prop} {s t : xS} {A : aA} (f : fr P s t) (h : ∀ j, ¬ P 36 j) (q : CVp s A) : CVp t A := fun i hi => (f.1 _ _ (h i)).1.trans (q i hi)
theorem CVe_fr {P : Nat → Nat → Prop} {s t : xS} {A : aA} (f : fr P s t) (h : ∀ b j, b = 35 ∨ b = 37 → ¬ P b j) (q : CVe s A) : CVe t A := fun w => ⟨(f.1 _ _ (h _ _ (Or.inl rfl))).1.trans (q w).1, (f.1 _ _ (h _ _ (Or.inl rfl))).1.trans (q w).2.1, fun i hi => (f.1 _ _ (h _ _ (Or.inr rfl))).1.trans ((q w).2.2 i hi)⟩
theorem CVs_fr {P : Nat → Nat → Prop} {s t : xS} {A : aA} (f : fr P s t) (h : ∀ b j, (38 ≤ b ∧ b ≤ 43) → ¬ P b j) (q : CVs s A) : CVs t A := by
  refine ⟨(f.1 _ _ (h _ _ (by omega))).1.trans q.1, fun w => ?_⟩
  obtain ⟨h1, h2, h3, h4, h5, h6⟩ := q.2 w
  exact ⟨(f.1 _ _ (h _ _ (by omega))).1.trans h1, cN_fr f (h _ _ (by omega)) (h _ _ (by omega)) h2, cN_fr f (h _ _ (by omega)) (h _ _ (by omega)) h3, cN_fr f (h _ _ (by omega)) (h _ _ (by omega)) h4, fun v => cN_fr f (h _ _ (by omega)) (h _ _ (by omega)) (h5 v), fun v => cN_fr f (h _ _ (by omega)) (h _ _ (by omega)) (h6 v)⟩
theorem CVl_fr {P : Nat → Nat → Prop} {s t : xS} {A : aA} (f : fr P s t) (h : ∀ j, j ≤ 1 → ¬ P 223 j) (q : CVl s A) : CVl t A := ⟨(f.1 _ _ (h _ (by omega))).1.trans q.1, (f.1 _ _ (h _ (by omega))).1.trans q.2⟩
theorem CVt_fr {P : Nat → Nat → Prop} {s t : xS} {A : aA} (f : fr P s t) (h : ¬ P 225 2) (h' : ∀ j, ¬ P 227 j) (q : CVt s A) : CVt t A := ⟨(f.1 _ _ h).1.trans q.1, fun i hi => (f.1 _ _ (h' i)).1.trans (q.2 i hi)⟩
theorem CVo_fr {P : Nat → Nat → Prop} {s t : xS} {A : aA} (f : fr P s t) (h : ¬ P 225 1) (h' : ∀ j, ¬ P 226 j) (q : CVo s A) : CVo t A := ⟨(f.1 _ _ h).1.trans q.1, fun i hi => (f.1 _ _ (h' i)).1.trans (q.2 i hi)⟩
theorem CV_fr {P : Nat → Nat → Prop} {s t : xS} {A : aA} (f : fr P s t) (h : ∀ b j, b < 230 → ¬ P b j) (hv : VA A) (q : CV s A) : CV t A := by
  obtain ⟨q1, q2, q3, ⟨nx, q4⟩, q5, q6, q7, q8, q9, q10⟩ := q
  exact ⟨CVd_fr f (fun b j w => h b j (by omega)) hv.1.1 q1, CVf_fr f (h _ _ (by omega)) q2, CVr_fr f (h _ _ (by omega)) q3, ⟨nx, CVh_fr f (fun b j w => h b j (by omega)) hv.2.1 q4⟩, CVp_fr f (fun j => h _ _ (by omega)) q5, CVe_fr f (fun b j w => h b j (by omega)) q6, CVs_fr f (fun b j w => h b j (by omega)) q7, CVl_fr f (fun j _ => h _ _ (by omega)) q8, CVt_fr f (h _ _ (by omega)) (fun j => h _ _ (by omega)) q9, CVo_fr f (h _ _ (by omega)) (fun j => h _ _ (by omega)) q10⟩
theorem rW_fr {P : Nat → Nat → Prop} {s t : xS} {k : Nat} {n : Int × Int} (f : fr P s t) (h : ∀ b j, (235 ≤ b ∧ b ≤ 237) → ¬ P b j) (q : rW s k n) : rW t k n := ⟨(f.1 _ _ (h _ _ (by omega))).1.trans q.1, (f.1 _ _ (h _ _ (by omega))).2.trans q.2.1, (f.1 _ _ (h _ _ (by omega))).1.trans q.2.2⟩
theorem RVd_fr {P : Nat → Nat → Prop} {s t : xS} {A : aA} (f : fr P s t) (h : ∀ j, j < 80 → ¬ P 231 j) (h' : ∀ j, j < 24 → ¬ P 232 j) (h2 : ¬ P 230 4) (hv : vD (qD A)) (q : RVd s A) : RVd t A :=
  ⟨rD_fr f (fun j _ _ => h j (by omega)) (fun j _ _ => h' j (by omega)) hv q.1, (f.1 _ _ h2).1.trans q.2⟩
theorem RVf_fr {P : Nat → Nat → Prop} {s t : xS} {A : aA} (f : fr P s t) (h : ¬ P 230 5) (q : RVf s A) : RVf t A := (f.1 _ _ h).1.trans q
theorem RVr_fr {P : Nat → Nat → Prop} {s t : xS} {A : aA} (f : fr P s t) (h : ¬ P 230 9) (q : RVr s A) : RVr t A := (f.1 _ _ h).1.trans q
theorem RVh_fr {P : Nat → Nat → Prop} {s t : xS} {A : aA} (f : fr P s t) (h : ∀ j, (80 ≤ j ∧ j < 480) ∨ (560 ≤ j ∧ j < 640) → ¬ P 231 j) (h' : ∀ j, (24 ≤ j ∧ j < 144) ∨ (168 ≤ j ∧ j < 192) → ¬ P 232 j) (h2 : ¬ P 230 3) (hv : VAh A) (q : RVh s A) : RVh t A := by
  have hK := hv.1
  exact ⟨(f.1 _ _ h2).1.trans q.1, fun j j1 j2 => rD_fr f (fun k k1 k2 => h k (by omega)) (fun k k1 k2 => h' k (by omega)) (hv.2.1 j j1 j2) (q.2.1 j j1 j2), fun w => rD_fr f (fun k k1 k2 => h k (by omega)) (fun k k1 k2 => h' k (by omega)) (hv.2.2 w) (q.2.2 w)⟩
theorem RVp_fr {P : Nat → Nat → Prop} {s t : xS} {A : aA} (f : fr P s t) (h : ∀ j, ¬ P 233 j) (q : RVp s A) : RVp t A := fun i hi => (f.1 _ _ (h i)).1.trans (q i hi)
theorem RVe_fr {P : Nat → Nat → Prop} {s t : xS} {A : aA} (f : fr P s t) (h : ¬ P 230 10) (h' : ¬ P 230 8) (h2 : ∀ j, ¬ P 234 j) (q : RVe s A) : RVe t A := fun w => ⟨(f.1 _ _ h).1.trans (q w).1, (f.1 _ _ h').1.trans (q w).2.1, fun i hi => (f.1 _ _ (h2 i)).1.trans ((q w).2.2 i hi)⟩
theorem RVs_fr {P : Nat → Nat → Prop} {s t : xS} {A : aA} (f : fr P s t) (h : ∀ j, (11 ≤ j ∧ j ≤ 13) → ¬ P 230 j) (h' : ∀ b j, (235 ≤ b ∧ b ≤ 237) → ¬ P b j) (q : RVs s A) : RVs t A := by
  refine ⟨(f.1 _ _ (h _ (by omega))).1.trans q.1, fun w => ?_⟩
  obtain ⟨h1, h2, h3, h4, h5, h6, h7⟩ := q.2 w
  exact ⟨(f.1 _ _ (h _ (by omega))).1.trans h1, (f.1 _ _ (h _ (by omega))).1.trans h2, rW_fr f h' h3, rW_fr f h' h4, fun v => rW_fr f h' (h5 v), fun v => rW_fr f h' (h6 v), fun v => rW_fr f h' (h7 v)⟩
theorem RVl_fr {P : Nat → Nat → Prop} {s t : xS} {A : aA} (f : fr P s t) (h : ∀ j, (17 ≤ j ∧ j ≤ 18) → ¬ P 230 j) (q : RVl s A) : RVl t A := ⟨(f.1 _ _ (h _ (by omega))).1.trans q.1, (f.1 _ _ (h _ (by omega))).1.trans q.2⟩
theorem RVt_fr {P : Nat → Nat → Prop} {s t : xS} {A : aA} (f : fr P s t) (h : ¬ P 230 22) (h' : ∀ j, ¬ P 239 j) (q : RVt s A) : RVt t A := ⟨(f.1 _ _ h).1.trans q.1, fun i hi => (f.1 _ _ (h' i)).1.trans (q.2 i hi)⟩
theorem RVo_fr {P : Nat → Nat → Prop} {s t : xS} {A : aA} (f : fr P s t) (h : ¬ P 230 24) (h' : ∀ j, ¬ P 240 j) (q : RVo s A) : RVo t A := ⟨(f.1 _ _ h).1.trans q.1, fun i hi => (f.1 _ _ (h' i)).1.trans (q.2 i hi)⟩
theorem RV_fr {P : Nat → Nat → Prop} {s t : xS} {A : aA} (f : fr P s t) (h : ∀ b j, (230 ≤ b ∧ b ≤ 242) → ¬ (b = 230 ∧ (j = 0 ∨ (29 ≤ j ∧ j ≤ 31))) → b ≠ 242 → ¬ P b j) (hv : VA A) (q : RV s A) : RV t A := by
  obtain ⟨q1, q2, q3, q4, q5, q6, q7, q8, q9, q10⟩ := q
  exact ⟨RVd_fr f (fun j _ => h _ _ (by omega) (by omega) (by omega)) (fun j _ => h _ _ (by omega) (by omega) (by omega)) (h _ _ (by omega) (by omega) (by omega)) hv.1.1 q1, RVf_fr f (h _ _ (by omega) (by omega) (by omega)) q2, RVr_fr f (h _ _ (by omega) (by omega) (by omega)) q3, RVh_fr f (fun j _ => h _ _ (by omega) (by omega) (by omega)) (fun j _ => h _ _ (by omega) (by omega) (by omega)) (h _ _ (by omega) (by omega) (by omega)) hv.2.1 q4, RVp_fr f (fun j => h _ _ (by omega) (by omega) (by omega)) q5, RVe_fr f (h _ _ (by omega) (by omega) (by omega)) (h _ _ (by omega) (by omega) (by omega)) (fun j => h _ _ (by omega) (by omega) (by omega)) q6, RVs_fr f (fun j w => h _ _ (by omega) (by omega) (by omega)) (fun b j w => h _ _ (by omega) (by omega) (by omega)) q7, RVl_fr f (fun j w => h _ _ (by omega) (by omega) (by omega)) q8, RVt_fr f (h _ _ (by omega) (by omega) (by omega)) (fun j => h _ _ (by omega) (by omega) (by omega)) q9, RVo_fr f (h _ _ (by omega) (by omega) (by omega)) (fun j => h _ _ (by omega) (by omega) (by omega)) q10⟩
