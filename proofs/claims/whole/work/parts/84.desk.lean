/-! A DESK: what class and reference both hold -/
abbrev aE : Type := Bool × (Nat × (Nat → Nat)) × Int × Bool × Bool × (Nat × (Nat → Nat))
def eMi (e : aE) : Bool := e.1
def eL (e : aE) : Nat := e.2.1.1
def eDg (e : aE) : Nat → Nat := e.2.1.2
def ePt (e : aE) : Int := e.2.2.1
def eHp (e : aE) : Bool := e.2.2.2.1
def ePm (e : aE) : Bool := e.2.2.2.2.1
def ePl (e : aE) : Nat := e.2.2.2.2.2.1
def ePd (e : aE) : Nat → Nat := e.2.2.2.2.2.2
abbrev aD : Type := (Nat → Int × Int) × (Nat → Int) × (Nat × Int) × Bool × (Bool × aE)
def dN (D : aD) : Nat → Int × Int := D.1
def dT (D : aD) : Nat → Int := D.2.1
def dS (D : aD) : Nat := D.2.2.1.1
def dP (D : aD) : Int := D.2.2.1.2
def dLi (D : aD) : Bool := D.2.2.2.1
def dOn (D : aD) : Bool := D.2.2.2.2.1
def dE (D : aD) : aE := D.2.2.2.2.2
def sN (D : aD) (i : Nat) (p : Int × Int) : aD := (fun j => if j = i then p else D.1 j, D.2)
def sT (D : aD) (i : Nat) (v : Int) : aD := (D.1, fun j => if j = i then v else D.2.1 j, D.2.2)
def sSz (D : aD) (n : Nat) : aD := (D.1, D.2.1, (n, D.2.2.1.2), D.2.2.2)
def sP (D : aD) (v : Int) : aD := (D.1, D.2.1, (D.2.2.1.1, v), D.2.2.2)
def sLi (D : aD) (b : Bool) : aD := (D.1, D.2.1, D.2.2.1, b, D.2.2.2.2)
def sOn (D : aD) (b : Bool) : aD := (D.1, D.2.1, D.2.2.1, D.2.2.2.1, (b, D.2.2.2.2.2))
def sE (D : aD) (e : aE) : aD := (D.1, D.2.1, D.2.2.1, D.2.2.2.1, (D.2.2.2.2.1, e))
def wE (e : aE) : Prop := eL e ≤ 12 ∧ (∀ k, k < eL e → eDg e k ≤ 9) ∧ (-1 ≤ ePt e ∧ ePt e ≤ eL e) ∧ (eHp e = false → ePm e = false ∧ ePl e = 0) ∧ ePl e ≤ 2 ∧ (∀ k, k < ePl e → ePd e k ≤ 9) ∧ (eHp e = true → 1 ≤ eL e)
def vE (e : aE) : Prop := wE e ∧ (1 ≤ eL e ∨ 0 ≤ ePt e)
def isK (v : Int) : Prop := v = 40 ∨ v = 42 ∨ v = 43 ∨ v = 45 ∨ v = 47
def vD (D : aD) : Prop := (∀ i, i < 15 → vN (dN D i)) ∧ (∀ i, i < dS D → dT D i ≠ 40 → vN (dN D (15 + i))) ∧ (∀ i, i < dS D → isK (dT D i)) ∧ dS D ≤ 8 ∧ (0 ≤ dP D ∧ dP D ≤ 2) ∧ (dOn D = true → vE (dE D))
/-- the class's entry, its truth values always -/
def cE (s : xS) (a : Nat) (e : aE) : Prop := gI s a 1 = zb (eMi e) ∧ gJ s a 2 = j6 (dV (eDg e) 0 (eL e) : Nat) ∧ gI s a 3 = i3 (eL e) ∧ gI s a 4 = i3 (ePt e) ∧ gI s a 5 = zb (eHp e) ∧ gI s a 6 = zb (ePm e) ∧ gI s a 7 = i3 (dV (ePd e) 0 (ePl e) : Nat) ∧ gI s a 8 = i3 (ePl e)
def bo (s : xS) (a : Nat) : Prop := ∃ b1 b2 b3, gI s a 1 = zb b1 ∧ gI s a 5 = zb b2 ∧ gI s a 6 = zb b3
theorem bo_of {s : xS} {a : Nat} {e : aE} (h : cE s a e) : bo s a := ⟨_, _, _, h.1, h.2.2.2.2.1, h.2.2.2.2.2.1⟩
def cD (s : xS) (B : Nat) (D : aD) : Prop := (∀ i, i < 15 → cN s (B + 6 + i) (dN D i)) ∧ (∀ i, i < dS D → dT D i ≠ 40 → cN s (B + 21 + i) (dN D (15 + i))) ∧ (∀ i, i < dS D → gI s (B + 4) i = i3 (dT D i)) ∧ (gI s (B + 3) 1 = i3 (dS D) ∧ gI s (B + 3) 2 = i3 (dP D)) ∧ gI s B 9 = zb (dLi D) ∧ (gI s (B + 5) 0 = zb (dOn D) ∧ bo s (B + 5) ∧ (dOn D = true → cE s (B + 5) (dE D)))
/-- the reference's entry in the block c -/
def eCh (e : aE) (k : Nat) : Int := if ePt e < 0 ∨ (k : Int) < ePt e then 48 + eDg e k else if (k : Int) = ePt e then 46 else 48 + eDg e (k - 1)
def eN (e : aE) : Nat := eL e + (if ePt e < 0 then 0 else 1)
def pm1 (b : Bool) : Int := bif b then -1 else 1
def rE (s : xS) (c : Nat) (e : aE) : Prop := gI s 231 (80 * c + 58) = i3 (pm1 (eMi e)) ∧ gI s 231 (80 * c + 59) = i3 (eN e) ∧ (∀ k, k < eN e → gI s 231 (80 * c + 60 + k) = i3 (eCh e k)) ∧ gI s 231 (80 * c + 73) = zb (eHp e) ∧ (eHp e = true → gI s 231 (80 * c + 74) = i3 (pm1 (ePm e)) ∧ gI s 231 (80 * c + 75) = i3 (ePl e) ∧ ∀ k, k < ePl e → gI s 231 (80 * c + 76 + k) = i3 (48 + ePd e k))
def kI (v : Int) : Int := if v = 40 then 0 else v
def rD (s : xS) (c : Nat) (D : aD) : Prop := (∀ i, i < 15 → rN s c i (dN D i)) ∧ (∀ i, i < dS D → dT D i ≠ 40 → rN s c (15 + i) (dN D (15 + i))) ∧ (∀ i, i < dS D → gI s 231 (80 * c + 46 + i) = i3 (kI (dT D i))) ∧ (gI s 231 (80 * c + 54) = i3 (dS D) ∧ gI s 231 (80 * c + 55) = i3 (dP D)) ∧ gI s 231 (80 * c + 56) = zb (dLi D) ∧ (gI s 231 (80 * c + 57) = zb (dOn D) ∧ (dOn D = true → rE s c (dE D)))
/-! what keeps them -/
theorem cN_fr {P : Nat → Nat → Prop} {s t : xS} {a : Nat} {n : Int × Int} (h : fr P s t) (h0 : ¬ P a 0) (h1 : ¬ P a 1) (hn : cN s a n) : cN t a n := ⟨(h.1 a 0 h0).2.trans hn.1, (h.1 a 1 h1).1.trans hn.2⟩
theorem cE_fr {P : Nat → Nat → Prop} {s t : xS} {a : Nat} {e : aE} (h : fr P s t) (hp : ∀ j, j ≤ 8 → ¬ P a j) (he : cE s a e) : cE t a e := by
  obtain ⟨h1, h2, h3, h4, h5, h6, h7, h8⟩ := he
  exact ⟨(h.1 a 1 (hp 1 (by omega))).1.trans h1, (h.1 a 2 (hp 2 (by omega))).2.trans h2, (h.1 a 3 (hp 3 (by omega))).1.trans h3, (h.1 a 4 (hp 4 (by omega))).1.trans h4, (h.1 a 5 (hp 5 (by omega))).1.trans h5, (h.1 a 6 (hp 6 (by omega))).1.trans h6, (h.1 a 7 (hp 7 (by omega))).1.trans h7, (h.1 a 8 (hp 8 (by omega))).1.trans h8⟩
theorem bo_fr {P : Nat → Nat → Prop} {s t : xS} {a : Nat} (h : fr P s t) (hp : ∀ j, j ≤ 8 → ¬ P a j) (he : bo s a) : bo t a := by
  obtain ⟨b1, b2, b3, h1, h2, h3⟩ := he
  exact ⟨b1, b2, b3, (h.1 a 1 (hp 1 (by omega))).1.trans h1, (h.1 a 5 (hp 5 (by omega))).1.trans h2, (h.1 a 6 (hp 6 (by omega))).1.trans h3⟩
theorem cD_fr {P : Nat → Nat → Prop} {s t : xS} {B : Nat} {D : aD} (h : fr P s t) (hp : ∀ b j, B ≤ b → b ≤ B + 28 → ¬ P b j) (hd : cD s B D) (h8 : dS D ≤ 8) : cD t B D := by
  obtain ⟨h1, h2, h3, ⟨h4, h4'⟩, h5, h6, h6', h7⟩ := hd
  refine ⟨fun i hi => cN_fr h (hp _ _ (by omega) (by omega)) (hp _ _ (by omega) (by omega)) (h1 i hi), fun i hi h40 => cN_fr h (hp _ _ (by omega) (by omega)) (hp _ _ (by omega) (by omega)) (h2 i hi h40), fun i hi => (h.1 _ _ (hp _ _ (by omega) (by omega))).1.trans (h3 i hi), ⟨(h.1 _ _ (hp _ _ (by omega) (by omega))).1.trans h4, (h.1 _ _ (hp _ _ (by omega) (by omega))).1.trans h4'⟩, (h.1 _ _ (hp _ _ (by omega) (by omega))).1.trans h5, (h.1 _ _ (hp _ _ (by omega) (by omega))).1.trans h6, bo_fr h (fun j _ => hp _ _ (by omega) (by omega)) h6', fun q => cE_fr h (fun j _ => hp _ _ (by omega) (by omega)) (h7 q)⟩
theorem rN_fr {P : Nat → Nat → Prop} {s t : xS} {c i : Nat} {n : Int × Int} (h : fr P s t) (h0 : ¬ P 231 (80 * c + i)) (h1 : ¬ P 232 (24 * c + i)) (h2 : ¬ P 231 (80 * c + 23 + i)) (hn : rN s c i n) : rN t c i n := ⟨(h.1 _ _ h0).1.trans hn.1, (h.1 _ _ h1).2.trans hn.2.1, (h.1 _ _ h2).1.trans hn.2.2⟩
theorem rE_fr {P : Nat → Nat → Prop} {s t : xS} {c : Nat} {e : aE} (h : fr P s t) (hp : ∀ j, 80 * c + 58 ≤ j → j < 80 * c + 80 → ¬ P 231 j) (hv : eN e ≤ 13 ∧ ePl e ≤ 2) (he : rE s c e) : rE t c e := by
  obtain ⟨h1, h2, h3, h4, h5⟩ := he
  refine ⟨(h.1 _ _ (hp _ (by omega) (by omega))).1.trans h1, (h.1 _ _ (hp _ (by omega) (by omega))).1.trans h2, fun k hk => (h.1 _ _ (hp _ (by omega) (by omega))).1.trans (h3 k hk), (h.1 _ _ (hp _ (by omega) (by omega))).1.trans h4, fun q => ?_⟩
  obtain ⟨h6, h7, h8⟩ := h5 q
  exact ⟨(h.1 _ _ (hp _ (by omega) (by omega))).1.trans h6, (h.1 _ _ (hp _ (by omega) (by omega))).1.trans h7, fun k hk => (h.1 _ _ (hp _ (by omega) (by omega))).1.trans (h8 k hk)⟩
theorem vE_n {e : aE} (h : vE e) : eN e ≤ 13 ∧ ePl e ≤ 2 := by
  obtain ⟨⟨h1, h2, h3, h4, h5, h6⟩, _⟩ := h
  refine ⟨?_, h5⟩
  unfold eN
  split <;> omega
theorem rD_fr {P : Nat → Nat → Prop} {s t : xS} {c : Nat} {D : aD} (h : fr P s t) (hp : ∀ j, 80 * c ≤ j → j < 80 * c + 80 → ¬ P 231 j) (hp' : ∀ j, 24 * c ≤ j → j < 24 * c + 24 → ¬ P 232 j) (hv : vD D) (hd : rD s c D) : rD t c D := by
  obtain ⟨h1, h2, h3, ⟨h4, h4'⟩, h5, h6, h7⟩ := hd
  have h8 := hv.2.2.2.1
  exact ⟨fun i hi => rN_fr h (hp _ (by omega) (by omega)) (hp' _ (by omega) (by omega)) (hp _ (by omega) (by omega)) (h1 i hi), fun i hi h40 => rN_fr h (hp _ (by omega) (by omega)) (hp' _ (by omega) (by omega)) (hp _ (by omega) (by omega)) (h2 i hi h40), fun i hi => (h.1 _ _ (hp _ (by omega) (by omega))).1.trans (h3 i hi), ⟨(h.1 _ _ (hp _ (by omega) (by omega))).1.trans h4, (h.1 _ _ (hp _ (by omega) (by omega))).1.trans h4'⟩, (h.1 _ _ (hp _ (by omega) (by omega))).1.trans h5, (h.1 _ _ (hp _ (by omega) (by omega))).1.trans h6, fun q => rE_fr h (fun j a b => hp j (by omega) (by omega)) (vE_n (hv.2.2.2.2.2 q)) (h7 q)⟩
/-! the class's steps -/
theorem de_set_put {s : xS} {a b : Nat} {p : Int × Int} (h : cN s b p) : de_set s a b = cput1 s a p := by
  rw [de_set_eq]; unfold de_set_d cput1; rw [h.1, h.2]
theorem de_clear_put (s : xS) (a : Nat) : de_clear s a = cput1 s a (0, 0) := by rw [de_clear_eq]; rfl
theorem cput1_fr (s : xS) (a : Nat) (p : Int × Int) : fr (fun b _ => b = a) s (cput1 s a p) := fr_sI (fr_sJ (fr_refl ..) rfl) rfl
theorem cput1_cN (s : xS) (a : Nat) (p : Int × Int) : cN (cput1 s a p) a p := by
  constructor
  · unfold cput1; rw [gJ_sI, gJ_sJ, if_pos ⟨rfl, rfl⟩]
  · unfold cput1; rw [gI_sI, if_pos ⟨rfl, rfl⟩]
theorem cN_put {s : xS} {a b : Nat} {n p : Int × Int} (h : b ≠ a) (hn : cN s b n) : cN (cput1 s a p) b n := cN_fr (cput1_fr s a p) h h hn
/-- a number of the desk is put -/
theorem cD_num {s : xS} {B i : Nat} {D : aD} {p : Int × Int} (hi : i < 15) (h : cD s B D) (h8 : dS D ≤ 8) : cD (cput1 s (B + 6 + i) p) B (sN D i p) := by
  have f := cput1_fr s (B + 6 + i) p
  obtain ⟨h1, h2, h3, ⟨h4, h4'⟩, h5, h6, h6', h7⟩ := h
  refine ⟨fun j hj => ?_, fun j hj h40 => ?_, fun j hj => (f.1 _ _ (by omega)).1.trans (h3 j hj), ⟨(f.1 _ _ (by omega)).1.trans h4, (f.1 _ _ (by omega)).1.trans h4'⟩, (f.1 _ _ (by omega)).1.trans h5, (f.1 _ _ (by omega)).1.trans h6, bo_fr f (fun j _ => by omega) h6', fun q => cE_fr f (fun j _ => by omega) (h7 q)⟩
  · show cN _ _ (if j = i then p else D.1 j)
    by_cases g : j = i
    · subst g; rw [if_pos rfl]; exact cput1_cN ..
    · rw [if_neg g]; exact cN_put (by omega) (h1 j hj)
  · have hj' : j < dS D := hj
    show cN _ _ (if 15 + j = i then p else D.1 (15 + j))
    rw [if_neg (by omega)]
    exact cN_put (by omega) (h2 j hj h40)
theorem cD_lift {s : xS} {B : Nat} {D : aD} {b : Bool} (h : cD s B D) (h8 : dS D ≤ 8) : cD (sI s B 9 (zb b)) B (sLi D b) := by
  have f : fr (fun x j => x = B ∧ j = 9) s (sI s B 9 (zb b)) := fr_sI (fr_refl ..) ⟨rfl, rfl⟩
  obtain ⟨h1, h2, h3, ⟨h4, h4'⟩, h5, h6, h6', h7⟩ := h
  exact ⟨fun i hi => cN_fr f (by omega) (by omega) (h1 i hi), fun i hi h40 => cN_fr f (by omega) (by omega) (h2 i hi h40), fun i hi => (f.1 _ _ (by omega)).1.trans (h3 i hi), ⟨(f.1 _ _ (by omega)).1.trans h4, (f.1 _ _ (by omega)).1.trans h4'⟩, by rw [gI_sI, if_pos ⟨rfl, rfl⟩]; rfl, (f.1 _ _ (by omega)).1.trans h6, bo_fr f (fun j _ => by omega) h6', fun q => cE_fr f (fun j _ => by omega) (h7 q)⟩
theorem cD_shut {s : xS} {B : Nat} {D : aD} (h : cD s B D) (h8 : dS D ≤ 8) : cD (sI s (B + 5) 0 0) B (sOn D false) := by
  have f : fr (fun x j => x = B + 5 ∧ j = 0) s (sI s (B + 5) 0 0) := fr_sI (fr_refl ..) ⟨rfl, rfl⟩
  obtain ⟨h1, h2, h3, ⟨h4, h4'⟩, h5, h6, ⟨b1, b2, b3, q1, q2, q3⟩, h7⟩ := h
  exact ⟨fun i hi => cN_fr f (by omega) (by omega) (h1 i hi), fun i hi h40 => cN_fr f (by omega) (by omega) (h2 i hi h40), fun i hi => (f.1 _ _ (by omega)).1.trans (h3 i hi), ⟨(f.1 _ _ (by omega)).1.trans h4, (f.1 _ _ (by omega)).1.trans h4'⟩, (f.1 _ _ (by omega)).1.trans h5, by rw [gI_sI, if_pos ⟨rfl, rfl⟩]; rfl, ⟨b1, b2, b3, (f.1 _ _ (by omega)).1.trans q1, (f.1 _ _ (by omega)).1.trans q2, (f.1 _ _ (by omega)).1.trans q3⟩, fun q => by cases q⟩
theorem cD_place {s : xS} {B : Nat} {D : aD} {v : Int} (h : cD s B D) (h8 : dS D ≤ 8) : cD (sI s (B + 3) 2 (i3 v)) B (sP D v) := by
  have f : fr (fun x j => x = B + 3 ∧ j = 2) s (sI s (B + 3) 2 (i3 v)) := fr_sI (fr_refl ..) ⟨rfl, rfl⟩
  obtain ⟨h1, h2, h3, ⟨h4, h4'⟩, h5, h6, h6', h7⟩ := h
  exact ⟨fun i hi => cN_fr f (by omega) (by omega) (h1 i hi), fun i hi h40 => cN_fr f (by omega) (by omega) (h2 i hi h40), fun i hi => (f.1 _ _ (by omega)).1.trans (h3 i hi), ⟨(f.1 _ _ (by omega)).1.trans h4, by rw [gI_sI, if_pos ⟨rfl, rfl⟩]; rfl⟩, (f.1 _ _ (by omega)).1.trans h5, (f.1 _ _ (by omega)).1.trans h6, bo_fr f (fun j _ => by omega) h6', fun q => cE_fr f (fun j _ => by omega) (h7 q)⟩
