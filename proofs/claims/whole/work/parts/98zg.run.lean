/-! THE CONSTRUCTORS, run by the kernel: heaps as lists -/
abbrev lC : Type := Nat × Nat × List Nat × List Int32 × List Int64
abbrev lH : Type := List lC × Nat × Nat
def lcg (c : List lC) (a : Nat) : lC := c.getD a (98, 0, [], [], [])
def den (H : lH) : xH := (fun a k => (lcg H.1 a).2.2.2.1.getD k 0, fun a k => (lcg H.1 a).2.2.2.2.getD k 0, fun a k => (lcg H.1 a).2.2.1.getD k 0, fun a => ((lcg H.1 a).1, (lcg H.1 a).2.1), H.1.length, H.2.1, H.2.2)
theorem den_0 : xh0 = den ([], 0, 0) := rfl
def lset {α : Type} (d : α) : List α → Nat → α → List α
  | [], 0, v => [v]
  | [], k + 1, v => d :: lset d [] k v
  | _ :: r, 0, v => v :: r
  | x :: r, k + 1, v => x :: lset d r k v
theorem lset_get {α : Type} (d : α) (v : α) : ∀ (k j : Nat) (l : List α), (lset d l k v).getD j d = if j = k then v else l.getD j d := by
  intro k
  induction k with
  | zero =>
    intro j l
    cases l with
    | nil =>
      cases j with
      | zero => rfl
      | succ j => rfl
    | cons x r =>
      cases j with
      | zero => rfl
      | succ j => rfl
  | succ k ih =>
    intro j l
    cases l with
    | nil =>
      cases j with
      | zero => rfl
      | succ j =>
        have := ih j []
        show (lset d [] k v).getD j d = _
        rw [this]
        by_cases w : j = k
        · rw [if_pos w, if_pos (by omega)]
        · rw [if_neg w, if_neg (by omega)]; rfl
    | cons x r =>
      cases j with
      | zero => rfl
      | succ j =>
        have := ih j r
        show (lset d r k v).getD j d = _
        rw [this]
        by_cases w : j = k
        · rw [if_pos w, if_pos (by omega)]
        · rw [if_neg w, if_neg (by omega)]; rfl
def lmod (f : lC → lC) : List lC → Nat → List lC
  | [], _ => []
  | x :: r, 0 => f x :: r
  | x :: r, a + 1 => x :: lmod f r a
theorem lmod_len (f : lC → lC) : ∀ (c : List lC) (a : Nat), (lmod f c a).length = c.length := by
  intro c
  induction c with
  | nil => intro a; rfl
  | cons x r ih =>
    intro a
    cases a with
    | zero => rfl
    | succ a => show (lmod f r a).length + 1 = r.length + 1; rw [ih]
theorem lmod_get (f : lC → lC) : ∀ (c : List lC) (a b : Nat), a < c.length → lcg (lmod f c a) b = if b = a then f (lcg c b) else lcg c b := by
  intro c
  induction c with
  | nil => intro a b h; exact absurd h (Nat.not_lt_zero a)
  | cons x r ih =>
    intro a b h
    cases a with
    | zero =>
      cases b with
      | zero => rfl
      | succ b => rfl
    | succ a =>
      cases b with
      | zero => rfl
      | succ b =>
        have := ih a b (by have : a + 1 < r.length + 1 := h; omega)
        show lcg (lmod f r a) b = _
        rw [this]
        by_cases w : b = a
        · rw [if_pos w, if_pos (by omega)]; rfl
        · rw [if_neg w, if_neg (by omega)]; rfl
theorem lcg_app (c : List lC) (x : lC) (b : Nat) : lcg (c ++ [x]) b = if b = c.length then x else lcg c b := by
  induction c generalizing b with
  | nil =>
    cases b with
    | zero => rfl
    | succ b => rfl
  | cons y r ih =>
    cases b with
    | zero => rfl
    | succ b =>
      show lcg (r ++ [x]) b = _
      rw [ih]
      by_cases w : b = r.length
      · rw [if_pos w, if_pos (by show b + 1 = r.length + 1; omega)]
      · rw [if_neg w, if_neg (by show ¬ b + 1 = r.length + 1; omega)]; rfl
def lnew (H : lH) (kind n : Nat) : lH := (H.1 ++ [(kind, n, [], [], [])], H.2.1 + 1, H.2.2 + n)
def lfI (k : Nat) (v : Int32) (e : lC) : lC := (e.1, e.2.1, e.2.2.1, lset 0 e.2.2.2.1 k v, e.2.2.2.2)
def lfJ (k : Nat) (v : Int64) (e : lC) : lC := (e.1, e.2.1, e.2.2.1, e.2.2.2.1, lset 0 e.2.2.2.2 k v)
def lfR (k : Nat) (v : Nat) (e : lC) : lC := (e.1, e.2.1, lset 0 e.2.2.1 k v, e.2.2.2)
def lsI (H : lH) (a k : Nat) (v : Int32) : lH := (lmod (lfI k v) H.1 a, H.2)
def lsJ (H : lH) (a k : Nat) (v : Int64) : lH := (lmod (lfJ k v) H.1 a, H.2)
def lsR (H : lH) (a k : Nat) (v : Nat) : lH := (lmod (lfR k v) H.1 a, H.2)
theorem den_new (H : lH) (kind n : Nat) : xnew (den H) kind n = den (lnew H kind n) := by
  have hl : (H.1 ++ [((kind, n, [], [], []) : lC)]).length = H.1.length + 1 := by rw [List.length_append]; rfl
  refine Prod.ext ?_ (Prod.ext ?_ (Prod.ext ?_ (Prod.ext ?_ (Prod.ext ?_ rfl))))
  · funext b j
    show (if b = H.1.length then (0 : Int32) else (lcg H.1 b).2.2.2.1.getD j 0) = (lcg (H.1 ++ [(kind, n, [], [], [])]) b).2.2.2.1.getD j 0
    rw [lcg_app]
    by_cases w : b = H.1.length
    · rw [if_pos w, if_pos w]; rfl
    · rw [if_neg w, if_neg w]
  · funext b j
    show (if b = H.1.length then (0 : Int64) else (lcg H.1 b).2.2.2.2.getD j 0) = (lcg (H.1 ++ [(kind, n, [], [], [])]) b).2.2.2.2.getD j 0
    rw [lcg_app]
    by_cases w : b = H.1.length
    · rw [if_pos w, if_pos w]; rfl
    · rw [if_neg w, if_neg w]
  · funext b j
    show (if b = H.1.length then (0 : Nat) else (lcg H.1 b).2.2.1.getD j 0) = (lcg (H.1 ++ [(kind, n, [], [], [])]) b).2.2.1.getD j 0
    rw [lcg_app]
    by_cases w : b = H.1.length
    · rw [if_pos w, if_pos w]; rfl
    · rw [if_neg w, if_neg w]
  · funext b
    show (if b = H.1.length then (kind, n) else ((lcg H.1 b).1, (lcg H.1 b).2.1)) = ((lcg (H.1 ++ [(kind, n, [], [], [])]) b).1, (lcg (H.1 ++ [(kind, n, [], [], [])]) b).2.1)
    rw [lcg_app]
    by_cases w : b = H.1.length
    · rw [if_pos w, if_pos w]
    · rw [if_neg w, if_neg w]
  · exact hl.symm
theorem lmod_cell {f : lC → lC} {c : List lC} {a b : Nat} (ha : a < c.length) {α : Type} (g : lC → α) (hg : ∀ e, g (f e) = g e) : g (lcg (lmod f c a) b) = g (lcg c b) := by
  rw [lmod_get f c a b ha]
  by_cases w : b = a
  · rw [if_pos w, hg]
  · rw [if_neg w]
theorem den_sI {H : lH} {a : Nat} (k : Nat) (v : Int32) (ha : a < H.1.length) : xuI (den H) a k v = den (lsI H a k v) := by
  refine Prod.ext ?_ (Prod.ext ?_ (Prod.ext ?_ (Prod.ext ?_ (Prod.ext ?_ rfl))))
  · funext b j
    show (if b = a ∧ j = k then v else (lcg H.1 b).2.2.2.1.getD j 0) = (lcg (lmod (lfI k v) H.1 a) b).2.2.2.1.getD j 0
    rw [lmod_get _ _ _ _ ha]
    by_cases w : b = a
    · rw [if_pos w]
      show _ = (lset 0 (lcg H.1 b).2.2.2.1 k v).getD j 0
      rw [lset_get]
      by_cases w2 : j = k
      · rw [if_pos ⟨w, w2⟩, if_pos w2]
      · rw [if_neg (fun q => w2 q.2), if_neg w2]
    · rw [if_neg w, if_neg (fun q => w q.1)]
  · funext b j
    exact congrArg (fun l : List Int64 => l.getD j 0) (lmod_cell (f := lfI k v) (b := b) ha (fun e => e.2.2.2.2) (fun _ => rfl)).symm
  · funext b j
    exact congrArg (fun l : List Nat => l.getD j 0) (lmod_cell (f := lfI k v) (b := b) ha (fun e => e.2.2.1) (fun _ => rfl)).symm
  · funext b
    exact (lmod_cell (f := lfI k v) (b := b) ha (fun e => (e.1, e.2.1)) (fun _ => rfl)).symm
  · exact (lmod_len ..).symm
theorem den_sJ {H : lH} {a : Nat} (k : Nat) (v : Int64) (ha : a < H.1.length) : xuJ (den H) a k v = den (lsJ H a k v) := by
  refine Prod.ext ?_ (Prod.ext ?_ (Prod.ext ?_ (Prod.ext ?_ (Prod.ext ?_ rfl))))
  · funext b j
    exact congrArg (fun l : List Int32 => l.getD j 0) (lmod_cell (f := lfJ k v) (b := b) ha (fun e => e.2.2.2.1) (fun _ => rfl)).symm
  · funext b j
    show (if b = a ∧ j = k then v else (lcg H.1 b).2.2.2.2.getD j 0) = (lcg (lmod (lfJ k v) H.1 a) b).2.2.2.2.getD j 0
    rw [lmod_get _ _ _ _ ha]
    by_cases w : b = a
    · rw [if_pos w]
      show _ = (lset 0 (lcg H.1 b).2.2.2.2 k v).getD j 0
      rw [lset_get]
      by_cases w2 : j = k
      · rw [if_pos ⟨w, w2⟩, if_pos w2]
      · rw [if_neg (fun q => w2 q.2), if_neg w2]
    · rw [if_neg w, if_neg (fun q => w q.1)]
  · funext b j
    exact congrArg (fun l : List Nat => l.getD j 0) (lmod_cell (f := lfJ k v) (b := b) ha (fun e => e.2.2.1) (fun _ => rfl)).symm
  · funext b
    exact (lmod_cell (f := lfJ k v) (b := b) ha (fun e => (e.1, e.2.1)) (fun _ => rfl)).symm
  · exact (lmod_len ..).symm
theorem den_sR {H : lH} {a : Nat} (k : Nat) (v : Nat) (ha : a < H.1.length) : xuR (den H) a k v = den (lsR H a k v) := by
  refine Prod.ext ?_ (Prod.ext ?_ (Prod.ext ?_ (Prod.ext ?_ (Prod.ext ?_ rfl))))
  · funext b j
    exact congrArg (fun l : List Int32 => l.getD j 0) (lmod_cell (f := lfR k v) (b := b) ha (fun e => e.2.2.2.1) (fun _ => rfl)).symm
  · funext b j
    exact congrArg (fun l : List Int64 => l.getD j 0) (lmod_cell (f := lfR k v) (b := b) ha (fun e => e.2.2.2.2) (fun _ => rfl)).symm
  · funext b j
    show (if b = a ∧ j = k then v else (lcg H.1 b).2.2.1.getD j 0) = (lcg (lmod (lfR k v) H.1 a) b).2.2.1.getD j 0
    rw [lmod_get _ _ _ _ ha]
    by_cases w : b = a
    · rw [if_pos w]
      show _ = (lset 0 (lcg H.1 b).2.2.1 k v).getD j 0
      rw [lset_get]
      by_cases w2 : j = k
      · rw [if_pos ⟨w, w2⟩, if_pos w2]
      · rw [if_neg (fun q => w2 q.2), if_neg w2]
    · rw [if_neg w, if_neg (fun q => w q.1)]
  · funext b
    exact (lmod_cell (f := lfR k v) (b := b) ha (fun e => (e.1, e.2.1)) (fun _ => rfl)).symm
  · exact (lmod_len ..).symm
