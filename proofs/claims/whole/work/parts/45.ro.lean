/-! ro_tightness -/
theorem b192_0 {xs : Nat → Int32} {Ls : Nat} {Φ : Option xV → xH → Prop} (s : xS) (k : Int32) (g : ((¬ k = 40 → Φ (some (vi (if k = 43 then (1 : Int32) else (if k = 45 then (1 : Int32) else 2)))) (xhp s)) ∧ (k = 40 → Φ (some (vi 0)) (xhp s)))) : xW (xX0 xs Ls) p192 0 [(0, vi k)] [] (xhp s) Φ := by
  refine xW.br (c := ¬ k = 40) (pc1 := 8) (L1 := [(0, vi k)]) (st1 := []) (h1 := xhp s) (pc2 := 6) (L2 := [(0, vi k)]) (st2 := []) (h2 := xhp s) 3 (fun _ _ _ _ => rfl) (fun hc => ?_) (fun hc => ?_)
  · replace g := g.1 hc
    refine xW.seg (pc1 := 11) (L1 := [(0, vi k)]) (st1 := [vi 43, vi k]) (h1 := xhp s) 2 (fun _ _ _ _ => rfl) ?_
    suffices J : xW (xX0 xs Ls) p192 25 [(0, vi k)] [vi (if k = 43 then (1 : Int32) else (if k = 45 then (1 : Int32) else 2))] (xhp s) Φ by
      refine xW.br (c := k = 43) (pc1 := 20) (L1 := [(0, vi k)]) (st1 := []) (h1 := xhp s) (pc2 := 14) (L2 := [(0, vi k)]) (st2 := []) (h2 := xhp s) 1 (fun _ _ _ _ => rfl) (fun hc => ?_) (fun hc => ?_)
      · have hc1 : k = 43 := hc
        refine xW.seg (pc1 := 25) (L1 := [(0, vi k)]) (st1 := [vi 1]) (h1 := xhp s) 2 (fun _ _ _ _ => rfl) ?_
        refine xW.to (v := vi (if k = 43 then (1 : Int32) else (if k = 45 then (1 : Int32) else 2))) ((congrArg vi (if_pos hc1)).symm) ?_
        exact J
      · have hc1 : ¬ (k = 43) := hc
        refine xW.br (c := ¬ k = 45) (pc1 := 24) (L1 := [(0, vi k)]) (st1 := []) (h1 := xhp s) (pc2 := 20) (L2 := [(0, vi k)]) (st2 := []) (h2 := xhp s) 3 (fun _ _ _ _ => rfl) (fun hc => ?_) (fun hc => ?_)
        · have hc2 : ¬ k = 45 := hc
          refine xW.seg (pc1 := 25) (L1 := [(0, vi k)]) (st1 := [vi 2]) (h1 := xhp s) 1 (fun _ _ _ _ => rfl) ?_
          refine xW.to (v := vi (if k = 43 then (1 : Int32) else (if k = 45 then (1 : Int32) else 2))) ((congrArg vi ((if_neg hc1).trans (if_neg hc2))).symm) ?_
          exact J
        · have hc2 : k = 45 := (Decidable.not_not.mp hc)
          refine xW.seg (pc1 := 25) (L1 := [(0, vi k)]) (st1 := [vi 1]) (h1 := xhp s) 2 (fun _ _ _ _ => rfl) ?_
          refine xW.to (v := vi (if k = 43 then (1 : Int32) else (if k = 45 then (1 : Int32) else 2))) ((congrArg vi ((if_neg hc1).trans (if_pos hc2))).symm) ?_
          exact J
    exact xW.ret (v0 := some (vi (if k = 43 then (1 : Int32) else (if k = 45 then (1 : Int32) else 2)))) (h1 := xhp s) 1 (fun _ _ _ _ => rfl) g
  · replace g := g.2 (Decidable.not_not.mp hc)
    exact xW.ret (v0 := some (vi 0)) (h1 := xhp s) 2 (fun _ _ _ _ => rfl) g
noncomputable def ro_tightness (k : Int32) : Int32 := (if ¬ k = 40 then (if k = 43 then (1 : Int32) else (if k = 45 then (1 : Int32) else 2)) else 0)
set_option maxRecDepth 100000 in
theorem m192 {xs : Nat → Int32} {Ls : Nat} {Ψ : xO → xH → Prop} (s : xS) (k : Int32) (h : Ψ (.inl (some (vi (ro_tightness k)))) (xhp s)) : xM (xX0 xs Ls) 192 [vi k] (xhp s) Ψ := by
  unfold ro_tightness at h
  exact xM.of (P := p192) rfl rfl rfl (b192_0 s k (⟨fun hc => by rw [if_pos hc] at h; exact h, fun hc => by rw [if_neg (fun z => z hc)] at h; exact h⟩))
/-! ro_clear -/
theorem b185_0 {xs : Nat → Int32} {Ls : Nat} {Φ : Option xV → xH → Prop} (s : xS) (a : Nat) (g : Φ none (xhp (sI (sI s a 1 0) a 2 0))) : xW (xX0 xs Ls) p185 0 [(0, vr 3 a)] [] (xhp s) Φ := by
  exact xW.ret (v0 := none) (h1 := xhp (sI (sI s a 1 0) a 2 0)) 7 (fun _ _ _ _ => rfl) g
noncomputable def ro_clear_d (s : xS) (a : Nat) : xS := (sI (sI s a 1 0) a 2 0)
noncomputable def ro_clear : xS → Nat → xS := Classical.choose (⟨ro_clear_d, rfl⟩ : ∃ f, f = ro_clear_d)
set_option maxRecDepth 100000 in
theorem ro_clear_eq : ro_clear = ro_clear_d := Classical.choose_spec (⟨ro_clear_d, rfl⟩ : ∃ f, f = ro_clear_d)
set_option maxRecDepth 100000 in
theorem m185 {xs : Nat → Int32} {Ls : Nat} {Ψ : xO → xH → Prop} (s : xS) (a : Nat) (h : Ψ (.inl none) (xhp (ro_clear s a))) : xM (xX0 xs Ls) 185 [vr 3 a] (xhp s) Ψ := by
  rw [ro_clear_eq] at h
  unfold ro_clear_d at h
  exact xM.of (P := p185) rfl rfl rfl (b185_0 s a (h))
/-! ro_set -/
theorem b184_18 {xs : Nat → Int32} {Ls : Nat} {Φ : Option xV → xH → Prop} (s : xS) (a : Nat) (b : Nat) (t : Nat) (u : Nat) (x2 : Int32) (hR : xR0 a 0 = t + 1) (hK : (xK0 t).1 = 40) (hR2 : xR0 b 0 = u + 1) (hK2 : (xK0 u).1 = 40) (g : (((gI s a 1) ≤ x2 → Φ none (xhp s)) ∧ (¬ ((gI s a 1) ≤ x2) → ((vp_in x2 (xK0 u).2) ∧ ((vp_in x2 (xK0 t).2) ∧ xW (xX0 xs Ls) p184 18 [(0, vr 3 a), (1, vr 3 b), (2, vi (x2 + 1))] [] (xhp (sI s t x2.toNatClampNeg (gI s u x2.toNatClampNeg))) Φ))))) : xW (xX0 xs Ls) p184 18 [(0, vr 3 a), (1, vr 3 b), (2, vi x2)] [] (xhp s) Φ := by
  refine xW.br (c := (gI s a 1) ≤ x2) (pc1 := 44) (L1 := [(0, vr 3 a), (1, vr 3 b), (2, vi x2)]) (st1 := []) (h1 := xhp s) (pc2 := 26) (L2 := [(0, vr 3 a), (1, vr 3 b), (2, vi x2)]) (st2 := []) (h2 := xhp s) 4 (fun _ _ _ _ => rfl) (fun hc => ?_) (fun hc => ?_)
  · replace g := g.1 hc
    exact xW.ret (v0 := none) (h1 := xhp s) 1 (fun _ _ _ _ => rfl) g
  · replace g := g.2 hc
    refine xW.refg (r := xR0 a 0) (a := t) (kind := 40) (h0 := xhp s) (pc1 := 30) (L1 := [(0, vr 3 a), (1, vr 3 b), (2, vi x2)]) (st1 := []) (h1 := xhp s) 2 (fun _ _ _ _ => rfl) hR hK ?_
    refine xW.refg (r := xR0 b 0) (a := u) (kind := 40) (h0 := xhp s) (pc1 := 35) (L1 := [(0, vr 3 a), (1, vr 3 b), (2, vi x2)]) (st1 := [vi x2, vr 40 t]) (h1 := xhp s) 3 (fun _ _ _ _ => rfl) hR2 hK2 ?_
    refine xW.side (c := vp_in x2 (xK0 u).2) (pc1 := 37) (L1 := [(0, vr 3 a), (1, vr 3 b), (2, vi x2)]) (st1 := [vi (gI s u x2.toNatClampNeg), vi x2, vr 40 t]) (h1 := xhp s) 2 (fun _ _ _ _ => rfl) g.1 ?_
    replace g := g.2
    refine xW.side (c := vp_in x2 (xK0 t).2) (pc1 := 38) (L1 := [(0, vr 3 a), (1, vr 3 b), (2, vi x2)]) (st1 := []) (h1 := xhp (sI s t x2.toNatClampNeg (gI s u x2.toNatClampNeg))) 1 (fun _ _ _ _ => rfl) g.1 ?_
    replace g := g.2
    refine xW.seg (pc1 := 18) (L1 := [(2, vi (x2 + 1)), (0, vr 3 a), (1, vr 3 b)]) (st1 := []) (h1 := xhp (sI s t x2.toNatClampNeg (gI s u x2.toNatClampNeg))) 2 (fun _ _ _ _ => rfl) ?_
    exact xW.locs (L := [(0, vr 3 a), (1, vr 3 b), (2, vi (x2 + 1))]) ⟨rfl, rfl, rfl, trivial⟩ rfl g
noncomputable def ro_set_18 : Nat → xS → Nat → Nat → Nat → Nat → Int32 → xS
  | 0, s, _, _, _, _, _ => s
  | n + 1, s, a, b, t, u, x2 => (if (gI s a 1) ≤ x2 then s else (ro_set_18 n (sI s t x2.toNatClampNeg (gI s u x2.toNatClampNeg)) a b t u (x2 + 1)))
def ro_set_18_ok : Nat → xS → Nat → Nat → Nat → Nat → Int32 → Prop
  | 0, _, _, _, _, _, _ => False
  | n + 1, s, a, b, t, u, x2 => (¬ ((gI s a 1) ≤ x2) → ((vp_in x2 (xK0 u).2) ∧ ((vp_in x2 (xK0 t).2) ∧ (ro_set_18_ok n (sI s t x2.toNatClampNeg (gI s u x2.toNatClampNeg)) a b t u (x2 + 1)))))
set_option maxRecDepth 100000 in
theorem n184_18 {xs : Nat → Int32} {Ls : Nat} {Φ : Option xV → xH → Prop} (a : Nat) (b : Nat) (t : Nat) (u : Nat) (hR : xR0 a 0 = t + 1) (hK : (xK0 t).1 = 40) (hR2 : xR0 b 0 = u + 1) (hK2 : (xK0 u).1 = 40) : ∀ (n : Nat) (s : xS) (x2 : Int32), ro_set_18_ok n s a b t u x2 → Φ none (xhp (ro_set_18 n s a b t u x2)) → xW (xX0 xs Ls) p184 18 [(0, vr 3 a), (1, vr 3 b), (2, vi x2)] [] (xhp s) Φ := by
  intro n
  induction n with
  | zero => intro s _ gq; exact gq.elim
  | succ n ih =>
    intro s x2 gq h
    unfold ro_set_18_ok at gq
    unfold ro_set_18 at h
    exact b184_18 s a b t u x2 hR hK hR2 hK2 (⟨fun hc => by rw [if_pos hc] at h; exact h, fun hc => by rw [if_neg hc] at h; replace gq := gq hc; exact ⟨gq.1, by replace gq := gq.2; exact ⟨gq.1, by replace gq := gq.2; exact ih _ _ gq h⟩⟩⟩)
set_option maxRecDepth 100000 in
theorem b184_0 {xs : Nat → Int32} {Ls : Nat} {Φ : Option xV → xH → Prop} (s : xS) (a : Nat) (b : Nat) (t : Nat) (u : Nat) (hR : xR0 a 0 = t + 1) (hK : (xK0 t).1 = 40) (hR2 : xR0 b 0 = u + 1) (hK2 : (xK0 u).1 = 40) (g : xW (xX0 xs Ls) p184 18 [(0, vr 3 a), (1, vr 3 b), (2, vi 0)] [] (xhp (sI (sI s a 1 (gI s b 1)) a 2 (gI (sI s a 1 (gI s b 1)) b 2))) Φ) : xW (xX0 xs Ls) p184 0 [(0, vr 3 a), (1, vr 3 b)] [] (xhp s) Φ := by
  refine xW.seg (pc1 := 18) (L1 := [(2, vi 0), (0, vr 3 a), (1, vr 3 b)]) (st1 := []) (h1 := xhp (sI (sI s a 1 (gI s b 1)) a 2 (gI (sI s a 1 (gI s b 1)) b 2))) 10 (fun _ _ _ _ => rfl) ?_
  exact xW.locs (L := [(0, vr 3 a), (1, vr 3 b), (2, vi 0)]) ⟨rfl, rfl, rfl, trivial⟩ rfl g
noncomputable def ro_set_d (s : xS) (a : Nat) (b : Nat) (t : Nat) (u : Nat) : xS := (ro_set_18 xfu (sI (sI s a 1 (gI s b 1)) a 2 (gI (sI s a 1 (gI s b 1)) b 2)) a b t u 0)
noncomputable def ro_set : xS → Nat → Nat → Nat → Nat → xS := Classical.choose (⟨ro_set_d, rfl⟩ : ∃ f, f = ro_set_d)
set_option maxRecDepth 100000 in
theorem ro_set_eq : ro_set = ro_set_d := Classical.choose_spec (⟨ro_set_d, rfl⟩ : ∃ f, f = ro_set_d)
def ro_set_ok (s : xS) (a : Nat) (b : Nat) (t : Nat) (u : Nat) : Prop := (ro_set_18_ok xfu (sI (sI s a 1 (gI s b 1)) a 2 (gI (sI s a 1 (gI s b 1)) b 2)) a b t u 0)
set_option maxRecDepth 100000 in
theorem m184 {xs : Nat → Int32} {Ls : Nat} {Ψ : xO → xH → Prop} (s : xS) (a : Nat) (b : Nat) (t : Nat) (u : Nat) (hR : xR0 a 0 = t + 1) (hK : (xK0 t).1 = 40) (hR2 : xR0 b 0 = u + 1) (hK2 : (xK0 u).1 = 40) (gq : ro_set_ok s a b t u) (h : Ψ (.inl none) (xhp (ro_set s a b t u))) : xM (xX0 xs Ls) 184 [vr 3 a, vr 3 b] (xhp s) Ψ := by
  rw [ro_set_eq] at h
  unfold ro_set_d at h
  unfold ro_set_ok at gq
  exact xM.of (P := p184) rfl rfl rfl (b184_0 s a b t u hR hK hR2 hK2 (n184_18 _ _ _ _ hR hK hR2 hK2 _ _ _ gq h))
/-! ro_hasBracket -/
theorem b187_2 {xs : Nat → Int32} {Ls : Nat} {Φ : Option xV → xH → Prop} (s : xS) (a : Nat) (t : Nat) (x1 : Int32) (hR : xR0 a 0 = t + 1) (hK : (xK0 t).1 = 40) (g : (((gI s a 1) ≤ x1 → Φ (some (vi 0)) (xhp s)) ∧ (¬ ((gI s a 1) ≤ x1) → ((vp_in x1 (xK0 t).2) ∧ ((¬ (gI s t x1.toNatClampNeg) = 40 → xW (xX0 xs Ls) p187 2 [(0, vr 3 a), (1, vi (x1 + 1))] [] (xhp s) Φ) ∧ ((gI s t x1.toNatClampNeg) = 40 → Φ (some (vi 1)) (xhp s))))))) : xW (xX0 xs Ls) p187 2 [(0, vr 3 a), (1, vi x1)] [] (xhp s) Φ := by
  refine xW.br (c := (gI s a 1) ≤ x1) (pc1 := 29) (L1 := [(0, vr 3 a), (1, vi x1)]) (st1 := []) (h1 := xhp s) (pc2 := 10) (L2 := [(0, vr 3 a), (1, vi x1)]) (st2 := []) (h2 := xhp s) 4 (fun _ _ _ _ => rfl) (fun hc => ?_) (fun hc => ?_)
  · replace g := g.1 hc
    exact xW.retz (v0 := some (vi 0)) (h1 := xhp s) (c := (0 : Int32) = 0 ∨ (0 : Int32) = 1) 2 (fun _ _ _ _ => rfl) (Or.inl rfl) g
  · replace g := g.2 hc
    refine xW.refg (r := xR0 a 0) (a := t) (kind := 40) (h0 := xhp s) (pc1 := 14) (L1 := [(0, vr 3 a), (1, vi x1)]) (st1 := []) (h1 := xhp s) 2 (fun _ _ _ _ => rfl) hR hK ?_
    refine xW.side (c := vp_in x1 (xK0 t).2) (pc1 := 16) (L1 := [(0, vr 3 a), (1, vi x1)]) (st1 := [vi (gI s t x1.toNatClampNeg)]) (h1 := xhp s) 2 (fun _ _ _ _ => rfl) g.1 ?_
    replace g := g.2
    refine xW.br (c := ¬ (gI s t x1.toNatClampNeg) = 40) (pc1 := 23) (L1 := [(0, vr 3 a), (1, vi x1)]) (st1 := []) (h1 := xhp s) (pc2 := 21) (L2 := [(0, vr 3 a), (1, vi x1)]) (st2 := []) (h2 := xhp s) 2 (fun _ _ _ _ => rfl) (fun hc => ?_) (fun hc => ?_)
    · replace g := g.1 hc
      refine xW.seg (pc1 := 2) (L1 := [(1, vi (x1 + 1)), (0, vr 3 a)]) (st1 := []) (h1 := xhp s) 2 (fun _ _ _ _ => rfl) ?_
      exact xW.locs (L := [(0, vr 3 a), (1, vi (x1 + 1))]) ⟨rfl, rfl, trivial⟩ rfl g
    · replace g := g.2 (Decidable.not_not.mp hc)
      exact xW.retz (v0 := some (vi 1)) (h1 := xhp s) (c := (1 : Int32) = 0 ∨ (1 : Int32) = 1) 2 (fun _ _ _ _ => rfl) (Or.inr rfl) g
noncomputable def ro_hasBracket_2 : Nat → xS → Nat → Nat → Int32 → Bool
  | 0, s, _, _, _ => false
  | n + 1, s, a, t, x1 => (if (gI s a 1) ≤ x1 then false else (if ¬ (gI s t x1.toNatClampNeg) = 40 then (ro_hasBracket_2 n s a t (x1 + 1)) else true))
def ro_hasBracket_2_ok : Nat → xS → Nat → Nat → Int32 → Prop
  | 0, _, _, _, _ => False
  | n + 1, s, a, t, x1 => (¬ ((gI s a 1) ≤ x1) → ((vp_in x1 (xK0 t).2) ∧ (¬ (gI s t x1.toNatClampNeg) = 40 → (ro_hasBracket_2_ok n s a t (x1 + 1)))))
set_option maxRecDepth 100000 in
theorem n187_2 {xs : Nat → Int32} {Ls : Nat} {Φ : Option xV → xH → Prop} (a : Nat) (t : Nat) (hR : xR0 a 0 = t + 1) (hK : (xK0 t).1 = 40) : ∀ (n : Nat) (s : xS) (x1 : Int32), ro_hasBracket_2_ok n s a t x1 → Φ (some (vi (zb (ro_hasBracket_2 n s a t x1)))) (xhp s) → xW (xX0 xs Ls) p187 2 [(0, vr 3 a), (1, vi x1)] [] (xhp s) Φ := by
  intro n
  induction n with
  | zero => intro s _ gq; exact gq.elim
  | succ n ih =>
    intro s x1 gq h
    unfold ro_hasBracket_2_ok at gq
    unfold ro_hasBracket_2 at h
    exact b187_2 s a t x1 hR hK (⟨fun hc => by rw [if_pos hc] at h; exact h, fun hc => by rw [if_neg hc] at h; replace gq := gq hc; exact ⟨gq.1, by replace gq := gq.2; exact ⟨fun hc => by rw [if_pos hc] at h; replace gq := gq hc; exact ih _ _ gq h, fun hc => by rw [if_neg (fun z => z hc)] at h; exact h⟩⟩⟩)
set_option maxRecDepth 100000 in
theorem b187_0 {xs : Nat → Int32} {Ls : Nat} {Φ : Option xV → xH → Prop} (s : xS) (a : Nat) (t : Nat) (hR : xR0 a 0 = t + 1) (hK : (xK0 t).1 = 40) (g : xW (xX0 xs Ls) p187 2 [(0, vr 3 a), (1, vi 0)] [] (xhp s) Φ) : xW (xX0 xs Ls) p187 0 [(0, vr 3 a)] [] (xhp s) Φ := by
  refine xW.seg (pc1 := 2) (L1 := [(1, vi 0), (0, vr 3 a)]) (st1 := []) (h1 := xhp s) 2 (fun _ _ _ _ => rfl) ?_
  exact xW.locs (L := [(0, vr 3 a), (1, vi 0)]) ⟨rfl, rfl, trivial⟩ rfl g
noncomputable def ro_hasBracket (s : xS) (a : Nat) (t : Nat) : Bool := (ro_hasBracket_2 xfu s a t 0)
def ro_hasBracket_ok (s : xS) (a : Nat) (t : Nat) : Prop := (ro_hasBracket_2_ok xfu s a t 0)
set_option maxRecDepth 100000 in
theorem m187 {xs : Nat → Int32} {Ls : Nat} {Ψ : xO → xH → Prop} (s : xS) (a : Nat) (t : Nat) (hR : xR0 a 0 = t + 1) (hK : (xK0 t).1 = 40) (gq : ro_hasBracket_ok s a t) (h : Ψ (.inl (some (vi (zb (ro_hasBracket s a t))))) (xhp s)) : xM (xX0 xs Ls) 187 [vr 3 a] (xhp s) Ψ := by
  unfold ro_hasBracket at h
  unfold ro_hasBracket_ok at gq
  exact xM.of (P := p187) rfl rfl rfl (b187_0 s a t hR hK (n187_2 _ _ hR hK _ _ _ gq h))
/-! ro_isOutOfPlace -/
theorem b186_0 {xs : Nat → Int32} {Ls : Nat} {Φ : Option xV → xH → Prop} (s : xS) (a : Nat) (t : Nat) (k : Int32) (hR : xR0 a 0 = t + 1) (hK : (xK0 t).1 = 40) (g : ((¬ k = 40 → ((¬ k = 41 → Φ (some (vi (zb (decide ((gI s a 2) = 1))))) (xhp s)) ∧ (k = 41 → ((¬ (gI s a 2) = 2 → Φ (some (vi 1)) (xhp s)) ∧ ((gI s a 2) = 2 → ((ro_hasBracket_ok s a t) ∧ Φ (some (vi (zb (!(ro_hasBracket s a t))))) (xhp s))))))) ∧ (k = 40 → Φ (some (vi (zb (decide ((gI s a 2) = 2))))) (xhp s)))) : xW (xX0 xs Ls) p186 0 [(0, vr 3 a), (1, vi k)] [] (xhp s) Φ := by
  refine xW.br (c := ¬ k = 40) (pc1 := 20) (L1 := [(0, vr 3 a), (1, vi k)]) (st1 := []) (h1 := xhp s) (pc2 := 6) (L2 := [(0, vr 3 a), (1, vi k)]) (st2 := []) (h2 := xhp s) 3 (fun _ _ _ _ => rfl) (fun hc => ?_) (fun hc => ?_)
  · replace g := g.1 hc
    refine xW.br (c := ¬ k = 41) (pc1 := 47) (L1 := [(0, vr 3 a), (1, vi k)]) (st1 := []) (h1 := xhp s) (pc2 := 26) (L2 := [(0, vr 3 a), (1, vi k)]) (st2 := []) (h2 := xhp s) 3 (fun _ _ _ _ => rfl) (fun hc => ?_) (fun hc => ?_)
    · replace g := g.1 hc
      refine xW.seg (pc1 := 52) (L1 := [(0, vr 3 a), (1, vi k)]) (st1 := [vi 1, vi (gI s a 2)]) (h1 := xhp s) 3 (fun _ _ _ _ => rfl) ?_
      suffices J : xW (xX0 xs Ls) p186 60 [(0, vr 3 a), (1, vi k)] [vi (zb (decide ((gI s a 2) = 1)))] (xhp s) Φ by
        refine xW.br (c := ¬ (gI s a 2) = 1) (pc1 := 59) (L1 := [(0, vr 3 a), (1, vi k)]) (st1 := []) (h1 := xhp s) (pc2 := 55) (L2 := [(0, vr 3 a), (1, vi k)]) (st2 := []) (h2 := xhp s) 1 (fun _ _ _ _ => rfl) (fun hc => ?_) (fun hc => ?_)
        · have hc1 : ¬ (gI s a 2) = 1 := hc
          refine xW.seg (pc1 := 60) (L1 := [(0, vr 3 a), (1, vi k)]) (st1 := [vi 0]) (h1 := xhp s) 1 (fun _ _ _ _ => rfl) ?_
          refine xW.to (v := vi (zb (decide ((gI s a 2) = 1)))) (zb_f (by simp only [decide_eq_false hc1, Bool.true_or, Bool.or_true, Bool.false_or, Bool.or_false, Bool.true_and, Bool.and_true, Bool.false_and, Bool.and_false, Bool.not_true, Bool.not_false, cond_true, cond_false])) ?_
          exact J
        · have hc1 : (gI s a 2) = 1 := (Decidable.not_not.mp hc)
          refine xW.seg (pc1 := 60) (L1 := [(0, vr 3 a), (1, vi k)]) (st1 := [vi 1]) (h1 := xhp s) 2 (fun _ _ _ _ => rfl) ?_
          refine xW.to (v := vi (zb (decide ((gI s a 2) = 1)))) (zb_t (by simp only [decide_eq_true hc1, Bool.true_or, Bool.or_true, Bool.false_or, Bool.or_false, Bool.true_and, Bool.and_true, Bool.false_and, Bool.and_false, Bool.not_true, Bool.not_false, cond_true, cond_false])) ?_
          exact J
      exact xW.retz (v0 := some (vi (zb (decide ((gI s a 2) = 1))))) (h1 := xhp s) (c := (zb (decide ((gI s a 2) = 1))) = 0 ∨ (zb (decide ((gI s a 2) = 1))) = 1) 1 (fun _ _ _ _ => rfl) (zb01 _) g
    · replace g := g.2 (Decidable.not_not.mp hc)
      refine xW.br (c := ¬ (gI s a 2) = 2) (pc1 := 41) (L1 := [(0, vr 3 a), (1, vi k)]) (st1 := []) (h1 := xhp s) (pc2 := 34) (L2 := [(0, vr 3 a), (1, vi k)]) (st2 := []) (h2 := xhp s) 4 (fun _ _ _ _ => rfl) (fun hc => ?_) (fun hc => ?_)
      · replace g := g.1 hc
        exact xW.retz (v0 := some (vi 1)) (h1 := xhp s) (c := (1 : Int32) = 0 ∨ (1 : Int32) = 1) 3 (fun _ _ _ _ => rfl) (Or.inr rfl) g
      · replace g := g.2 (Decidable.not_not.mp hc)
        refine xW.call (y := 187) (as := [vr 3 a]) (h0 := xhp s) (pc0 := 35) (len := 3) (L0 := [(0, vr 3 a), (1, vi k)]) (rest := []) 2 (fun _ _ _ _ => rfl) (m187 _ _ _ hR hK g.1 ?_)
        show xW (xX0 xs Ls) p186 38 [(0, vr 3 a), (1, vi k)] [vi (zb (ro_hasBracket s a t))] (xhp s) Φ
        replace g := g.2
        suffices J : xW (xX0 xs Ls) p186 46 [(0, vr 3 a), (1, vi k)] [vi (zb (!(ro_hasBracket s a t)))] (xhp s) Φ by
          refine xW.br (c := ¬ (zb (ro_hasBracket s a t)) = 0) (pc1 := 45) (L1 := [(0, vr 3 a), (1, vi k)]) (st1 := []) (h1 := xhp s) (pc2 := 41) (L2 := [(0, vr 3 a), (1, vi k)]) (st2 := []) (h2 := xhp s) 1 (fun _ _ _ _ => rfl) (fun hc => ?_) (fun hc => ?_)
          · have hc2 : (ro_hasBracket s a t) = true := (zb_ne0.mp hc)
            refine xW.seg (pc1 := 46) (L1 := [(0, vr 3 a), (1, vi k)]) (st1 := [vi 0]) (h1 := xhp s) 1 (fun _ _ _ _ => rfl) ?_
            refine xW.to (v := vi (zb (!(ro_hasBracket s a t)))) (zb_f (by simp only [hc2, Bool.true_or, Bool.or_true, Bool.false_or, Bool.or_false, Bool.true_and, Bool.and_true, Bool.false_and, Bool.and_false, Bool.not_true, Bool.not_false, cond_true, cond_false])) ?_
            exact J
          · have hc2 : (ro_hasBracket s a t) = false := (zb_eq0.mp (Decidable.not_not.mp hc))
            refine xW.seg (pc1 := 46) (L1 := [(0, vr 3 a), (1, vi k)]) (st1 := [vi 1]) (h1 := xhp s) 2 (fun _ _ _ _ => rfl) ?_
            refine xW.to (v := vi (zb (!(ro_hasBracket s a t)))) (zb_t (by simp only [hc2, Bool.true_or, Bool.or_true, Bool.false_or, Bool.or_false, Bool.true_and, Bool.and_true, Bool.false_and, Bool.and_false, Bool.not_true, Bool.not_false, cond_true, cond_false])) ?_
            exact J
        exact xW.retz (v0 := some (vi (zb (!(ro_hasBracket s a t))))) (h1 := xhp s) (c := (zb (!(ro_hasBracket s a t))) = 0 ∨ (zb (!(ro_hasBracket s a t))) = 1) 1 (fun _ _ _ _ => rfl) (zb01 _) g
  · replace g := g.2 (Decidable.not_not.mp hc)
    refine xW.seg (pc1 := 11) (L1 := [(0, vr 3 a), (1, vi k)]) (st1 := [vi 2, vi (gI s a 2)]) (h1 := xhp s) 3 (fun _ _ _ _ => rfl) ?_
    suffices J : xW (xX0 xs Ls) p186 19 [(0, vr 3 a), (1, vi k)] [vi (zb (decide ((gI s a 2) = 2)))] (xhp s) Φ by
      refine xW.br (c := ¬ (gI s a 2) = 2) (pc1 := 18) (L1 := [(0, vr 3 a), (1, vi k)]) (st1 := []) (h1 := xhp s) (pc2 := 14) (L2 := [(0, vr 3 a), (1, vi k)]) (st2 := []) (h2 := xhp s) 1 (fun _ _ _ _ => rfl) (fun hc => ?_) (fun hc => ?_)
      · have hc3 : ¬ (gI s a 2) = 2 := hc
        refine xW.seg (pc1 := 19) (L1 := [(0, vr 3 a), (1, vi k)]) (st1 := [vi 0]) (h1 := xhp s) 1 (fun _ _ _ _ => rfl) ?_
        refine xW.to (v := vi (zb (decide ((gI s a 2) = 2)))) (zb_f (by simp only [decide_eq_false hc3, Bool.true_or, Bool.or_true, Bool.false_or, Bool.or_false, Bool.true_and, Bool.and_true, Bool.false_and, Bool.and_false, Bool.not_true, Bool.not_false, cond_true, cond_false])) ?_
        exact J
      · have hc3 : (gI s a 2) = 2 := (Decidable.not_not.mp hc)
        refine xW.seg (pc1 := 19) (L1 := [(0, vr 3 a), (1, vi k)]) (st1 := [vi 1]) (h1 := xhp s) 2 (fun _ _ _ _ => rfl) ?_
        refine xW.to (v := vi (zb (decide ((gI s a 2) = 2)))) (zb_t (by simp only [decide_eq_true hc3, Bool.true_or, Bool.or_true, Bool.false_or, Bool.or_false, Bool.true_and, Bool.and_true, Bool.false_and, Bool.and_false, Bool.not_true, Bool.not_false, cond_true, cond_false])) ?_
        exact J
    exact xW.retz (v0 := some (vi (zb (decide ((gI s a 2) = 2))))) (h1 := xhp s) (c := (zb (decide ((gI s a 2) = 2))) = 0 ∨ (zb (decide ((gI s a 2) = 2))) = 1) 1 (fun _ _ _ _ => rfl) (zb01 _) g
noncomputable def ro_isOutOfPlace (s : xS) (a : Nat) (t : Nat) (k : Int32) : Bool := (if ¬ k = 40 then (if ¬ k = 41 then (decide ((gI s a 2) = 1)) else (if ¬ (gI s a 2) = 2 then true else (!(ro_hasBracket s a t)))) else (decide ((gI s a 2) = 2)))
def ro_isOutOfPlace_ok (s : xS) (a : Nat) (t : Nat) (k : Int32) : Prop := (¬ k = 40 → (k = 41 → ((gI s a 2) = 2 → (ro_hasBracket_ok s a t))))
set_option maxRecDepth 100000 in
theorem m186 {xs : Nat → Int32} {Ls : Nat} {Ψ : xO → xH → Prop} (s : xS) (a : Nat) (t : Nat) (k : Int32) (hR : xR0 a 0 = t + 1) (hK : (xK0 t).1 = 40) (gq : ro_isOutOfPlace_ok s a t k) (h : Ψ (.inl (some (vi (zb (ro_isOutOfPlace s a t k))))) (xhp s)) : xM (xX0 xs Ls) 186 [vr 3 a, vi k] (xhp s) Ψ := by
  unfold ro_isOutOfPlace at h
  unfold ro_isOutOfPlace_ok at gq
  exact xM.of (P := p186) rfl rfl rfl (b186_0 s a t k hR hK (⟨fun hc => by rw [if_pos hc] at h; replace gq := gq hc; exact ⟨fun hc => by rw [if_pos hc] at h; exact h, fun hc => by rw [if_neg (fun z => z hc)] at h; replace gq := gq hc; exact ⟨fun hc => by rw [if_pos hc] at h; exact h, fun hc => by rw [if_neg (fun z => z hc)] at h; replace gq := gq hc; exact ⟨gq, h⟩⟩⟩, fun hc => by rw [if_neg (fun z => z hc)] at h; exact h⟩))
/-! ro_countNumbers -/
theorem b188_4 {xs : Nat → Int32} {Ls : Nat} {Φ : Option xV → xH → Prop} (s : xS) (a : Nat) (t : Nat) (x1 : Int32) (x2 : Int32) (hR : xR0 a 0 = t + 1) (hK : (xK0 t).1 = 40) (g : (((gI s a 1) ≤ x2 → Φ (some (vi x1)) (xhp s)) ∧ (¬ ((gI s a 1) ≤ x2) → ((vp_in x2 (xK0 t).2) ∧ (((gI s t x2.toNatClampNeg) = 40 → xW (xX0 xs Ls) p188 4 [(0, vr 3 a), (1, vi x1), (2, vi (x2 + 1))] [] (xhp s) Φ) ∧ (¬ ((gI s t x2.toNatClampNeg) = 40) → xW (xX0 xs Ls) p188 4 [(0, vr 3 a), (1, vi (x1 + 1)), (2, vi (x2 + 1))] [] (xhp s) Φ)))))) : xW (xX0 xs Ls) p188 4 [(0, vr 3 a), (1, vi x1), (2, vi x2)] [] (xhp s) Φ := by
  refine xW.br (c := (gI s a 1) ≤ x2) (pc1 := 32) (L1 := [(0, vr 3 a), (1, vi x1), (2, vi x2)]) (st1 := []) (h1 := xhp s) (pc2 := 12) (L2 := [(0, vr 3 a), (1, vi x1), (2, vi x2)]) (st2 := []) (h2 := xhp s) 4 (fun _ _ _ _ => rfl) (fun hc => ?_) (fun hc => ?_)
  · replace g := g.1 hc
    exact xW.ret (v0 := some (vi x1)) (h1 := xhp s) 2 (fun _ _ _ _ => rfl) g
  · replace g := g.2 hc
    refine xW.refg (r := xR0 a 0) (a := t) (kind := 40) (h0 := xhp s) (pc1 := 16) (L1 := [(0, vr 3 a), (1, vi x1), (2, vi x2)]) (st1 := []) (h1 := xhp s) 2 (fun _ _ _ _ => rfl) hR hK ?_
    refine xW.side (c := vp_in x2 (xK0 t).2) (pc1 := 18) (L1 := [(0, vr 3 a), (1, vi x1), (2, vi x2)]) (st1 := [vi (gI s t x2.toNatClampNeg)]) (h1 := xhp s) 2 (fun _ _ _ _ => rfl) g.1 ?_
    replace g := g.2
    refine xW.br (c := (gI s t x2.toNatClampNeg) = 40) (pc1 := 26) (L1 := [(0, vr 3 a), (1, vi x1), (2, vi x2)]) (st1 := []) (h1 := xhp s) (pc2 := 23) (L2 := [(0, vr 3 a), (1, vi x1), (2, vi x2)]) (st2 := []) (h2 := xhp s) 2 (fun _ _ _ _ => rfl) (fun hc => ?_) (fun hc => ?_)
    · replace g := g.1 hc
      refine xW.seg (pc1 := 4) (L1 := [(2, vi (x2 + 1)), (0, vr 3 a), (1, vi x1)]) (st1 := []) (h1 := xhp s) 2 (fun _ _ _ _ => rfl) ?_
      exact xW.locs (L := [(0, vr 3 a), (1, vi x1), (2, vi (x2 + 1))]) ⟨rfl, rfl, rfl, trivial⟩ rfl g
    · replace g := g.2 hc
      refine xW.seg (pc1 := 4) (L1 := [(2, vi (x2 + 1)), (1, vi (x1 + 1)), (0, vr 3 a)]) (st1 := []) (h1 := xhp s) 3 (fun _ _ _ _ => rfl) ?_
      exact xW.locs (L := [(0, vr 3 a), (1, vi (x1 + 1)), (2, vi (x2 + 1))]) ⟨rfl, rfl, rfl, trivial⟩ rfl g
noncomputable def ro_countNumbers_4 : Nat → xS → Nat → Nat → Int32 → Int32 → Int32
  | 0, s, _, _, _, _ => 0
  | n + 1, s, a, t, x1, x2 => (if (gI s a 1) ≤ x2 then x1 else (if (gI s t x2.toNatClampNeg) = 40 then (ro_countNumbers_4 n s a t x1 (x2 + 1)) else (ro_countNumbers_4 n s a t (x1 + 1) (x2 + 1))))
def ro_countNumbers_4_ok : Nat → xS → Nat → Nat → Int32 → Int32 → Prop
  | 0, _, _, _, _, _ => False
  | n + 1, s, a, t, x1, x2 => (¬ ((gI s a 1) ≤ x2) → ((vp_in x2 (xK0 t).2) ∧ (((gI s t x2.toNatClampNeg) = 40 → (ro_countNumbers_4_ok n s a t x1 (x2 + 1))) ∧ (¬ ((gI s t x2.toNatClampNeg) = 40) → (ro_countNumbers_4_ok n s a t (x1 + 1) (x2 + 1))))))
set_option maxRecDepth 100000 in
theorem n188_4 {xs : Nat → Int32} {Ls : Nat} {Φ : Option xV → xH → Prop} (a : Nat) (t : Nat) (hR : xR0 a 0 = t + 1) (hK : (xK0 t).1 = 40) : ∀ (n : Nat) (s : xS) (x1 : Int32) (x2 : Int32), ro_countNumbers_4_ok n s a t x1 x2 → Φ (some (vi (ro_countNumbers_4 n s a t x1 x2))) (xhp s) → xW (xX0 xs Ls) p188 4 [(0, vr 3 a), (1, vi x1), (2, vi x2)] [] (xhp s) Φ := by
  intro n
  induction n with
  | zero => intro s _ _ gq; exact gq.elim
  | succ n ih =>
    intro s x1 x2 gq h
    unfold ro_countNumbers_4_ok at gq
    unfold ro_countNumbers_4 at h
    exact b188_4 s a t x1 x2 hR hK (⟨fun hc => by rw [if_pos hc] at h; exact h, fun hc => by rw [if_neg hc] at h; replace gq := gq hc; exact ⟨gq.1, by replace gq := gq.2; exact ⟨fun hc => by rw [if_pos hc] at h; replace gq := gq.1 hc; exact ih _ _ _ gq h, fun hc => by rw [if_neg hc] at h; replace gq := gq.2 hc; exact ih _ _ _ gq h⟩⟩⟩)
set_option maxRecDepth 100000 in
theorem b188_0 {xs : Nat → Int32} {Ls : Nat} {Φ : Option xV → xH → Prop} (s : xS) (a : Nat) (t : Nat) (hR : xR0 a 0 = t + 1) (hK : (xK0 t).1 = 40) (g : xW (xX0 xs Ls) p188 4 [(0, vr 3 a), (1, vi 0), (2, vi 0)] [] (xhp s) Φ) : xW (xX0 xs Ls) p188 0 [(0, vr 3 a)] [] (xhp s) Φ := by
  refine xW.seg (pc1 := 4) (L1 := [(2, vi 0), (1, vi 0), (0, vr 3 a)]) (st1 := []) (h1 := xhp s) 4 (fun _ _ _ _ => rfl) ?_
  exact xW.locs (L := [(0, vr 3 a), (1, vi 0), (2, vi 0)]) ⟨rfl, rfl, rfl, trivial⟩ rfl g
noncomputable def ro_countNumbers (s : xS) (a : Nat) (t : Nat) : Int32 := (ro_countNumbers_4 xfu s a t 0 0)
def ro_countNumbers_ok (s : xS) (a : Nat) (t : Nat) : Prop := (ro_countNumbers_4_ok xfu s a t 0 0)
set_option maxRecDepth 100000 in
theorem m188 {xs : Nat → Int32} {Ls : Nat} {Ψ : xO → xH → Prop} (s : xS) (a : Nat) (t : Nat) (hR : xR0 a 0 = t + 1) (hK : (xK0 t).1 = 40) (gq : ro_countNumbers_ok s a t) (h : Ψ (.inl (some (vi (ro_countNumbers s a t)))) (xhp s)) : xM (xX0 xs Ls) 188 [vr 3 a] (xhp s) Ψ := by
  unfold ro_countNumbers at h
  unfold ro_countNumbers_ok at gq
  exact xM.of (P := p188) rfl rfl rfl (b188_0 s a t hR hK (n188_4 _ _ hR hK _ _ _ _ gq h))
/-! ro_leftBehind -/
theorem b189_41 {xs : Nat → Int32} {Ls : Nat} {Φ : Option xV → xH → Prop} (s : xS) (a : Nat) (t : Nat) (x2 : Int32) (x3 : Int32) (hR : xR0 a 0 = t + 1) (hK : (xK0 t).1 = 40) (g : ((x3 ≤ 0 → Φ (some (vi x3)) (xhp s)) ∧ (¬ (x3 ≤ 0) → ((vp_in (x3 - 1) (xK0 t).2) ∧ (((ro_tightness (gI s t ((x3 - 1).toNatClampNeg))) < x2 → Φ (some (vi x3)) (xhp s)) ∧ (¬ ((ro_tightness (gI s t ((x3 - 1).toNatClampNeg))) < x2) → xW (xX0 xs Ls) p189 41 [(0, vr 3 a), (2, vi x2), (3, vi (x3 + (-1)))] [] (xhp s) Φ)))))) : xW (xX0 xs Ls) p189 41 [(0, vr 3 a), (2, vi x2), (3, vi x3)] [] (xhp s) Φ := by
  refine xW.br (c := x3 ≤ 0) (pc1 := 66) (L1 := [(0, vr 3 a), (2, vi x2), (3, vi x3)]) (st1 := []) (h1 := xhp s) (pc2 := 45) (L2 := [(0, vr 3 a), (2, vi x2), (3, vi x3)]) (st2 := []) (h2 := xhp s) 2 (fun _ _ _ _ => rfl) (fun hc => ?_) (fun hc => ?_)
  · replace g := g.1 hc
    exact xW.ret (v0 := some (vi x3)) (h1 := xhp s) 2 (fun _ _ _ _ => rfl) g
  · replace g := g.2 hc
    refine xW.refg (r := xR0 a 0) (a := t) (kind := 40) (h0 := xhp s) (pc1 := 49) (L1 := [(0, vr 3 a), (2, vi x2), (3, vi x3)]) (st1 := []) (h1 := xhp s) 2 (fun _ _ _ _ => rfl) hR hK ?_
    refine xW.side (c := vp_in (x3 - 1) (xK0 t).2) (pc1 := 53) (L1 := [(0, vr 3 a), (2, vi x2), (3, vi x3)]) (st1 := [vi (gI s t ((x3 - 1).toNatClampNeg))]) (h1 := xhp s) 4 (fun _ _ _ _ => rfl) g.1 ?_
    replace g := g.2
    refine xW.call (y := 192) (as := [vi (gI s t ((x3 - 1).toNatClampNeg))]) (h0 := xhp s) (pc0 := 53) (len := 3) (L0 := [(0, vr 3 a), (2, vi x2), (3, vi x3)]) (rest := []) 1 (fun _ _ _ _ => rfl) (m192 _ _ ?_)
    show xW (xX0 xs Ls) p189 56 [(0, vr 3 a), (2, vi x2), (3, vi x3)] [vi (ro_tightness (gI s t ((x3 - 1).toNatClampNeg)))] (xhp s) Φ
    refine xW.br (c := (ro_tightness (gI s t ((x3 - 1).toNatClampNeg))) < x2) (pc1 := 66) (L1 := [(0, vr 3 a), (2, vi x2), (3, vi x3)]) (st1 := []) (h1 := xhp s) (pc2 := 60) (L2 := [(0, vr 3 a), (2, vi x2), (3, vi x3)]) (st2 := []) (h2 := xhp s) 2 (fun _ _ _ _ => rfl) (fun hc => ?_) (fun hc => ?_)
    · replace g := g.1 hc
      exact xW.ret (v0 := some (vi x3)) (h1 := xhp s) 2 (fun _ _ _ _ => rfl) g
    · replace g := g.2 hc
      refine xW.seg (pc1 := 41) (L1 := [(3, vi (x3 + (-1))), (0, vr 3 a), (2, vi x2)]) (st1 := []) (h1 := xhp s) 2 (fun _ _ _ _ => rfl) ?_
      exact xW.locs (L := [(0, vr 3 a), (2, vi x2), (3, vi (x3 + (-1)))]) ⟨rfl, rfl, rfl, trivial⟩ rfl g
noncomputable def ro_leftBehind_41 : Nat → xS → Nat → Nat → Int32 → Int32 → Int32
  | 0, s, _, _, _, _ => 0
  | n + 1, s, a, t, x2, x3 => (if x3 ≤ 0 then x3 else (if (ro_tightness (gI s t ((x3 - 1).toNatClampNeg))) < x2 then x3 else (ro_leftBehind_41 n s a t x2 (x3 + (-1)))))
def ro_leftBehind_41_ok : Nat → xS → Nat → Nat → Int32 → Int32 → Prop
  | 0, _, _, _, _, _ => False
  | n + 1, s, a, t, x2, x3 => (¬ (x3 ≤ 0) → ((vp_in (x3 - 1) (xK0 t).2) ∧ (¬ ((ro_tightness (gI s t ((x3 - 1).toNatClampNeg))) < x2) → (ro_leftBehind_41_ok n s a t x2 (x3 + (-1))))))
set_option maxRecDepth 100000 in
theorem n189_41 {xs : Nat → Int32} {Ls : Nat} {Φ : Option xV → xH → Prop} (a : Nat) (t : Nat) (hR : xR0 a 0 = t + 1) (hK : (xK0 t).1 = 40) : ∀ (n : Nat) (s : xS) (x2 : Int32) (x3 : Int32), ro_leftBehind_41_ok n s a t x2 x3 → Φ (some (vi (ro_leftBehind_41 n s a t x2 x3))) (xhp s) → xW (xX0 xs Ls) p189 41 [(0, vr 3 a), (2, vi x2), (3, vi x3)] [] (xhp s) Φ := by
  intro n
  induction n with
  | zero => intro s _ _ gq; exact gq.elim
  | succ n ih =>
    intro s x2 x3 gq h
    unfold ro_leftBehind_41_ok at gq
    unfold ro_leftBehind_41 at h
    exact b189_41 s a t x2 x3 hR hK (⟨fun hc => by rw [if_pos hc] at h; exact h, fun hc => by rw [if_neg hc] at h; replace gq := gq hc; exact ⟨gq.1, by replace gq := gq.2; exact ⟨fun hc => by rw [if_pos hc] at h; exact h, fun hc => by rw [if_neg hc] at h; replace gq := gq hc; exact ih _ _ _ gq h⟩⟩⟩)
set_option maxRecDepth 100000 in
theorem b189_0 {xs : Nat → Int32} {Ls : Nat} {Φ : Option xV → xH → Prop} (s : xS) (a : Nat) (t : Nat) (k : Int32) (hR : xR0 a 0 = t + 1) (hK : (xK0 t).1 = 40) (g : ((¬ k = 40 → xW (xX0 xs Ls) p189 41 [(0, vr 3 a), (2, vi (if k = 61 then (0 : Int32) else (if k = 41 then (1 : Int32) else (ro_tightness k)))), (3, vi (gI s a 1))] [] (xhp s) Φ) ∧ (k = 40 → Φ (some (vi (gI s a 1))) (xhp s)))) : xW (xX0 xs Ls) p189 0 [(0, vr 3 a), (1, vi k)] [] (xhp s) Φ := by
  refine xW.br (c := ¬ k = 40) (pc1 := 11) (L1 := [(0, vr 3 a), (1, vi k)]) (st1 := []) (h1 := xhp s) (pc2 := 6) (L2 := [(0, vr 3 a), (1, vi k)]) (st2 := []) (h2 := xhp s) 3 (fun _ _ _ _ => rfl) (fun hc => ?_) (fun hc => ?_)
  · replace g := g.1 hc
    refine xW.seg (pc1 := 14) (L1 := [(0, vr 3 a), (1, vi k)]) (st1 := [vi 61, vi k]) (h1 := xhp s) 2 (fun _ _ _ _ => rfl) ?_
    suffices J : xW (xX0 xs Ls) p189 35 [(0, vr 3 a), (1, vi k)] [vi (if k = 61 then (0 : Int32) else (if k = 41 then (1 : Int32) else (ro_tightness k)))] (xhp s) Φ by
      refine xW.br (c := ¬ k = 61) (pc1 := 21) (L1 := [(0, vr 3 a), (1, vi k)]) (st1 := []) (h1 := xhp s) (pc2 := 17) (L2 := [(0, vr 3 a), (1, vi k)]) (st2 := []) (h2 := xhp s) 1 (fun _ _ _ _ => rfl) (fun hc => ?_) (fun hc => ?_)
      · have hc1 : ¬ k = 61 := hc
        refine xW.br (c := ¬ k = 41) (pc1 := 31) (L1 := [(0, vr 3 a), (1, vi k)]) (st1 := []) (h1 := xhp s) (pc2 := 27) (L2 := [(0, vr 3 a), (1, vi k)]) (st2 := []) (h2 := xhp s) 3 (fun _ _ _ _ => rfl) (fun hc => ?_) (fun hc => ?_)
        · have hc2 : ¬ k = 41 := hc
          refine xW.call (y := 192) (as := [vi k]) (h0 := xhp s) (pc0 := 32) (len := 3) (L0 := [(0, vr 3 a), (1, vi k)]) (rest := []) 2 (fun _ _ _ _ => rfl) (m192 _ _ ?_)
          show xW (xX0 xs Ls) p189 35 [(0, vr 3 a), (1, vi k)] [vi (ro_tightness k)] (xhp s) Φ
          refine xW.to (v := vi (if k = 61 then (0 : Int32) else (if k = 41 then (1 : Int32) else (ro_tightness k)))) ((congrArg vi ((if_neg hc1).trans (if_neg hc2))).symm) ?_
          exact J
        · have hc2 : k = 41 := (Decidable.not_not.mp hc)
          refine xW.seg (pc1 := 35) (L1 := [(0, vr 3 a), (1, vi k)]) (st1 := [vi 1]) (h1 := xhp s) 2 (fun _ _ _ _ => rfl) ?_
          refine xW.to (v := vi (if k = 61 then (0 : Int32) else (if k = 41 then (1 : Int32) else (ro_tightness k)))) ((congrArg vi ((if_neg hc1).trans (if_pos hc2))).symm) ?_
          exact J
      · have hc1 : k = 61 := (Decidable.not_not.mp hc)
        refine xW.seg (pc1 := 35) (L1 := [(0, vr 3 a), (1, vi k)]) (st1 := [vi 0]) (h1 := xhp s) 2 (fun _ _ _ _ => rfl) ?_
        refine xW.to (v := vi (if k = 61 then (0 : Int32) else (if k = 41 then (1 : Int32) else (ro_tightness k)))) ((congrArg vi (if_pos hc1)).symm) ?_
        exact J
    refine xW.seg (pc1 := 41) (L1 := [(3, vi (gI s a 1)), (2, vi (if k = 61 then (0 : Int32) else (if k = 41 then (1 : Int32) else (ro_tightness k)))), (0, vr 3 a), (1, vi k)]) (st1 := []) (h1 := xhp s) 4 (fun _ _ _ _ => rfl) ?_
    exact xW.locs (L := [(0, vr 3 a), (2, vi (if k = 61 then (0 : Int32) else (if k = 41 then (1 : Int32) else (ro_tightness k)))), (3, vi (gI s a 1))]) ⟨rfl, rfl, rfl, trivial⟩ rfl g
  · replace g := g.2 (Decidable.not_not.mp hc)
    exact xW.ret (v0 := some (vi (gI s a 1))) (h1 := xhp s) 3 (fun _ _ _ _ => rfl) g
noncomputable def ro_leftBehind (s : xS) (a : Nat) (t : Nat) (k : Int32) : Int32 := (if ¬ k = 40 then (ro_leftBehind_41 xfu s a t (if k = 61 then (0 : Int32) else (if k = 41 then (1 : Int32) else (ro_tightness k))) (gI s a 1)) else (gI s a 1))
def ro_leftBehind_ok (s : xS) (a : Nat) (t : Nat) (k : Int32) : Prop := (¬ k = 40 → (ro_leftBehind_41_ok xfu s a t (if k = 61 then (0 : Int32) else (if k = 41 then (1 : Int32) else (ro_tightness k))) (gI s a 1)))
set_option maxRecDepth 100000 in
theorem m189 {xs : Nat → Int32} {Ls : Nat} {Ψ : xO → xH → Prop} (s : xS) (a : Nat) (t : Nat) (k : Int32) (hR : xR0 a 0 = t + 1) (hK : (xK0 t).1 = 40) (gq : ro_leftBehind_ok s a t k) (h : Ψ (.inl (some (vi (ro_leftBehind s a t k)))) (xhp s)) : xM (xX0 xs Ls) 189 [vr 3 a, vi k] (xhp s) Ψ := by
  unfold ro_leftBehind at h
  unfold ro_leftBehind_ok at gq
  exact xM.of (P := p189) rfl rfl rfl (b189_0 s a t k hR hK (⟨fun hc => by rw [if_pos hc] at h; replace gq := gq hc; exact n189_41 _ _ hR hK _ _ _ _ gq h, fun hc => by rw [if_neg (fun z => z hc)] at h; exact h⟩))
/-! ro_isFullFor -/
theorem b190_0 {xs : Nat → Int32} {Ls : Nat} {Φ : Option xV → xH → Prop} (s : xS) (a : Nat) (k : Int32) (f : Int32) (g : Φ (some (vi (zb ((!decide (f < 8)) && ((decide (k = 40)) || (te_isOperation k)))))) (xhp s)) : xW (xX0 xs Ls) p190 0 [(0, vr 3 a), (1, vi k), (2, vi f)] [] (xhp s) Φ := by
  refine xW.seg (pc1 := 3) (L1 := [(0, vr 3 a), (1, vi k), (2, vi f)]) (st1 := [vi 8, vi f]) (h1 := xhp s) 2 (fun _ _ _ _ => rfl) ?_
  suffices J : xW (xX0 xs Ls) p190 24 [(0, vr 3 a), (1, vi k), (2, vi f)] [vi (zb ((!decide (f < 8)) && ((decide (k = 40)) || (te_isOperation k))))] (xhp s) Φ by
    refine xW.br (c := f < 8) (pc1 := 23) (L1 := [(0, vr 3 a), (1, vi k), (2, vi f)]) (st1 := []) (h1 := xhp s) (pc2 := 6) (L2 := [(0, vr 3 a), (1, vi k), (2, vi f)]) (st2 := []) (h2 := xhp s) 1 (fun _ _ _ _ => rfl) (fun hc => ?_) (fun hc => ?_)
    · have hc1 : f < 8 := hc
      refine xW.seg (pc1 := 24) (L1 := [(0, vr 3 a), (1, vi k), (2, vi f)]) (st1 := [vi 0]) (h1 := xhp s) 1 (fun _ _ _ _ => rfl) ?_
      refine xW.to (v := vi (zb ((!decide (f < 8)) && ((decide (k = 40)) || (te_isOperation k))))) (zb_f (by simp only [decide_eq_true hc1, Bool.true_or, Bool.or_true, Bool.false_or, Bool.or_false, Bool.true_and, Bool.and_true, Bool.false_and, Bool.and_false, Bool.not_true, Bool.not_false, cond_true, cond_false])) ?_
      exact J
    · have hc1 : ¬ (f < 8) := hc
      refine xW.br (c := k = 40) (pc1 := 19) (L1 := [(0, vr 3 a), (1, vi k), (2, vi f)]) (st1 := []) (h1 := xhp s) (pc2 := 12) (L2 := [(0, vr 3 a), (1, vi k), (2, vi f)]) (st2 := []) (h2 := xhp s) 3 (fun _ _ _ _ => rfl) (fun hc => ?_) (fun hc => ?_)
      · have hc2 : k = 40 := hc
        refine xW.seg (pc1 := 24) (L1 := [(0, vr 3 a), (1, vi k), (2, vi f)]) (st1 := [vi 1]) (h1 := xhp s) 2 (fun _ _ _ _ => rfl) ?_
        refine xW.to (v := vi (zb ((!decide (f < 8)) && ((decide (k = 40)) || (te_isOperation k))))) (zb_t (by simp only [decide_eq_false hc1, decide_eq_true hc2, Bool.true_or, Bool.or_true, Bool.false_or, Bool.or_false, Bool.true_and, Bool.and_true, Bool.false_and, Bool.and_false, Bool.not_true, Bool.not_false, cond_true, cond_false])) ?_
        exact J
      · have hc2 : ¬ (k = 40) := hc
        refine xW.call (y := 25) (as := [vi k]) (h0 := xhp s) (pc0 := 13) (len := 3) (L0 := [(0, vr 3 a), (1, vi k), (2, vi f)]) (rest := []) 2 (fun _ _ _ _ => rfl) (m25 _ _ ?_)
        show xW (xX0 xs Ls) p190 16 [(0, vr 3 a), (1, vi k), (2, vi f)] [vi (zb (te_isOperation k))] (xhp s) Φ
        refine xW.br (c := (zb (te_isOperation k)) = 0) (pc1 := 23) (L1 := [(0, vr 3 a), (1, vi k), (2, vi f)]) (st1 := []) (h1 := xhp s) (pc2 := 19) (L2 := [(0, vr 3 a), (1, vi k), (2, vi f)]) (st2 := []) (h2 := xhp s) 1 (fun _ _ _ _ => rfl) (fun hc => ?_) (fun hc => ?_)
        · have hc3 : (te_isOperation k) = false := (zb_eq0.mp hc)
          refine xW.seg (pc1 := 24) (L1 := [(0, vr 3 a), (1, vi k), (2, vi f)]) (st1 := [vi 0]) (h1 := xhp s) 1 (fun _ _ _ _ => rfl) ?_
          refine xW.to (v := vi (zb ((!decide (f < 8)) && ((decide (k = 40)) || (te_isOperation k))))) (zb_f (by simp only [decide_eq_false hc1, decide_eq_false hc2, hc3, Bool.true_or, Bool.or_true, Bool.false_or, Bool.or_false, Bool.true_and, Bool.and_true, Bool.false_and, Bool.and_false, Bool.not_true, Bool.not_false, cond_true, cond_false])) ?_
          exact J
        · have hc3 : (te_isOperation k) = true := (zb_ne0.mp hc)
          refine xW.seg (pc1 := 24) (L1 := [(0, vr 3 a), (1, vi k), (2, vi f)]) (st1 := [vi 1]) (h1 := xhp s) 2 (fun _ _ _ _ => rfl) ?_
          refine xW.to (v := vi (zb ((!decide (f < 8)) && ((decide (k = 40)) || (te_isOperation k))))) (zb_t (by simp only [decide_eq_false hc1, decide_eq_false hc2, hc3, Bool.true_or, Bool.or_true, Bool.false_or, Bool.or_false, Bool.true_and, Bool.and_true, Bool.false_and, Bool.and_false, Bool.not_true, Bool.not_false, cond_true, cond_false])) ?_
          exact J
  exact xW.retz (v0 := some (vi (zb ((!decide (f < 8)) && ((decide (k = 40)) || (te_isOperation k)))))) (h1 := xhp s) (c := (zb ((!decide (f < 8)) && ((decide (k = 40)) || (te_isOperation k)))) = 0 ∨ (zb ((!decide (f < 8)) && ((decide (k = 40)) || (te_isOperation k)))) = 1) 1 (fun _ _ _ _ => rfl) (zb01 _) g
noncomputable def ro_isFullFor (a : Nat) (k : Int32) (f : Int32) : Bool := ((!decide (f < 8)) && ((decide (k = 40)) || (te_isOperation k)))
set_option maxRecDepth 100000 in
theorem m190 {xs : Nat → Int32} {Ls : Nat} {Ψ : xO → xH → Prop} (s : xS) (a : Nat) (k : Int32) (f : Int32) (h : Ψ (.inl (some (vi (zb (ro_isFullFor a k f))))) (xhp s)) : xM (xX0 xs Ls) 190 [vr 3 a, vi k, vi f] (xhp s) Ψ := by
  unfold ro_isFullFor at h
  exact xM.of (P := p190) rfl rfl rfl (b190_0 s a k f (h))
/-! ro_follow -/
theorem b191_0 {xs : Nat → Int32} {Ls : Nat} {Φ : Option xV → xH → Prop} (s : xS) (a : Nat) (t : Nat) (k : Int32) (f : Int32) (hR : xR0 a 0 = t + 1) (hK : (xK0 t).1 = 40) (g : ((¬ k = 61 → ((¬ k = 41 → ((8 ≤ f → Φ none (xhp s)) ∧ (¬ (8 ≤ f) → ((vp_in f (xK0 t).2) ∧ Φ none (xhp (sI (sI (sI s t f.toNatClampNeg k) a 1 (f + 1)) a 2 1)))))) ∧ (k = 41 → Φ none (xhp (sI (sI s a 1 (imax (f - 1) 0)) a 2 2))))) ∧ (k = 61 → Φ none (xhp (ro_clear s a))))) : xW (xX0 xs Ls) p191 0 [(0, vr 3 a), (1, vi k), (2, vi f)] [] (xhp s) Φ := by
  refine xW.br (c := ¬ k = 61) (pc1 := 13) (L1 := [(0, vr 3 a), (1, vi k), (2, vi f)]) (st1 := []) (h1 := xhp s) (pc2 := 6) (L2 := [(0, vr 3 a), (1, vi k), (2, vi f)]) (st2 := []) (h2 := xhp s) 3 (fun _ _ _ _ => rfl) (fun hc => ?_) (fun hc => ?_)
  · replace g := g.1 hc
    refine xW.br (c := ¬ k = 41) (pc1 := 38) (L1 := [(0, vr 3 a), (1, vi k), (2, vi f)]) (st1 := []) (h1 := xhp s) (pc2 := 19) (L2 := [(0, vr 3 a), (1, vi k), (2, vi f)]) (st2 := []) (h2 := xhp s) 3 (fun _ _ _ _ => rfl) (fun hc => ?_) (fun hc => ?_)
    · replace g := g.1 hc
      refine xW.br (c := 8 ≤ f) (pc1 := 63) (L1 := [(0, vr 3 a), (1, vi k), (2, vi f)]) (st1 := []) (h1 := xhp s) (pc2 := 44) (L2 := [(0, vr 3 a), (1, vi k), (2, vi f)]) (st2 := []) (h2 := xhp s) 3 (fun _ _ _ _ => rfl) (fun hc => ?_) (fun hc => ?_)
      · replace g := g.1 hc
        exact xW.ret (v0 := none) (h1 := xhp s) 1 (fun _ _ _ _ => rfl) g
      · replace g := g.2 hc
        refine xW.refg (r := xR0 a 0) (a := t) (kind := 40) (h0 := xhp s) (pc1 := 48) (L1 := [(0, vr 3 a), (1, vi k), (2, vi f)]) (st1 := []) (h1 := xhp s) 2 (fun _ _ _ _ => rfl) hR hK ?_
        refine xW.side (c := vp_in f (xK0 t).2) (pc1 := 51) (L1 := [(0, vr 3 a), (1, vi k), (2, vi f)]) (st1 := []) (h1 := xhp (sI s t f.toNatClampNeg k)) 3 (fun _ _ _ _ => rfl) g.1 ?_
        replace g := g.2
        exact xW.ret (v0 := none) (h1 := xhp (sI (sI (sI s t f.toNatClampNeg k) a 1 (f + 1)) a 2 1)) 9 (fun _ _ _ _ => rfl) g
    · replace g := g.2 (Decidable.not_not.mp hc)
      exact xW.ret (v0 := none) (h1 := xhp (sI (sI s a 1 (imax (f - 1) 0)) a 2 2)) 12 (fun _ _ _ _ => rfl) g
  · replace g := g.2 (Decidable.not_not.mp hc)
    refine xW.call (y := 185) (as := [vr 3 a]) (h0 := xhp s) (pc0 := 7) (len := 3) (L0 := [(0, vr 3 a), (1, vi k), (2, vi f)]) (rest := []) 2 (fun _ _ _ _ => rfl) (m185 _ _ ?_)
    show xW (xX0 xs Ls) p191 10 [(0, vr 3 a), (1, vi k), (2, vi f)] [] (xhp (ro_clear s a)) Φ
    exact xW.ret (v0 := none) (h1 := xhp (ro_clear s a)) 2 (fun _ _ _ _ => rfl) g
noncomputable def ro_follow_d (s : xS) (a : Nat) (t : Nat) (k : Int32) (f : Int32) : xS := (if ¬ k = 61 then (if ¬ k = 41 then (if 8 ≤ f then s else (sI (sI (sI s t f.toNatClampNeg k) a 1 (f + 1)) a 2 1)) else (sI (sI s a 1 (imax (f - 1) 0)) a 2 2)) else (ro_clear s a))
noncomputable def ro_follow : xS → Nat → Nat → Int32 → Int32 → xS := Classical.choose (⟨ro_follow_d, rfl⟩ : ∃ f, f = ro_follow_d)
set_option maxRecDepth 100000 in
theorem ro_follow_eq : ro_follow = ro_follow_d := Classical.choose_spec (⟨ro_follow_d, rfl⟩ : ∃ f, f = ro_follow_d)
def ro_follow_ok (s : xS) (a : Nat) (t : Nat) (k : Int32) (f : Int32) : Prop := (¬ k = 61 → (¬ k = 41 → (¬ (8 ≤ f) → (vp_in f (xK0 t).2))))
set_option maxRecDepth 100000 in
theorem m191 {xs : Nat → Int32} {Ls : Nat} {Ψ : xO → xH → Prop} (s : xS) (a : Nat) (t : Nat) (k : Int32) (f : Int32) (hR : xR0 a 0 = t + 1) (hK : (xK0 t).1 = 40) (gq : ro_follow_ok s a t k f) (h : Ψ (.inl none) (xhp (ro_follow s a t k f))) : xM (xX0 xs Ls) 191 [vr 3 a, vi k, vi f] (xhp s) Ψ := by
  rw [ro_follow_eq] at h
  unfold ro_follow_d at h
  unfold ro_follow_ok at gq
  exact xM.of (P := p191) rfl rfl rfl (b191_0 s a t k f hR hK (⟨fun hc => by rw [if_pos hc] at h; replace gq := gq hc; exact ⟨fun hc => by rw [if_pos hc] at h; replace gq := gq hc; exact ⟨fun hc => by rw [if_pos hc] at h; exact h, fun hc => by rw [if_neg hc] at h; replace gq := gq hc; exact ⟨gq, h⟩⟩, fun hc => by rw [if_neg (fun z => z hc)] at h; exact h⟩, fun hc => by rw [if_neg (fun z => z hc)] at h; exact h⟩))
