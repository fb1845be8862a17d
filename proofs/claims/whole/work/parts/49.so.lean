/-! so_takeValueOf -/
theorem b197_0 {xs : Nat → Int32} {Ls : Nat} {Φ : Option xV → xH → Prop} (s : xS) (a : Nat) (g : (((gI s 38 0) < 100 → Φ (some (vi 0)) (xhp (pr_begin (dk_fill (de_set (sI s 38 0 ((gI s 38 0) + 1)) 43 a) a) (gI (dk_fill (de_set (sI s 38 0 ((gI s 38 0) + 1)) 43 a) a) 38 1)))) ∧ (¬ ((gI s 38 0) < 100) → Φ (some (vi 9)) (xhp s)))) : xW (xX0 xs Ls) p197 0 [(0, vr 8 38), (1, vr 5 a), (2, vr 2 2), (3, vr 7 35)] [] (xhp s) Φ := by
  refine xW.br (c := (gI s 38 0) < 100) (pc1 := 12) (L1 := [(0, vr 8 38), (1, vr 5 a), (2, vr 2 2), (3, vr 7 35)]) (st1 := []) (h1 := xhp s) (pc2 := 9) (L2 := [(0, vr 8 38), (1, vr 5 a), (2, vr 2 2), (3, vr 7 35)]) (st2 := []) (h2 := xhp s) 4 (fun _ _ _ _ => rfl) (fun hc => ?_) (fun hc => ?_)
  · replace g := g.1 hc
    refine xW.call (y := 137) (as := [vr 5 43, vr 5 a]) (h0 := xhp (sI s 38 0 ((gI s 38 0) + 1))) (pc0 := 27) (len := 3) (L0 := [(0, vr 8 38), (1, vr 5 a), (2, vr 2 2), (3, vr 7 35)]) (rest := []) 10 (fun _ _ _ _ => rfl) (m137 _ _ _ ?_)
    show xW (xX0 xs Ls) p197 30 [(0, vr 8 38), (1, vr 5 a), (2, vr 2 2), (3, vr 7 35)] [] (xhp (de_set (sI s 38 0 ((gI s 38 0) + 1)) 43 a)) Φ
    refine xW.call (y := 147) (as := [vr 2 2, vr 5 a]) (h0 := xhp (de_set (sI s 38 0 ((gI s 38 0) + 1)) 43 a)) (pc0 := 32) (len := 3) (L0 := [(0, vr 8 38), (1, vr 5 a), (2, vr 2 2), (3, vr 7 35)]) (rest := []) 3 (fun _ _ _ _ => rfl) (m147 _ _ ?_)
    show xW (xX0 xs Ls) p197 35 [(0, vr 8 38), (1, vr 5 a), (2, vr 2 2), (3, vr 7 35)] [] (xhp (dk_fill (de_set (sI s 38 0 ((gI s 38 0) + 1)) 43 a) a)) Φ
    refine xW.call (y := 178) (as := [vr 7 35, vi (gI (dk_fill (de_set (sI s 38 0 ((gI s 38 0) + 1)) 43 a) a) 38 1)]) (h0 := xhp (dk_fill (de_set (sI s 38 0 ((gI s 38 0) + 1)) 43 a) a)) (pc0 := 40) (len := 3) (L0 := [(0, vr 8 38), (1, vr 5 a), (2, vr 2 2), (3, vr 7 35)]) (rest := []) 4 (fun _ _ _ _ => rfl) (m178 _ _ ?_)
    show xW (xX0 xs Ls) p197 43 [(0, vr 8 38), (1, vr 5 a), (2, vr 2 2), (3, vr 7 35)] [] (xhp (pr_begin (dk_fill (de_set (sI s 38 0 ((gI s 38 0) + 1)) 43 a) a) (gI (dk_fill (de_set (sI s 38 0 ((gI s 38 0) + 1)) 43 a) a) 38 1))) Φ
    exact xW.ret (v0 := some (vi 0)) (h1 := xhp (pr_begin (dk_fill (de_set (sI s 38 0 ((gI s 38 0) + 1)) 43 a) a) (gI (dk_fill (de_set (sI s 38 0 ((gI s 38 0) + 1)) 43 a) a) 38 1))) 2 (fun _ _ _ _ => rfl) g
  · replace g := g.2 hc
    exact xW.ret (v0 := some (vi 9)) (h1 := xhp s) 2 (fun _ _ _ _ => rfl) g
noncomputable def so_takeValueOf_d (s : xS) (a : Nat) : Int32 × xS := (if (gI s 38 0) < 100 then (0, (pr_begin (dk_fill (de_set (sI s 38 0 ((gI s 38 0) + 1)) 43 a) a) (gI (dk_fill (de_set (sI s 38 0 ((gI s 38 0) + 1)) 43 a) a) 38 1))) else (9, s))
noncomputable def so_takeValueOf : xS → Nat → Int32 × xS := Classical.choose (⟨so_takeValueOf_d, rfl⟩ : ∃ f, f = so_takeValueOf_d)
set_option maxRecDepth 100000 in
theorem so_takeValueOf_eq : so_takeValueOf = so_takeValueOf_d := Classical.choose_spec (⟨so_takeValueOf_d, rfl⟩ : ∃ f, f = so_takeValueOf_d)
set_option maxRecDepth 100000 in
theorem m197 {xs : Nat → Int32} {Ls : Nat} {Ψ : xO → xH → Prop} (s : xS) (a : Nat) (h : Ψ (.inl (some (vi (so_takeValueOf s a).1))) (xhp (so_takeValueOf s a).2)) : xM (xX0 xs Ls) 197 [vr 8 38, vr 5 a, vr 2 2, vr 7 35] (xhp s) Ψ := by
  rw [so_takeValueOf_eq] at h
  unfold so_takeValueOf_d at h
  exact xM.of (P := p197) rfl rfl rfl (b197_0 s a (⟨fun hc => by rw [if_pos hc] at h; exact (by (try dsimp only at h); exact h), fun hc => by rw [if_neg hc] at h; exact (by (try dsimp only at h); exact h)⟩))
/-! so_find -/
theorem b198_0 {xs : Nat → Int32} {Ls : Nat} {Φ : Option xV → xH → Prop} (s : xS) (a : Nat) (b : Nat) (g : Φ (some (vi (-1))) (xhp (de_set (de_set (de_set (dk_fill s a) 19 b) 20 39) 21 40))) : xW (xX0 xs Ls) p198 0 [(0, vr 8 38), (1, vr 5 a), (2, vr 5 b), (3, vr 2 2)] [] (xhp s) Φ := by
  refine xW.call (y := 147) (as := [vr 2 2, vr 5 a]) (h0 := xhp s) (pc0 := 2) (len := 3) (L0 := [(0, vr 8 38), (1, vr 5 a), (2, vr 5 b), (3, vr 2 2)]) (rest := []) 3 (fun _ _ _ _ => rfl) (m147 _ _ ?_)
  show xW (xX0 xs Ls) p198 5 [(0, vr 8 38), (1, vr 5 a), (2, vr 5 b), (3, vr 2 2)] [] (xhp (dk_fill s a)) Φ
  refine xW.call (y := 137) (as := [vr 5 19, vr 5 b]) (h0 := xhp (dk_fill s a)) (pc0 := 10) (len := 3) (L0 := [(0, vr 8 38), (1, vr 5 a), (2, vr 5 b), (3, vr 2 2)]) (rest := []) 4 (fun _ _ _ _ => rfl) (m137 _ _ _ ?_)
  show xW (xX0 xs Ls) p198 13 [(0, vr 8 38), (1, vr 5 a), (2, vr 5 b), (3, vr 2 2)] [] (xhp (de_set (dk_fill s a) 19 b)) Φ
  refine xW.call (y := 137) (as := [vr 5 20, vr 5 39]) (h0 := xhp (de_set (dk_fill s a) 19 b)) (pc0 := 21) (len := 3) (L0 := [(0, vr 8 38), (1, vr 5 a), (2, vr 5 b), (3, vr 2 2)]) (rest := []) 5 (fun _ _ _ _ => rfl) (m137 _ _ _ ?_)
  show xW (xX0 xs Ls) p198 24 [(0, vr 8 38), (1, vr 5 a), (2, vr 5 b), (3, vr 2 2)] [] (xhp (de_set (de_set (dk_fill s a) 19 b) 20 39)) Φ
  refine xW.call (y := 137) (as := [vr 5 21, vr 5 40]) (h0 := xhp (de_set (de_set (dk_fill s a) 19 b) 20 39)) (pc0 := 32) (len := 3) (L0 := [(0, vr 8 38), (1, vr 5 a), (2, vr 5 b), (3, vr 2 2)]) (rest := []) 5 (fun _ _ _ _ => rfl) (m137 _ _ _ ?_)
  show xW (xX0 xs Ls) p198 35 [(0, vr 8 38), (1, vr 5 a), (2, vr 5 b), (3, vr 2 2)] [] (xhp (de_set (de_set (de_set (dk_fill s a) 19 b) 20 39) 21 40)) Φ
  exact xW.ret (v0 := some (vi (-1))) (h1 := xhp (de_set (de_set (de_set (dk_fill s a) 19 b) 20 39) 21 40)) 2 (fun _ _ _ _ => rfl) g
noncomputable def so_find_d (s : xS) (a : Nat) (b : Nat) : Int32 × xS := ((-1), (de_set (de_set (de_set (dk_fill s a) 19 b) 20 39) 21 40))
noncomputable def so_find : xS → Nat → Nat → Int32 × xS := Classical.choose (⟨so_find_d, rfl⟩ : ∃ f, f = so_find_d)
set_option maxRecDepth 100000 in
theorem so_find_eq : so_find = so_find_d := Classical.choose_spec (⟨so_find_d, rfl⟩ : ∃ f, f = so_find_d)
set_option maxRecDepth 100000 in
theorem m198 {xs : Nat → Int32} {Ls : Nat} {Ψ : xO → xH → Prop} (s : xS) (a : Nat) (b : Nat) (h : Ψ (.inl (some (vi (so_find s a b).1))) (xhp (so_find s a b).2)) : xM (xX0 xs Ls) 198 [vr 8 38, vr 5 a, vr 5 b, vr 2 2] (xhp s) Ψ := by
  rw [so_find_eq] at h
  unfold so_find_d at h
  exact xM.of (P := p198) rfl rfl rfl (b198_0 s a b ((by (try dsimp only at h); exact h)))
/-! so_begin -/
theorem b194_0 {xs : Nat → Int32} {Ls : Nat} {Φ : Option xV → xH → Prop} (s : xS) (f : Int32) (g : Φ none (xhp ((so_takeValueOf (de_set (de_set (sI (sI s 38 1 f) 38 0 0) 39 19) 40 18) 39).2))) : xW (xX0 xs Ls) p194 0 [(0, vr 8 38), (1, vi f), (2, vr 2 2), (3, vr 7 35)] [] (xhp s) Φ := by
  refine xW.call (y := 137) (as := [vr 5 39, vr 5 19]) (h0 := xhp (sI (sI s 38 1 f) 38 0 0)) (pc0 := 18) (len := 3) (L0 := [(0, vr 8 38), (1, vi f), (2, vr 2 2), (3, vr 7 35)]) (rest := []) 11 (fun _ _ _ _ => rfl) (m137 _ _ _ ?_)
  show xW (xX0 xs Ls) p194 21 [(0, vr 8 38), (1, vi f), (2, vr 2 2), (3, vr 7 35)] [] (xhp (de_set (sI (sI s 38 1 f) 38 0 0) 39 19)) Φ
  refine xW.call (y := 137) (as := [vr 5 40, vr 5 18]) (h0 := xhp (de_set (sI (sI s 38 1 f) 38 0 0) 39 19)) (pc0 := 29) (len := 3) (L0 := [(0, vr 8 38), (1, vi f), (2, vr 2 2), (3, vr 7 35)]) (rest := []) 5 (fun _ _ _ _ => rfl) (m137 _ _ _ ?_)
  show xW (xX0 xs Ls) p194 32 [(0, vr 8 38), (1, vi f), (2, vr 2 2), (3, vr 7 35)] [] (xhp (de_set (de_set (sI (sI s 38 1 f) 38 0 0) 39 19) 40 18)) Φ
  refine xW.call (y := 197) (as := [vr 8 38, vr 5 39, vr 2 2, vr 7 35]) (h0 := xhp (de_set (de_set (sI (sI s 38 1 f) 38 0 0) 39 19) 40 18)) (pc0 := 39) (len := 3) (L0 := [(0, vr 8 38), (1, vi f), (2, vr 2 2), (3, vr 7 35)]) (rest := []) 6 (fun _ _ _ _ => rfl) (m197 _ _ ?_)
  show xW (xX0 xs Ls) p194 42 [(0, vr 8 38), (1, vi f), (2, vr 2 2), (3, vr 7 35)] [vi ((so_takeValueOf (de_set (de_set (sI (sI s 38 1 f) 38 0 0) 39 19) 40 18) 39).1)] (xhp ((so_takeValueOf (de_set (de_set (sI (sI s 38 1 f) 38 0 0) 39 19) 40 18) 39).2)) Φ
  exact xW.ret (v0 := none) (h1 := xhp ((so_takeValueOf (de_set (de_set (sI (sI s 38 1 f) 38 0 0) 39 19) 40 18) 39).2)) 2 (fun _ _ _ _ => rfl) g
noncomputable def so_begin_d (s : xS) (f : Int32) : xS := ((so_takeValueOf (de_set (de_set (sI (sI s 38 1 f) 38 0 0) 39 19) 40 18) 39).2)
noncomputable def so_begin : xS → Int32 → xS := Classical.choose (⟨so_begin_d, rfl⟩ : ∃ f, f = so_begin_d)
set_option maxRecDepth 100000 in
theorem so_begin_eq : so_begin = so_begin_d := Classical.choose_spec (⟨so_begin_d, rfl⟩ : ∃ f, f = so_begin_d)
set_option maxRecDepth 100000 in
theorem m194 {xs : Nat → Int32} {Ls : Nat} {Ψ : xO → xH → Prop} (s : xS) (f : Int32) (h : Ψ (.inl none) (xhp (so_begin s f))) : xM (xX0 xs Ls) 194 [vr 8 38, vi f, vr 2 2, vr 7 35] (xhp s) Ψ := by
  rw [so_begin_eq] at h
  unfold so_begin_d at h
  exact xM.of (P := p194) rfl rfl rfl (b194_0 s f (h))
/-! so_halve -/
theorem b196_125 {xs : Nat → Int32} {Ls : Nat} {Φ : Option xV → xH → Prop} (s : xS) (g : (((de_isSmallerInSize s 42 41) = false → Φ (some (vi ((so_find s 39 41).1))) (xhp ((so_find s 39 41).2))) ∧ ((de_isSmallerInSize s 42 41) = true → Φ (some (vi ((so_find s 40 42).1))) (xhp ((so_find s 40 42).2))))) : xW (xX0 xs Ls) p196 125 [(0, vr 8 38), (1, vr 1 1)] [] (xhp s) Φ := by
  refine xW.call (y := 142) (as := [vr 5 42, vr 5 41]) (h0 := xhp s) (pc0 := 133) (len := 3) (L0 := [(0, vr 8 38), (1, vr 1 1)]) (rest := []) 5 (fun _ _ _ _ => rfl) (m142 _ _ _ ?_)
  show xW (xX0 xs Ls) p196 136 [(0, vr 8 38), (1, vr 1 1)] [vi (zb (de_isSmallerInSize s 42 41))] (xhp s) Φ
  refine xW.br (c := (zb (de_isSmallerInSize s 42 41)) = 0) (pc1 := 156) (L1 := [(0, vr 8 38), (1, vr 1 1)]) (st1 := []) (h1 := xhp s) (pc2 := 139) (L2 := [(0, vr 8 38), (1, vr 1 1)]) (st2 := []) (h2 := xhp s) 1 (fun _ _ _ _ => rfl) (fun hc => ?_) (fun hc => ?_)
  · replace g := g.1 (zb_eq0.mp hc)
    refine xW.call (y := 198) (as := [vr 8 38, vr 5 39, vr 5 41, vr 2 2]) (h0 := xhp s) (pc0 := 169) (len := 3) (L0 := [(0, vr 8 38), (1, vr 1 1)]) (rest := []) 8 (fun _ _ _ _ => rfl) (m198 _ _ _ ?_)
    show xW (xX0 xs Ls) p196 172 [(0, vr 8 38), (1, vr 1 1)] [vi ((so_find s 39 41).1)] (xhp ((so_find s 39 41).2)) Φ
    exact xW.ret (v0 := some (vi ((so_find s 39 41).1))) (h1 := xhp ((so_find s 39 41).2)) 1 (fun _ _ _ _ => rfl) g
  · replace g := g.2 (zb_ne0.mp hc)
    refine xW.call (y := 198) (as := [vr 8 38, vr 5 40, vr 5 42, vr 2 2]) (h0 := xhp s) (pc0 := 152) (len := 3) (L0 := [(0, vr 8 38), (1, vr 1 1)]) (rest := []) 8 (fun _ _ _ _ => rfl) (m198 _ _ _ ?_)
    show xW (xX0 xs Ls) p196 155 [(0, vr 8 38), (1, vr 1 1)] [vi ((so_find s 40 42).1)] (xhp ((so_find s 40 42).2)) Φ
    exact xW.ret (v0 := some (vi ((so_find s 40 42).1))) (h1 := xhp ((so_find s 40 42).2)) 1 (fun _ _ _ _ => rfl) g
noncomputable def so_halve_125_d (s : xS) : Int32 × xS := (if (de_isSmallerInSize s 42 41) = false then (so_find s 39 41) else (so_find s 40 42))
noncomputable def so_halve_125 : xS → Int32 × xS := Classical.choose (⟨so_halve_125_d, rfl⟩ : ∃ f, f = so_halve_125_d)
set_option maxRecDepth 100000 in
theorem so_halve_125_eq : so_halve_125 = so_halve_125_d := Classical.choose_spec (⟨so_halve_125_d, rfl⟩ : ∃ f, f = so_halve_125_d)
set_option maxRecDepth 100000 in
theorem n196_125 {xs : Nat → Int32} {Ls : Nat} {Φ : Option xV → xH → Prop} (s : xS) (h : Φ (some (vi (so_halve_125 s).1)) (xhp (so_halve_125 s).2)) : xW (xX0 xs Ls) p196 125 [(0, vr 8 38), (1, vr 1 1)] [] (xhp s) Φ := by
  rw [so_halve_125_eq] at h
  unfold so_halve_125_d at h
  exact b196_125 s (⟨fun hc => by rw [if_pos hc] at h; exact (by (try dsimp only at h); exact h), fun hc => by rw [if_neg (by rw [hc]; decide)] at h; exact (by (try dsimp only at h); exact h)⟩)
set_option maxRecDepth 100000 in
theorem b196_75 {xs : Nat → Int32} {Ls : Nat} {Φ : Option xV → xH → Prop} (s : xS) (x4 : Int32) (g : ((x4 = 0 → (((de_isSame s 45 39) = true → xW (xX0 xs Ls) p196 125 [(0, vr 8 38), (1, vr 1 1)] [] (xhp s) Φ) ∧ ((de_isSame s 45 39) = false → (((de_isSame s 45 40) = true → xW (xX0 xs Ls) p196 125 [(0, vr 8 38), (1, vr 1 1)] [] (xhp s) Φ) ∧ ((de_isSame s 45 40) = false → Φ (some (vi ((so_takeValueOf s 45).1))) (xhp ((so_takeValueOf s 45).2))))))) ∧ (¬ (x4 = 0) → Φ (some (vi x4)) (xhp s)))) : xW (xX0 xs Ls) p196 75 [(0, vr 8 38), (1, vr 1 1), (2, vr 7 35), (4, vi x4)] [] (xhp s) Φ := by
  refine xW.br (c := x4 = 0) (pc1 := 83) (L1 := [(0, vr 8 38), (1, vr 1 1), (2, vr 7 35), (4, vi x4)]) (st1 := []) (h1 := xhp s) (pc2 := 80) (L2 := [(0, vr 8 38), (1, vr 1 1), (2, vr 7 35), (4, vi x4)]) (st2 := []) (h2 := xhp s) 2 (fun _ _ _ _ => rfl) (fun hc => ?_) (fun hc => ?_)
  · replace g := g.1 hc
    refine xW.call (y := 141) (as := [vr 5 45, vr 5 39]) (h0 := xhp s) (pc0 := 91) (len := 3) (L0 := [(0, vr 8 38), (1, vr 1 1), (2, vr 7 35), (4, vi x4)]) (rest := []) 5 (fun _ _ _ _ => rfl) (m141 _ _ _ ?_)
    show xW (xX0 xs Ls) p196 94 [(0, vr 8 38), (1, vr 1 1), (2, vr 7 35), (4, vi x4)] [vi (zb (de_isSame s 45 39))] (xhp s) Φ
    refine xW.br (c := ¬ (zb (de_isSame s 45 39)) = 0) (pc1 := 125) (L1 := [(0, vr 8 38), (1, vr 1 1), (2, vr 7 35), (4, vi x4)]) (st1 := []) (h1 := xhp s) (pc2 := 97) (L2 := [(0, vr 8 38), (1, vr 1 1), (2, vr 7 35), (4, vi x4)]) (st2 := []) (h2 := xhp s) 1 (fun _ _ _ _ => rfl) (fun hc => ?_) (fun hc => ?_)
    · replace g := g.1 (zb_ne0.mp hc)
      exact xW.locs (L := [(0, vr 8 38), (1, vr 1 1)]) ⟨rfl, rfl, trivial⟩ rfl g
    · replace g := g.2 (zb_eq0.mp (Decidable.not_not.mp hc))
      refine xW.call (y := 141) (as := [vr 5 45, vr 5 40]) (h0 := xhp s) (pc0 := 105) (len := 3) (L0 := [(0, vr 8 38), (1, vr 1 1), (2, vr 7 35), (4, vi x4)]) (rest := []) 5 (fun _ _ _ _ => rfl) (m141 _ _ _ ?_)
      show xW (xX0 xs Ls) p196 108 [(0, vr 8 38), (1, vr 1 1), (2, vr 7 35), (4, vi x4)] [vi (zb (de_isSame s 45 40))] (xhp s) Φ
      refine xW.br (c := ¬ (zb (de_isSame s 45 40)) = 0) (pc1 := 125) (L1 := [(0, vr 8 38), (1, vr 1 1), (2, vr 7 35), (4, vi x4)]) (st1 := []) (h1 := xhp s) (pc2 := 111) (L2 := [(0, vr 8 38), (1, vr 1 1), (2, vr 7 35), (4, vi x4)]) (st2 := []) (h2 := xhp s) 1 (fun _ _ _ _ => rfl) (fun hc => ?_) (fun hc => ?_)
      · replace g := g.1 (zb_ne0.mp hc)
        exact xW.locs (L := [(0, vr 8 38), (1, vr 1 1)]) ⟨rfl, rfl, trivial⟩ rfl g
      · replace g := g.2 (zb_eq0.mp (Decidable.not_not.mp hc))
        refine xW.call (y := 197) (as := [vr 8 38, vr 5 45, vr 2 2, vr 7 35]) (h0 := xhp s) (pc0 := 121) (len := 3) (L0 := [(0, vr 8 38), (1, vr 1 1), (2, vr 7 35), (4, vi x4)]) (rest := []) 7 (fun _ _ _ _ => rfl) (m197 _ _ ?_)
        show xW (xX0 xs Ls) p196 124 [(0, vr 8 38), (1, vr 1 1), (2, vr 7 35), (4, vi x4)] [vi ((so_takeValueOf s 45).1)] (xhp ((so_takeValueOf s 45).2)) Φ
        exact xW.ret (v0 := some (vi ((so_takeValueOf s 45).1))) (h1 := xhp ((so_takeValueOf s 45).2)) 1 (fun _ _ _ _ => rfl) g
  · replace g := g.2 hc
    exact xW.ret (v0 := some (vi x4)) (h1 := xhp s) 2 (fun _ _ _ _ => rfl) g
noncomputable def so_halve_75_d (s : xS) (x4 : Int32) : Int32 × xS := (if x4 = 0 then (if (de_isSame s 45 39) = true then (so_halve_125 s) else (if (de_isSame s 45 40) = true then (so_halve_125 s) else (so_takeValueOf s 45))) else (x4, s))
noncomputable def so_halve_75 : xS → Int32 → Int32 × xS := Classical.choose (⟨so_halve_75_d, rfl⟩ : ∃ f, f = so_halve_75_d)
set_option maxRecDepth 100000 in
theorem so_halve_75_eq : so_halve_75 = so_halve_75_d := Classical.choose_spec (⟨so_halve_75_d, rfl⟩ : ∃ f, f = so_halve_75_d)
set_option maxRecDepth 100000 in
theorem n196_75 {xs : Nat → Int32} {Ls : Nat} {Φ : Option xV → xH → Prop} (s : xS) (x4 : Int32) (h : Φ (some (vi (so_halve_75 s x4).1)) (xhp (so_halve_75 s x4).2)) : xW (xX0 xs Ls) p196 75 [(0, vr 8 38), (1, vr 1 1), (2, vr 7 35), (4, vi x4)] [] (xhp s) Φ := by
  rw [so_halve_75_eq] at h
  unfold so_halve_75_d at h
  exact b196_75 s x4 (⟨fun hc => by rw [if_pos hc] at h; exact ⟨fun hc => by rw [if_pos hc] at h; exact n196_125 _ h, fun hc => by rw [if_neg (by rw [hc]; decide)] at h; exact ⟨fun hc => by rw [if_pos hc] at h; exact n196_125 _ h, fun hc => by rw [if_neg (by rw [hc]; decide)] at h; exact (by (try dsimp only at h); exact h)⟩⟩, fun hc => by rw [if_neg hc] at h; exact (by (try dsimp only at h); exact h)⟩)
set_option maxRecDepth 100000 in
theorem b196_50 {xs : Nat → Int32} {Ls : Nat} {Φ : Option xV → xH → Prop} (s : xS) (x4 : Int32) (g : ((¬ x4 = 0 → xW (xX0 xs Ls) p196 75 [(0, vr 8 38), (1, vr 1 1), (2, vr 7 35), (4, vi x4)] [] (xhp s) Φ) ∧ (x4 = 0 → ((ar_combine_ok s 43 39 45 45) ∧ xW (xX0 xs Ls) p196 75 [(0, vr 8 38), (1, vr 1 1), (2, vr 7 35), (4, vi ((ar_combine s 43 39 45 45).1))] [] (xhp ((ar_combine s 43 39 45 45).2)) Φ)))) : xW (xX0 xs Ls) p196 50 [(0, vr 8 38), (1, vr 1 1), (2, vr 7 35), (3, vr 6 31), (4, vi x4)] [] (xhp s) Φ := by
  refine xW.br (c := ¬ x4 = 0) (pc1 := 75) (L1 := [(0, vr 8 38), (1, vr 1 1), (2, vr 7 35), (3, vr 6 31), (4, vi x4)]) (st1 := []) (h1 := xhp s) (pc2 := 55) (L2 := [(0, vr 8 38), (1, vr 1 1), (2, vr 7 35), (3, vr 6 31), (4, vi x4)]) (st2 := []) (h2 := xhp s) 2 (fun _ _ _ _ => rfl) (fun hc => ?_) (fun hc => ?_)
  · replace g := g.1 hc
    exact xW.locs (L := [(0, vr 8 38), (1, vr 1 1), (2, vr 7 35), (4, vi x4)]) ⟨rfl, rfl, rfl, rfl, trivial⟩ rfl g
  · replace g := g.2 (Decidable.not_not.mp hc)
    refine xW.call (y := 116) (as := [vr 6 31, vi 43, vr 5 39, vr 5 45, vr 5 45]) (h0 := xhp s) (pc0 := 70) (len := 3) (L0 := [(0, vr 8 38), (1, vr 1 1), (2, vr 7 35), (3, vr 6 31), (4, vi x4)]) (rest := []) 9 (fun _ _ _ _ => rfl) (m116 _ _ _ _ _ g.1 ?_)
    show xW (xX0 xs Ls) p196 73 [(0, vr 8 38), (1, vr 1 1), (2, vr 7 35), (3, vr 6 31), (4, vi x4)] [vi ((ar_combine s 43 39 45 45).1)] (xhp ((ar_combine s 43 39 45 45).2)) Φ
    replace g := g.2
    refine xW.seg (pc1 := 75) (L1 := [(4, vi ((ar_combine s 43 39 45 45).1)), (0, vr 8 38), (1, vr 1 1), (2, vr 7 35), (3, vr 6 31)]) (st1 := []) (h1 := xhp ((ar_combine s 43 39 45 45).2)) 1 (fun _ _ _ _ => rfl) ?_
    exact xW.locs (L := [(0, vr 8 38), (1, vr 1 1), (2, vr 7 35), (4, vi ((ar_combine s 43 39 45 45).1))]) ⟨rfl, rfl, rfl, rfl, trivial⟩ rfl g
noncomputable def so_halve_50_d (s : xS) (x4 : Int32) : Int32 × xS := (if ¬ x4 = 0 then (so_halve_75 s x4) else (so_halve_75 ((ar_combine s 43 39 45 45).2) ((ar_combine s 43 39 45 45).1)))
noncomputable def so_halve_50 : xS → Int32 → Int32 × xS := Classical.choose (⟨so_halve_50_d, rfl⟩ : ∃ f, f = so_halve_50_d)
set_option maxRecDepth 100000 in
theorem so_halve_50_eq : so_halve_50 = so_halve_50_d := Classical.choose_spec (⟨so_halve_50_d, rfl⟩ : ∃ f, f = so_halve_50_d)
def so_halve_50_ok (s : xS) (x4 : Int32) : Prop := (x4 = 0 → (ar_combine_ok s 43 39 45 45))
set_option maxRecDepth 100000 in
theorem n196_50 {xs : Nat → Int32} {Ls : Nat} {Φ : Option xV → xH → Prop} (s : xS) (x4 : Int32) (gq : so_halve_50_ok s x4) (h : Φ (some (vi (so_halve_50 s x4).1)) (xhp (so_halve_50 s x4).2)) : xW (xX0 xs Ls) p196 50 [(0, vr 8 38), (1, vr 1 1), (2, vr 7 35), (3, vr 6 31), (4, vi x4)] [] (xhp s) Φ := by
  rw [so_halve_50_eq] at h
  unfold so_halve_50_d at h
  unfold so_halve_50_ok at gq
  exact b196_50 s x4 (⟨fun hc => by rw [if_pos hc] at h; exact n196_75 _ _ h, fun hc => by rw [if_neg (fun z => z hc)] at h; replace gq := gq hc; exact ⟨gq, n196_75 _ _ h⟩⟩)
set_option maxRecDepth 100000 in
theorem b196_0 {xs : Nat → Int32} {Ls : Nat} {Φ : Option xV → xH → Prop} (s : xS) (g : ((ar_combine_ok s 45 40 39 45) ∧ ((¬ (ar_combine s 45 40 39 45).1 = 0 → xW (xX0 xs Ls) p196 50 [(0, vr 8 38), (1, vr 1 1), (2, vr 7 35), (3, vr 6 31), (4, vi ((ar_combine s 45 40 39 45).1))] [] (xhp ((ar_combine s 45 40 39 45).2)) Φ) ∧ ((ar_combine s 45 40 39 45).1 = 0 → ((ar_combine_ok ((ar_combine s 45 40 39 45).2) 47 45 46 45) ∧ xW (xX0 xs Ls) p196 50 [(0, vr 8 38), (1, vr 1 1), (2, vr 7 35), (3, vr 6 31), (4, vi ((ar_combine ((ar_combine s 45 40 39 45).2) 47 45 46 45).1))] [] (xhp ((ar_combine ((ar_combine s 45 40 39 45).2) 47 45 46 45).2)) Φ))))) : xW (xX0 xs Ls) p196 0 [(0, vr 8 38), (1, vr 1 1), (2, vr 7 35)] [] (xhp s) Φ := by
  refine xW.call (y := 116) (as := [vr 6 31, vi 45, vr 5 40, vr 5 39, vr 5 45]) (h0 := xhp s) (pc0 := 20) (len := 3) (L0 := [(3, vr 6 31), (0, vr 8 38), (1, vr 1 1), (2, vr 7 35)]) (rest := []) 12 (fun _ _ _ _ => rfl) (m116 _ _ _ _ _ g.1 ?_)
  show xW (xX0 xs Ls) p196 23 [(3, vr 6 31), (0, vr 8 38), (1, vr 1 1), (2, vr 7 35)] [vi ((ar_combine s 45 40 39 45).1)] (xhp ((ar_combine s 45 40 39 45).2)) Φ
  replace g := g.2
  refine xW.br (c := ¬ (ar_combine s 45 40 39 45).1 = 0) (pc1 := 50) (L1 := [(4, vi ((ar_combine s 45 40 39 45).1)), (3, vr 6 31), (0, vr 8 38), (1, vr 1 1), (2, vr 7 35)]) (st1 := []) (h1 := xhp ((ar_combine s 45 40 39 45).2)) (pc2 := 30) (L2 := [(4, vi ((ar_combine s 45 40 39 45).1)), (3, vr 6 31), (0, vr 8 38), (1, vr 1 1), (2, vr 7 35)]) (st2 := []) (h2 := xhp ((ar_combine s 45 40 39 45).2)) 3 (fun _ _ _ _ => rfl) (fun hc => ?_) (fun hc => ?_)
  · replace g := g.1 hc
    exact xW.locs (L := [(0, vr 8 38), (1, vr 1 1), (2, vr 7 35), (3, vr 6 31), (4, vi ((ar_combine s 45 40 39 45).1))]) ⟨rfl, rfl, rfl, rfl, rfl, trivial⟩ rfl g
  · replace g := g.2 (Decidable.not_not.mp hc)
    refine xW.call (y := 116) (as := [vr 6 31, vi 47, vr 5 45, vr 5 46, vr 5 45]) (h0 := xhp ((ar_combine s 45 40 39 45).2)) (pc0 := 45) (len := 3) (L0 := [(4, vi ((ar_combine s 45 40 39 45).1)), (3, vr 6 31), (0, vr 8 38), (1, vr 1 1), (2, vr 7 35)]) (rest := []) 9 (fun _ _ _ _ => rfl) (m116 _ _ _ _ _ g.1 ?_)
    show xW (xX0 xs Ls) p196 48 [(4, vi ((ar_combine s 45 40 39 45).1)), (3, vr 6 31), (0, vr 8 38), (1, vr 1 1), (2, vr 7 35)] [vi ((ar_combine ((ar_combine s 45 40 39 45).2) 47 45 46 45).1)] (xhp ((ar_combine ((ar_combine s 45 40 39 45).2) 47 45 46 45).2)) Φ
    replace g := g.2
    refine xW.seg (pc1 := 50) (L1 := [(4, vi ((ar_combine ((ar_combine s 45 40 39 45).2) 47 45 46 45).1)), (3, vr 6 31), (0, vr 8 38), (1, vr 1 1), (2, vr 7 35)]) (st1 := []) (h1 := xhp ((ar_combine ((ar_combine s 45 40 39 45).2) 47 45 46 45).2)) 1 (fun _ _ _ _ => rfl) ?_
    exact xW.locs (L := [(0, vr 8 38), (1, vr 1 1), (2, vr 7 35), (3, vr 6 31), (4, vi ((ar_combine ((ar_combine s 45 40 39 45).2) 47 45 46 45).1))]) ⟨rfl, rfl, rfl, rfl, rfl, trivial⟩ rfl g
noncomputable def so_halve_d (s : xS) : Int32 × xS := (if ¬ (ar_combine s 45 40 39 45).1 = 0 then (so_halve_50 ((ar_combine s 45 40 39 45).2) ((ar_combine s 45 40 39 45).1)) else (so_halve_50 ((ar_combine ((ar_combine s 45 40 39 45).2) 47 45 46 45).2) ((ar_combine ((ar_combine s 45 40 39 45).2) 47 45 46 45).1)))
noncomputable def so_halve : xS → Int32 × xS := Classical.choose (⟨so_halve_d, rfl⟩ : ∃ f, f = so_halve_d)
set_option maxRecDepth 100000 in
theorem so_halve_eq : so_halve = so_halve_d := Classical.choose_spec (⟨so_halve_d, rfl⟩ : ∃ f, f = so_halve_d)
def so_halve_ok (s : xS) : Prop := ((ar_combine_ok s 45 40 39 45) ∧ ((¬ (ar_combine s 45 40 39 45).1 = 0 → (so_halve_50_ok ((ar_combine s 45 40 39 45).2) ((ar_combine s 45 40 39 45).1))) ∧ ((ar_combine s 45 40 39 45).1 = 0 → ((ar_combine_ok ((ar_combine s 45 40 39 45).2) 47 45 46 45) ∧ (so_halve_50_ok ((ar_combine ((ar_combine s 45 40 39 45).2) 47 45 46 45).2) ((ar_combine ((ar_combine s 45 40 39 45).2) 47 45 46 45).1))))))
set_option maxRecDepth 100000 in
theorem m196 {xs : Nat → Int32} {Ls : Nat} {Ψ : xO → xH → Prop} (s : xS) (gq : so_halve_ok s) (h : Ψ (.inl (some (vi (so_halve s).1))) (xhp (so_halve s).2)) : xM (xX0 xs Ls) 196 [vr 8 38, vr 1 1, vr 7 35] (xhp s) Ψ := by
  rw [so_halve_eq] at h
  unfold so_halve_d at h
  unfold so_halve_ok at gq
  exact xM.of (P := p196) rfl rfl rfl (b196_0 s (⟨gq.1, by replace gq := gq.2; exact ⟨fun hc => by rw [if_pos hc] at h; replace gq := gq.1 hc; exact n196_50 _ _ gq h, fun hc => by rw [if_neg (fun z => z hc)] at h; replace gq := gq.2 hc; exact ⟨gq.1, by replace gq := gq.2; exact n196_50 _ _ gq h⟩⟩⟩))
/-! so_useValue -/
theorem b195_186 {xs : Nat → Int32} {Ls : Nat} {Φ : Option xV → xH → Prop} (s : xS) (g : ((so_halve_ok s) ∧ Φ (some (vi ((so_halve s).1))) (xhp ((so_halve s).2)))) : xW (xX0 xs Ls) p195 186 [(0, vr 8 38), (1, vr 1 1), (2, vr 7 35)] [] (xhp s) Φ := by
  refine xW.call (y := 196) (as := [vr 8 38, vr 1 1, vr 7 35]) (h0 := xhp s) (pc0 := 189) (len := 3) (L0 := [(0, vr 8 38), (1, vr 1 1), (2, vr 7 35)]) (rest := []) 4 (fun _ _ _ _ => rfl) (m196 _ g.1 ?_)
  show xW (xX0 xs Ls) p195 192 [(0, vr 8 38), (1, vr 1 1), (2, vr 7 35)] [vi ((so_halve s).1)] (xhp ((so_halve s).2)) Φ
  replace g := g.2
  exact xW.ret (v0 := some (vi ((so_halve s).1))) (h1 := xhp ((so_halve s).2)) 1 (fun _ _ _ _ => rfl) g
noncomputable def so_useValue_186_d (s : xS) : Int32 × xS := (so_halve s)
noncomputable def so_useValue_186 : xS → Int32 × xS := Classical.choose (⟨so_useValue_186_d, rfl⟩ : ∃ f, f = so_useValue_186_d)
set_option maxRecDepth 100000 in
theorem so_useValue_186_eq : so_useValue_186 = so_useValue_186_d := Classical.choose_spec (⟨so_useValue_186_d, rfl⟩ : ∃ f, f = so_useValue_186_d)
def so_useValue_186_ok (s : xS) : Prop := (so_halve_ok s)
set_option maxRecDepth 100000 in
theorem n195_186 {xs : Nat → Int32} {Ls : Nat} {Φ : Option xV → xH → Prop} (s : xS) (gq : so_useValue_186_ok s) (h : Φ (some (vi (so_useValue_186 s).1)) (xhp (so_useValue_186 s).2)) : xW (xX0 xs Ls) p195 186 [(0, vr 8 38), (1, vr 1 1), (2, vr 7 35)] [] (xhp s) Φ := by
  rw [so_useValue_186_eq] at h
  unfold so_useValue_186_d at h
  unfold so_useValue_186_ok at gq
  exact b195_186 s (⟨gq, (by (try dsimp only at h); exact h)⟩)
set_option maxRecDepth 100000 in
theorem b195_134 {xs : Nat → Int32} {Ls : Nat} {Φ : Option xV → xH → Prop} (s : xS) (x4 : Int32) (g : ((x4 = 0 → xW (xX0 xs Ls) p195 186 [(0, vr 8 38), (1, vr 1 1), (2, vr 7 35)] [] (xhp (de_set (de_set s 40 43) 42 44)) Φ) ∧ (¬ (x4 = 0) → xW (xX0 xs Ls) p195 186 [(0, vr 8 38), (1, vr 1 1), (2, vr 7 35)] [] (xhp (de_set (de_set s 39 43) 41 44)) Φ))) : xW (xX0 xs Ls) p195 134 [(0, vr 8 38), (1, vr 1 1), (2, vr 7 35), (4, vi x4)] [] (xhp s) Φ := by
  refine xW.br (c := x4 = 0) (pc1 := 164) (L1 := [(0, vr 8 38), (1, vr 1 1), (2, vr 7 35), (4, vi x4)]) (st1 := []) (h1 := xhp s) (pc2 := 139) (L2 := [(0, vr 8 38), (1, vr 1 1), (2, vr 7 35), (4, vi x4)]) (st2 := []) (h2 := xhp s) 2 (fun _ _ _ _ => rfl) (fun hc => ?_) (fun hc => ?_)
  · replace g := g.1 hc
    refine xW.call (y := 137) (as := [vr 5 40, vr 5 43]) (h0 := xhp s) (pc0 := 172) (len := 3) (L0 := [(0, vr 8 38), (1, vr 1 1), (2, vr 7 35), (4, vi x4)]) (rest := []) 5 (fun _ _ _ _ => rfl) (m137 _ _ _ ?_)
    show xW (xX0 xs Ls) p195 175 [(0, vr 8 38), (1, vr 1 1), (2, vr 7 35), (4, vi x4)] [] (xhp (de_set s 40 43)) Φ
    refine xW.call (y := 137) (as := [vr 5 42, vr 5 44]) (h0 := xhp (de_set s 40 43)) (pc0 := 183) (len := 3) (L0 := [(0, vr 8 38), (1, vr 1 1), (2, vr 7 35), (4, vi x4)]) (rest := []) 5 (fun _ _ _ _ => rfl) (m137 _ _ _ ?_)
    show xW (xX0 xs Ls) p195 186 [(0, vr 8 38), (1, vr 1 1), (2, vr 7 35), (4, vi x4)] [] (xhp (de_set (de_set s 40 43) 42 44)) Φ
    exact xW.locs (L := [(0, vr 8 38), (1, vr 1 1), (2, vr 7 35)]) ⟨rfl, rfl, rfl, trivial⟩ rfl g
  · replace g := g.2 hc
    refine xW.call (y := 137) (as := [vr 5 39, vr 5 43]) (h0 := xhp s) (pc0 := 147) (len := 3) (L0 := [(0, vr 8 38), (1, vr 1 1), (2, vr 7 35), (4, vi x4)]) (rest := []) 5 (fun _ _ _ _ => rfl) (m137 _ _ _ ?_)
    show xW (xX0 xs Ls) p195 150 [(0, vr 8 38), (1, vr 1 1), (2, vr 7 35), (4, vi x4)] [] (xhp (de_set s 39 43)) Φ
    refine xW.call (y := 137) (as := [vr 5 41, vr 5 44]) (h0 := xhp (de_set s 39 43)) (pc0 := 158) (len := 3) (L0 := [(0, vr 8 38), (1, vr 1 1), (2, vr 7 35), (4, vi x4)]) (rest := []) 5 (fun _ _ _ _ => rfl) (m137 _ _ _ ?_)
    show xW (xX0 xs Ls) p195 161 [(0, vr 8 38), (1, vr 1 1), (2, vr 7 35), (4, vi x4)] [] (xhp (de_set (de_set s 39 43) 41 44)) Φ
    refine xW.seg (pc1 := 186) (L1 := [(0, vr 8 38), (1, vr 1 1), (2, vr 7 35), (4, vi x4)]) (st1 := []) (h1 := xhp (de_set (de_set s 39 43) 41 44)) 1 (fun _ _ _ _ => rfl) ?_
    exact xW.locs (L := [(0, vr 8 38), (1, vr 1 1), (2, vr 7 35)]) ⟨rfl, rfl, rfl, trivial⟩ rfl g
noncomputable def so_useValue_134_d (s : xS) (x4 : Int32) : Int32 × xS := (if x4 = 0 then (so_useValue_186 (de_set (de_set s 40 43) 42 44)) else (so_useValue_186 (de_set (de_set s 39 43) 41 44)))
noncomputable def so_useValue_134 : xS → Int32 → Int32 × xS := Classical.choose (⟨so_useValue_134_d, rfl⟩ : ∃ f, f = so_useValue_134_d)
set_option maxRecDepth 100000 in
theorem so_useValue_134_eq : so_useValue_134 = so_useValue_134_d := Classical.choose_spec (⟨so_useValue_134_d, rfl⟩ : ∃ f, f = so_useValue_134_d)
def so_useValue_134_ok (s : xS) (x4 : Int32) : Prop := ((x4 = 0 → (so_useValue_186_ok (de_set (de_set s 40 43) 42 44))) ∧ (¬ (x4 = 0) → (so_useValue_186_ok (de_set (de_set s 39 43) 41 44))))
set_option maxRecDepth 100000 in
theorem n195_134 {xs : Nat → Int32} {Ls : Nat} {Φ : Option xV → xH → Prop} (s : xS) (x4 : Int32) (gq : so_useValue_134_ok s x4) (h : Φ (some (vi (so_useValue_134 s x4).1)) (xhp (so_useValue_134 s x4).2)) : xW (xX0 xs Ls) p195 134 [(0, vr 8 38), (1, vr 1 1), (2, vr 7 35), (4, vi x4)] [] (xhp s) Φ := by
  rw [so_useValue_134_eq] at h
  unfold so_useValue_134_d at h
  unfold so_useValue_134_ok at gq
  exact b195_134 s x4 (⟨fun hc => by rw [if_pos hc] at h; replace gq := gq.1 hc; exact n195_186 _ gq h, fun hc => by rw [if_neg hc] at h; replace gq := gq.2 hc; exact n195_186 _ gq h⟩)
set_option maxRecDepth 100000 in
theorem b195_0 {xs : Nat → Int32} {Ls : Nat} {Φ : Option xV → xH → Prop} (s : xS) (g : ((¬ (gJ (de_set s 44 18) 44 0) = 0 → ((¬ (gI (de_set s 44 18) 38 0) = 1 → ((¬ (gI (de_set s 44 18) 38 0) = 2 → xW (xX0 xs Ls) p195 134 [(0, vr 8 38), (1, vr 1 1), (2, vr 7 35), (4, vi (zb (decide ((zb (de_isBelowZero (de_set s 44 18) 44)) = (zb (de_isBelowZero (de_set s 44 18) 41))))))] [] (xhp (de_set s 44 18)) Φ) ∧ ((gI (de_set s 44 18) 38 0) = 2 → (((decide ((zb (de_isBelowZero (de_set s 44 18) 44)) = (zb (de_isBelowZero (de_set s 44 18) 41)))) = false → xW (xX0 xs Ls) p195 134 [(0, vr 8 38), (1, vr 1 1), (2, vr 7 35), (4, vi (zb (decide ((zb (de_isBelowZero (de_set s 44 18) 44)) = (zb (de_isBelowZero (de_set s 44 18) 41))))))] [] (xhp (de_set s 44 18)) Φ) ∧ ((decide ((zb (de_isBelowZero (de_set s 44 18) 44)) = (zb (de_isBelowZero (de_set s 44 18) 41)))) = true → Φ (some (vi 9)) (xhp (de_set s 44 18))))))) ∧ ((gI (de_set s 44 18) 38 0) = 1 → Φ (some (vi ((so_takeValueOf (de_set (de_set s 44 18) 41 44) 40).1))) (xhp ((so_takeValueOf (de_set (de_set s 44 18) 41 44) 40).2))))) ∧ ((gJ (de_set s 44 18) 44 0) = 0 → Φ (some (vi ((so_find (de_set (de_set (de_set s 44 18) 39 43) 40 43) 43 44).1))) (xhp ((so_find (de_set (de_set (de_set s 44 18) 39 43) 40 43) 43 44).2))))) : xW (xX0 xs Ls) p195 0 [(0, vr 8 38), (1, vr 1 1), (2, vr 7 35)] [] (xhp s) Φ := by
  refine xW.call (y := 137) (as := [vr 5 44, vr 5 18]) (h0 := xhp s) (pc0 := 13) (len := 3) (L0 := [(3, vr 2 2), (0, vr 8 38), (1, vr 1 1), (2, vr 7 35)]) (rest := []) 8 (fun _ _ _ _ => rfl) (m137 _ _ _ ?_)
  show xW (xX0 xs Ls) p195 16 [(3, vr 2 2), (0, vr 8 38), (1, vr 1 1), (2, vr 7 35)] [] (xhp (de_set s 44 18)) Φ
  refine xW.br (c := ¬ (lg_cmp (gJ (de_set s 44 18) 44 0) 0) = 0) (pc1 := 64) (L1 := [(3, vr 2 2), (0, vr 8 38), (1, vr 1 1), (2, vr 7 35)]) (st1 := []) (h1 := xhp (de_set s 44 18)) (pc2 := 28) (L2 := [(3, vr 2 2), (0, vr 8 38), (1, vr 1 1), (2, vr 7 35)]) (st2 := []) (h2 := xhp (de_set s 44 18)) 6 (fun _ _ _ _ => rfl) (fun hc => ?_) (fun hc => ?_)
  · replace g := g.1 (fun q => hc (lc_eq.mpr q))
    refine xW.br (c := ¬ (gI (de_set s 44 18) 38 0) = 1) (pc1 := 94) (L1 := [(3, vr 2 2), (0, vr 8 38), (1, vr 1 1), (2, vr 7 35)]) (st1 := []) (h1 := xhp (de_set s 44 18)) (pc2 := 72) (L2 := [(3, vr 2 2), (0, vr 8 38), (1, vr 1 1), (2, vr 7 35)]) (st2 := []) (h2 := xhp (de_set s 44 18)) 4 (fun _ _ _ _ => rfl) (fun hc => ?_) (fun hc => ?_)
    · replace g := g.1 hc
      refine xW.call (y := 140) (as := [vr 5 44]) (h0 := xhp (de_set s 44 18)) (pc0 := 98) (len := 3) (L0 := [(3, vr 2 2), (0, vr 8 38), (1, vr 1 1), (2, vr 7 35)]) (rest := []) 3 (fun _ _ _ _ => rfl) (m140 _ _ ?_)
      show xW (xX0 xs Ls) p195 101 [(3, vr 2 2), (0, vr 8 38), (1, vr 1 1), (2, vr 7 35)] [vi (zb (de_isBelowZero (de_set s 44 18) 44))] (xhp (de_set s 44 18)) Φ
      refine xW.call (y := 140) (as := [vr 5 41]) (h0 := xhp (de_set s 44 18)) (pc0 := 105) (len := 3) (L0 := [(3, vr 2 2), (0, vr 8 38), (1, vr 1 1), (2, vr 7 35)]) (rest := [vi (zb (de_isBelowZero (de_set s 44 18) 44))]) 3 (fun _ _ _ _ => rfl) (m140 _ _ ?_)
      show xW (xX0 xs Ls) p195 108 [(3, vr 2 2), (0, vr 8 38), (1, vr 1 1), (2, vr 7 35)] [vi (zb (de_isBelowZero (de_set s 44 18) 41)), vi (zb (de_isBelowZero (de_set s 44 18) 44))] (xhp (de_set s 44 18)) Φ
      suffices J : xW (xX0 xs Ls) p195 116 [(3, vr 2 2), (0, vr 8 38), (1, vr 1 1), (2, vr 7 35)] [vi (zb (decide ((zb (de_isBelowZero (de_set s 44 18) 44)) = (zb (de_isBelowZero (de_set s 44 18) 41)))))] (xhp (de_set s 44 18)) Φ by
        refine xW.br (c := ¬ (zb (de_isBelowZero (de_set s 44 18) 44)) = (zb (de_isBelowZero (de_set s 44 18) 41))) (pc1 := 115) (L1 := [(3, vr 2 2), (0, vr 8 38), (1, vr 1 1), (2, vr 7 35)]) (st1 := []) (h1 := xhp (de_set s 44 18)) (pc2 := 111) (L2 := [(3, vr 2 2), (0, vr 8 38), (1, vr 1 1), (2, vr 7 35)]) (st2 := []) (h2 := xhp (de_set s 44 18)) 1 (fun _ _ _ _ => rfl) (fun hc => ?_) (fun hc => ?_)
        · have hc1 : ¬ (zb (de_isBelowZero (de_set s 44 18) 44)) = (zb (de_isBelowZero (de_set s 44 18) 41)) := hc
          refine xW.seg (pc1 := 116) (L1 := [(3, vr 2 2), (0, vr 8 38), (1, vr 1 1), (2, vr 7 35)]) (st1 := [vi 0]) (h1 := xhp (de_set s 44 18)) 1 (fun _ _ _ _ => rfl) ?_
          refine xW.to (v := vi (zb (decide ((zb (de_isBelowZero (de_set s 44 18) 44)) = (zb (de_isBelowZero (de_set s 44 18) 41)))))) (zb_f (by simp only [decide_eq_false hc1, Bool.true_or, Bool.or_true, Bool.false_or, Bool.or_false, Bool.true_and, Bool.and_true, Bool.false_and, Bool.and_false, Bool.not_true, Bool.not_false, cond_true, cond_false])) ?_
          exact J
        · have hc1 : (zb (de_isBelowZero (de_set s 44 18) 44)) = (zb (de_isBelowZero (de_set s 44 18) 41)) := (Decidable.not_not.mp hc)
          refine xW.seg (pc1 := 116) (L1 := [(3, vr 2 2), (0, vr 8 38), (1, vr 1 1), (2, vr 7 35)]) (st1 := [vi 1]) (h1 := xhp (de_set s 44 18)) 2 (fun _ _ _ _ => rfl) ?_
          refine xW.to (v := vi (zb (decide ((zb (de_isBelowZero (de_set s 44 18) 44)) = (zb (de_isBelowZero (de_set s 44 18) 41)))))) (zb_t (by simp only [decide_eq_true hc1, Bool.true_or, Bool.or_true, Bool.false_or, Bool.or_false, Bool.true_and, Bool.and_true, Bool.false_and, Bool.and_false, Bool.not_true, Bool.not_false, cond_true, cond_false])) ?_
          exact J
      refine xW.br (c := ¬ (gI (de_set s 44 18) 38 0) = 2) (pc1 := 134) (L1 := [(4, vi (zb (decide ((zb (de_isBelowZero (de_set s 44 18) 44)) = (zb (de_isBelowZero (de_set s 44 18) 41)))))), (3, vr 2 2), (0, vr 8 38), (1, vr 1 1), (2, vr 7 35)]) (st1 := []) (h1 := xhp (de_set s 44 18)) (pc2 := 126) (L2 := [(4, vi (zb (decide ((zb (de_isBelowZero (de_set s 44 18) 44)) = (zb (de_isBelowZero (de_set s 44 18) 41)))))), (3, vr 2 2), (0, vr 8 38), (1, vr 1 1), (2, vr 7 35)]) (st2 := []) (h2 := xhp (de_set s 44 18)) 5 (fun _ _ _ _ => rfl) (fun hc => ?_) (fun hc => ?_)
      · replace g := g.1 hc
        exact xW.locs (L := [(0, vr 8 38), (1, vr 1 1), (2, vr 7 35), (4, vi (zb (decide ((zb (de_isBelowZero (de_set s 44 18) 44)) = (zb (de_isBelowZero (de_set s 44 18) 41))))))]) ⟨rfl, rfl, rfl, rfl, trivial⟩ rfl g
      · replace g := g.2 (Decidable.not_not.mp hc)
        refine xW.br (c := (zb (decide ((zb (de_isBelowZero (de_set s 44 18) 44)) = (zb (de_isBelowZero (de_set s 44 18) 41))))) = 0) (pc1 := 134) (L1 := [(4, vi (zb (decide ((zb (de_isBelowZero (de_set s 44 18) 44)) = (zb (de_isBelowZero (de_set s 44 18) 41)))))), (3, vr 2 2), (0, vr 8 38), (1, vr 1 1), (2, vr 7 35)]) (st1 := []) (h1 := xhp (de_set s 44 18)) (pc2 := 131) (L2 := [(4, vi (zb (decide ((zb (de_isBelowZero (de_set s 44 18) 44)) = (zb (de_isBelowZero (de_set s 44 18) 41)))))), (3, vr 2 2), (0, vr 8 38), (1, vr 1 1), (2, vr 7 35)]) (st2 := []) (h2 := xhp (de_set s 44 18)) 2 (fun _ _ _ _ => rfl) (fun hc => ?_) (fun hc => ?_)
        · replace g := g.1 (zb_eq0.mp hc)
          exact xW.locs (L := [(0, vr 8 38), (1, vr 1 1), (2, vr 7 35), (4, vi (zb (decide ((zb (de_isBelowZero (de_set s 44 18) 44)) = (zb (de_isBelowZero (de_set s 44 18) 41))))))]) ⟨rfl, rfl, rfl, rfl, trivial⟩ rfl g
        · replace g := g.2 (zb_ne0.mp hc)
          exact xW.ret (v0 := some (vi 9)) (h1 := xhp (de_set s 44 18)) 2 (fun _ _ _ _ => rfl) g
    · replace g := g.2 (Decidable.not_not.mp hc)
      refine xW.call (y := 137) (as := [vr 5 41, vr 5 44]) (h0 := xhp (de_set s 44 18)) (pc0 := 80) (len := 3) (L0 := [(3, vr 2 2), (0, vr 8 38), (1, vr 1 1), (2, vr 7 35)]) (rest := []) 5 (fun _ _ _ _ => rfl) (m137 _ _ _ ?_)
      show xW (xX0 xs Ls) p195 83 [(3, vr 2 2), (0, vr 8 38), (1, vr 1 1), (2, vr 7 35)] [] (xhp (de_set (de_set s 44 18) 41 44)) Φ
      refine xW.call (y := 197) (as := [vr 8 38, vr 5 40, vr 2 2, vr 7 35]) (h0 := xhp (de_set (de_set s 44 18) 41 44)) (pc0 := 90) (len := 3) (L0 := [(3, vr 2 2), (0, vr 8 38), (1, vr 1 1), (2, vr 7 35)]) (rest := []) 6 (fun _ _ _ _ => rfl) (m197 _ _ ?_)
      show xW (xX0 xs Ls) p195 93 [(3, vr 2 2), (0, vr 8 38), (1, vr 1 1), (2, vr 7 35)] [vi ((so_takeValueOf (de_set (de_set s 44 18) 41 44) 40).1)] (xhp ((so_takeValueOf (de_set (de_set s 44 18) 41 44) 40).2)) Φ
      exact xW.ret (v0 := some (vi ((so_takeValueOf (de_set (de_set s 44 18) 41 44) 40).1))) (h1 := xhp ((so_takeValueOf (de_set (de_set s 44 18) 41 44) 40).2)) 1 (fun _ _ _ _ => rfl) g
  · replace g := g.2 (lc_eq.mp (Decidable.not_not.mp hc))
    refine xW.call (y := 137) (as := [vr 5 39, vr 5 43]) (h0 := xhp (de_set s 44 18)) (pc0 := 36) (len := 3) (L0 := [(3, vr 2 2), (0, vr 8 38), (1, vr 1 1), (2, vr 7 35)]) (rest := []) 5 (fun _ _ _ _ => rfl) (m137 _ _ _ ?_)
    show xW (xX0 xs Ls) p195 39 [(3, vr 2 2), (0, vr 8 38), (1, vr 1 1), (2, vr 7 35)] [] (xhp (de_set (de_set s 44 18) 39 43)) Φ
    refine xW.call (y := 137) (as := [vr 5 40, vr 5 43]) (h0 := xhp (de_set (de_set s 44 18) 39 43)) (pc0 := 47) (len := 3) (L0 := [(3, vr 2 2), (0, vr 8 38), (1, vr 1 1), (2, vr 7 35)]) (rest := []) 5 (fun _ _ _ _ => rfl) (m137 _ _ _ ?_)
    show xW (xX0 xs Ls) p195 50 [(3, vr 2 2), (0, vr 8 38), (1, vr 1 1), (2, vr 7 35)] [] (xhp (de_set (de_set (de_set s 44 18) 39 43) 40 43)) Φ
    refine xW.call (y := 198) (as := [vr 8 38, vr 5 43, vr 5 44, vr 2 2]) (h0 := xhp (de_set (de_set (de_set s 44 18) 39 43) 40 43)) (pc0 := 60) (len := 3) (L0 := [(3, vr 2 2), (0, vr 8 38), (1, vr 1 1), (2, vr 7 35)]) (rest := []) 7 (fun _ _ _ _ => rfl) (m198 _ _ _ ?_)
    show xW (xX0 xs Ls) p195 63 [(3, vr 2 2), (0, vr 8 38), (1, vr 1 1), (2, vr 7 35)] [vi ((so_find (de_set (de_set (de_set s 44 18) 39 43) 40 43) 43 44).1)] (xhp ((so_find (de_set (de_set (de_set s 44 18) 39 43) 40 43) 43 44).2)) Φ
    exact xW.ret (v0 := some (vi ((so_find (de_set (de_set (de_set s 44 18) 39 43) 40 43) 43 44).1))) (h1 := xhp ((so_find (de_set (de_set (de_set s 44 18) 39 43) 40 43) 43 44).2)) 1 (fun _ _ _ _ => rfl) g
noncomputable def so_useValue_d (s : xS) : Int32 × xS := (if ¬ (gJ (de_set s 44 18) 44 0) = 0 then (if ¬ (gI (de_set s 44 18) 38 0) = 1 then (if ¬ (gI (de_set s 44 18) 38 0) = 2 then (so_useValue_134 (de_set s 44 18) (zb (decide ((zb (de_isBelowZero (de_set s 44 18) 44)) = (zb (de_isBelowZero (de_set s 44 18) 41)))))) else (if (decide ((zb (de_isBelowZero (de_set s 44 18) 44)) = (zb (de_isBelowZero (de_set s 44 18) 41)))) = false then (so_useValue_134 (de_set s 44 18) (zb (decide ((zb (de_isBelowZero (de_set s 44 18) 44)) = (zb (de_isBelowZero (de_set s 44 18) 41)))))) else (9, (de_set s 44 18)))) else (so_takeValueOf (de_set (de_set s 44 18) 41 44) 40)) else (so_find (de_set (de_set (de_set s 44 18) 39 43) 40 43) 43 44))
noncomputable def so_useValue : xS → Int32 × xS := Classical.choose (⟨so_useValue_d, rfl⟩ : ∃ f, f = so_useValue_d)
set_option maxRecDepth 100000 in
theorem so_useValue_eq : so_useValue = so_useValue_d := Classical.choose_spec (⟨so_useValue_d, rfl⟩ : ∃ f, f = so_useValue_d)
def so_useValue_ok (s : xS) : Prop := (¬ (gJ (de_set s 44 18) 44 0) = 0 → (¬ (gI (de_set s 44 18) 38 0) = 1 → ((¬ (gI (de_set s 44 18) 38 0) = 2 → (so_useValue_134_ok (de_set s 44 18) (zb (decide ((zb (de_isBelowZero (de_set s 44 18) 44)) = (zb (de_isBelowZero (de_set s 44 18) 41))))))) ∧ ((gI (de_set s 44 18) 38 0) = 2 → ((decide ((zb (de_isBelowZero (de_set s 44 18) 44)) = (zb (de_isBelowZero (de_set s 44 18) 41)))) = false → (so_useValue_134_ok (de_set s 44 18) (zb (decide ((zb (de_isBelowZero (de_set s 44 18) 44)) = (zb (de_isBelowZero (de_set s 44 18) 41)))))))))))
set_option maxRecDepth 100000 in
theorem m195 {xs : Nat → Int32} {Ls : Nat} {Ψ : xO → xH → Prop} (s : xS) (gq : so_useValue_ok s) (h : Ψ (.inl (some (vi (so_useValue s).1))) (xhp (so_useValue s).2)) : xM (xX0 xs Ls) 195 [vr 8 38, vr 1 1, vr 7 35] (xhp s) Ψ := by
  rw [so_useValue_eq] at h
  unfold so_useValue_d at h
  unfold so_useValue_ok at gq
  exact xM.of (P := p195) rfl rfl rfl (b195_0 s (⟨fun hc => by rw [if_pos hc] at h; replace gq := gq hc; exact ⟨fun hc => by rw [if_pos hc] at h; replace gq := gq hc; exact ⟨fun hc => by rw [if_pos hc] at h; replace gq := gq.1 hc; exact n195_134 _ _ gq h, fun hc => by rw [if_neg (fun z => z hc)] at h; replace gq := gq.2 hc; exact ⟨fun hc => by rw [if_pos hc] at h; replace gq := gq hc; exact n195_134 _ _ gq h, fun hc => by rw [if_neg (by rw [hc]; decide)] at h; exact (by (try dsimp only at h); exact h)⟩⟩, fun hc => by rw [if_neg (fun z => z hc)] at h; exact (by (try dsimp only at h); exact h)⟩, fun hc => by rw [if_neg (fun z => z hc)] at h; exact (by (try dsimp only at h); exact h)⟩))
