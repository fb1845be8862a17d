/-! pr_placeOf -/
theorem b177_2 {xs : Nat → Int32} {Ls : Nat} {Φ : Option xV → xH → Prop} (s : xS) (x1 : Int32) (x2 : Int32) (g : ((100 ≤ x2 → Φ (some (vi (-1))) (xhp s)) ∧ (¬ (100 ≤ x2) → ((vp_in x2 100) ∧ ((¬ (gI s 36 x2.toNatClampNeg) = (128 + x1) → xW (xX0 xs Ls) p177 2 [(0, vr 7 35), (1, vi x1), (2, vi (x2 + 1))] [] (xhp s) Φ) ∧ ((gI s 36 x2.toNatClampNeg) = (128 + x1) → Φ (some (vi x2)) (xhp s))))))) : xW (xX0 xs Ls) p177 2 [(0, vr 7 35), (1, vi x1), (2, vi x2)] [] (xhp s) Φ := by
  refine xW.br (c := 100 ≤ x2) (pc1 := 30) (L1 := [(0, vr 7 35), (1, vi x1), (2, vi x2)]) (st1 := []) (h1 := xhp s) (pc2 := 8) (L2 := [(0, vr 7 35), (1, vi x1), (2, vi x2)]) (st2 := []) (h2 := xhp s) 3 (fun _ _ _ _ => rfl) (fun hc => ?_) (fun hc => ?_)
  · replace g := g.1 hc
    exact xW.ret (v0 := some (vi (-1))) (h1 := xhp s) 2 (fun _ _ _ _ => rfl) g
  · replace g := g.2 hc
    refine xW.side (c := vp_in x2 100) (pc1 := 14) (L1 := [(0, vr 7 35), (1, vi x1), (2, vi x2)]) (st1 := [vi (gI s 36 x2.toNatClampNeg)]) (h1 := xhp s) 4 (fun _ _ _ _ => rfl) g.1 ?_
    replace g := g.2
    refine xW.br (c := ¬ (gI s 36 x2.toNatClampNeg) = (128 + x1)) (pc1 := 24) (L1 := [(0, vr 7 35), (1, vi x1), (2, vi x2)]) (st1 := []) (h1 := xhp s) (pc2 := 22) (L2 := [(0, vr 7 35), (1, vi x1), (2, vi x2)]) (st2 := []) (h2 := xhp s) 4 (fun _ _ _ _ => rfl) (fun hc => ?_) (fun hc => ?_)
    · replace g := g.1 hc
      refine xW.seg (pc1 := 2) (L1 := [(2, vi (x2 + 1)), (0, vr 7 35), (1, vi x1)]) (st1 := []) (h1 := xhp s) 2 (fun _ _ _ _ => rfl) ?_
      exact xW.locs (L := [(0, vr 7 35), (1, vi x1), (2, vi (x2 + 1))]) ⟨rfl, rfl, rfl, trivial⟩ rfl g
    · replace g := g.2 (Decidable.not_not.mp hc)
      exact xW.ret (v0 := some (vi x2)) (h1 := xhp s) 2 (fun _ _ _ _ => rfl) g
noncomputable def pr_placeOf_2 : Nat → xS → Int32 → Int32 → Int32
  | 0, s, _, _ => 0
  | n + 1, s, x1, x2 => (if 100 ≤ x2 then (-1) else (if ¬ (gI s 36 x2.toNatClampNeg) = (128 + x1) then (pr_placeOf_2 n s x1 (x2 + 1)) else x2))
def pr_placeOf_2_ok : Nat → xS → Int32 → Int32 → Prop
  | 0, _, _, _ => False
  | n + 1, s, x1, x2 => (¬ (100 ≤ x2) → ((vp_in x2 100) ∧ (¬ (gI s 36 x2.toNatClampNeg) = (128 + x1) → (pr_placeOf_2_ok n s x1 (x2 + 1)))))
set_option maxRecDepth 100000 in
theorem n177_2 {xs : Nat → Int32} {Ls : Nat} {Φ : Option xV → xH → Prop} : ∀ (n : Nat) (s : xS) (x1 : Int32) (x2 : Int32), pr_placeOf_2_ok n s x1 x2 → Φ (some (vi (pr_placeOf_2 n s x1 x2))) (xhp s) → xW (xX0 xs Ls) p177 2 [(0, vr 7 35), (1, vi x1), (2, vi x2)] [] (xhp s) Φ := by
  intro n
  induction n with
  | zero => intro s _ _ gq; exact gq.elim
  | succ n ih =>
    intro s x1 x2 gq h
    unfold pr_placeOf_2_ok at gq
    unfold pr_placeOf_2 at h
    exact b177_2 s x1 x2 (⟨fun hc => by rw [if_pos hc] at h; exact h, fun hc => by rw [if_neg hc] at h; replace gq := gq hc; exact ⟨gq.1, by replace gq := gq.2; exact ⟨fun hc => by rw [if_pos hc] at h; replace gq := gq hc; exact ih _ _ _ gq h, fun hc => by rw [if_neg (fun z => z hc)] at h; exact h⟩⟩⟩)
set_option maxRecDepth 100000 in
theorem b177_0 {xs : Nat → Int32} {Ls : Nat} {Φ : Option xV → xH → Prop} (s : xS) (k : Int32) (g : xW (xX0 xs Ls) p177 2 [(0, vr 7 35), (1, vi k), (2, vi 0)] [] (xhp s) Φ) : xW (xX0 xs Ls) p177 0 [(0, vr 7 35), (1, vi k)] [] (xhp s) Φ := by
  refine xW.seg (pc1 := 2) (L1 := [(2, vi 0), (0, vr 7 35), (1, vi k)]) (st1 := []) (h1 := xhp s) 2 (fun _ _ _ _ => rfl) ?_
  exact xW.locs (L := [(0, vr 7 35), (1, vi k), (2, vi 0)]) ⟨rfl, rfl, rfl, trivial⟩ rfl g
noncomputable def pr_placeOf (s : xS) (k : Int32) : Int32 := (pr_placeOf_2 xfu s k 0)
def pr_placeOf_ok (s : xS) (k : Int32) : Prop := (pr_placeOf_2_ok xfu s k 0)
set_option maxRecDepth 100000 in
theorem m177 {xs : Nat → Int32} {Ls : Nat} {Ψ : xO → xH → Prop} (s : xS) (k : Int32) (gq : pr_placeOf_ok s k) (h : Ψ (.inl (some (vi (pr_placeOf s k)))) (xhp s)) : xM (xX0 xs Ls) 177 [vr 7 35, vi k] (xhp s) Ψ := by
  unfold pr_placeOf at h
  unfold pr_placeOf_ok at gq
  exact xM.of (P := p177) rfl rfl rfl (b177_0 s k (n177_2 _ _ _ _ gq h))
/-! pr_begin -/
theorem b178_0 {xs : Nat → Int32} {Ls : Nat} {Φ : Option xV → xH → Prop} (s : xS) (f : Int32) (g : Φ none (xhp (sI (sI s 35 1 f) 35 2 0))) : xW (xX0 xs Ls) p178 0 [(0, vr 7 35), (1, vi f)] [] (xhp s) Φ := by
  exact xW.ret (v0 := none) (h1 := xhp (sI (sI s 35 1 f) 35 2 0)) 7 (fun _ _ _ _ => rfl) g
noncomputable def pr_begin_d (s : xS) (f : Int32) : xS := (sI (sI s 35 1 f) 35 2 0)
noncomputable def pr_begin : xS → Int32 → xS := Classical.choose (⟨pr_begin_d, rfl⟩ : ∃ f, f = pr_begin_d)
set_option maxRecDepth 100000 in
theorem pr_begin_eq : pr_begin = pr_begin_d := Classical.choose_spec (⟨pr_begin_d, rfl⟩ : ∃ f, f = pr_begin_d)
set_option maxRecDepth 100000 in
theorem m178 {xs : Nat → Int32} {Ls : Nat} {Ψ : xO → xH → Prop} (s : xS) (f : Int32) (h : Ψ (.inl none) (xhp (pr_begin s f))) : xM (xX0 xs Ls) 178 [vr 7 35, vi f] (xhp s) Ψ := by
  rw [pr_begin_eq] at h
  unfold pr_begin_d at h
  exact xM.of (P := p178) rfl rfl rfl (b178_0 s f (h))
/-! pr_jump -/
theorem b180_82 {xs : Nat → Int32} {Ls : Nat} {Φ : Option xV → xH → Prop} (s : xS) (x4 : Int32) (g : Φ (some (vi 0)) (xhp (sI (ca_endEntry s) 35 1 (x4 + 1)))) : xW (xX0 xs Ls) p180 82 [(0, vr 7 35), (2, vr 1 1), (4, vi x4)] [] (xhp s) Φ := by
  refine xW.call (y := 126) (as := [vr 1 1]) (h0 := xhp s) (pc0 := 83) (len := 3) (L0 := [(0, vr 7 35), (2, vr 1 1), (4, vi x4)]) (rest := []) 2 (fun _ _ _ _ => rfl) (m126 _ ?_)
  show xW (xX0 xs Ls) p180 86 [(0, vr 7 35), (2, vr 1 1), (4, vi x4)] [] (xhp (ca_endEntry s)) Φ
  exact xW.ret (v0 := some (vi 0)) (h1 := xhp (sI (ca_endEntry s) 35 1 (x4 + 1))) 7 (fun _ _ _ _ => rfl) g
noncomputable def pr_jump_82_d (s : xS) (x4 : Int32) : Int32 × xS := (0, (sI (ca_endEntry s) 35 1 (x4 + 1)))
noncomputable def pr_jump_82 : xS → Int32 → Int32 × xS := Classical.choose (⟨pr_jump_82_d, rfl⟩ : ∃ f, f = pr_jump_82_d)
set_option maxRecDepth 100000 in
theorem pr_jump_82_eq : pr_jump_82 = pr_jump_82_d := Classical.choose_spec (⟨pr_jump_82_d, rfl⟩ : ∃ f, f = pr_jump_82_d)
set_option maxRecDepth 100000 in
theorem n180_82 {xs : Nat → Int32} {Ls : Nat} {Φ : Option xV → xH → Prop} (s : xS) (x4 : Int32) (h : Φ (some (vi (pr_jump_82 s x4).1)) (xhp (pr_jump_82 s x4).2)) : xW (xX0 xs Ls) p180 82 [(0, vr 7 35), (2, vr 1 1), (4, vi x4)] [] (xhp s) Φ := by
  rw [pr_jump_82_eq] at h
  unfold pr_jump_82_d at h
  exact b180_82 s x4 ((by (try dsimp only at h); exact h))
set_option maxRecDepth 100000 in
theorem b180_0 {xs : Nat → Int32} {Ls : Nat} {Φ : Option xV → xH → Prop} (s : xS) (c : Int32) (g : ((pr_placeOf_ok s (if (!decide (c < 144)) = true then (c - 144) else (c - 136))) ∧ ((0 ≤ (pr_placeOf s (if (!decide (c < 144)) = true then (c - 144) else (c - 136))) → (((!decide (c < 144)) = false → xW (xX0 xs Ls) p180 82 [(0, vr 7 35), (2, vr 1 1), (4, vi (pr_placeOf s (if (!decide (c < 144)) = true then (c - 144) else (c - 136))))] [] (xhp s) Φ) ∧ ((!decide (c < 144)) = true → (((gI s 35 2) < 4 → ((vp_in (gI s 35 2) 4) ∧ xW (xX0 xs Ls) p180 82 [(0, vr 7 35), (2, vr 1 1), (4, vi (pr_placeOf s (if (!decide (c < 144)) = true then (c - 144) else (c - 136))))] [] (xhp (sI (sI s 37 ((gI s 35 2).toNatClampNeg) (gI s 35 1)) 35 2 ((gI s 35 2) + 1))) Φ)) ∧ (¬ ((gI s 35 2) < 4) → Φ (some (vi 8)) (xhp s)))))) ∧ (¬ (0 ≤ (pr_placeOf s (if (!decide (c < 144)) = true then (c - 144) else (c - 136)))) → Φ (some (vi 7)) (xhp s))))) : xW (xX0 xs Ls) p180 0 [(0, vr 7 35), (1, vi c), (2, vr 1 1)] [] (xhp s) Φ := by
  refine xW.seg (pc1 := 4) (L1 := [(0, vr 7 35), (1, vi c), (2, vr 1 1)]) (st1 := [vi 144, vi c]) (h1 := xhp s) 2 (fun _ _ _ _ => rfl) ?_
  suffices J : xW (xX0 xs Ls) p180 12 [(0, vr 7 35), (1, vi c), (2, vr 1 1)] [vi (zb (!decide (c < 144)))] (xhp s) Φ by
    refine xW.br (c := c < 144) (pc1 := 11) (L1 := [(0, vr 7 35), (1, vi c), (2, vr 1 1)]) (st1 := []) (h1 := xhp s) (pc2 := 7) (L2 := [(0, vr 7 35), (1, vi c), (2, vr 1 1)]) (st2 := []) (h2 := xhp s) 1 (fun _ _ _ _ => rfl) (fun hc => ?_) (fun hc => ?_)
    · have hc1 : c < 144 := hc
      refine xW.seg (pc1 := 12) (L1 := [(0, vr 7 35), (1, vi c), (2, vr 1 1)]) (st1 := [vi 0]) (h1 := xhp s) 1 (fun _ _ _ _ => rfl) ?_
      refine xW.to (v := vi (zb (!decide (c < 144)))) (zb_f (by simp only [decide_eq_true hc1, Bool.true_or, Bool.or_true, Bool.false_or, Bool.or_false, Bool.true_and, Bool.and_true, Bool.false_and, Bool.and_false, Bool.not_true, Bool.not_false, cond_true, cond_false])) ?_
      exact J
    · have hc1 : ¬ (c < 144) := hc
      refine xW.seg (pc1 := 12) (L1 := [(0, vr 7 35), (1, vi c), (2, vr 1 1)]) (st1 := [vi 1]) (h1 := xhp s) 2 (fun _ _ _ _ => rfl) ?_
      refine xW.to (v := vi (zb (!decide (c < 144)))) (zb_t (by simp only [decide_eq_false hc1, Bool.true_or, Bool.or_true, Bool.false_or, Bool.or_false, Bool.true_and, Bool.and_true, Bool.false_and, Bool.and_false, Bool.not_true, Bool.not_false, cond_true, cond_false])) ?_
      exact J
  refine xW.seg (pc1 := 15) (L1 := [(3, vi (zb (!decide (c < 144)))), (0, vr 7 35), (1, vi c), (2, vr 1 1)]) (st1 := [vi (zb (!decide (c < 144))), vr 7 35]) (h1 := xhp s) 3 (fun _ _ _ _ => rfl) ?_
  suffices J : xW (xX0 xs Ls) p180 31 [(3, vi (zb (!decide (c < 144)))), (0, vr 7 35), (1, vi c), (2, vr 1 1)] [vi (if (!decide (c < 144)) = true then (c - 144) else (c - 136)), vr 7 35] (xhp s) Φ by
    refine xW.br (c := (zb (!decide (c < 144))) = 0) (pc1 := 26) (L1 := [(3, vi (zb (!decide (c < 144)))), (0, vr 7 35), (1, vi c), (2, vr 1 1)]) (st1 := [vr 7 35]) (h1 := xhp s) (pc2 := 18) (L2 := [(3, vi (zb (!decide (c < 144)))), (0, vr 7 35), (1, vi c), (2, vr 1 1)]) (st2 := [vr 7 35]) (h2 := xhp s) 1 (fun _ _ _ _ => rfl) (fun hc => ?_) (fun hc => ?_)
    · have hc2 : (!decide (c < 144)) = false := (zb_eq0.mp hc)
      refine xW.seg (pc1 := 31) (L1 := [(3, vi (zb (!decide (c < 144)))), (0, vr 7 35), (1, vi c), (2, vr 1 1)]) (st1 := [vi (c - 136), vr 7 35]) (h1 := xhp s) 3 (fun _ _ _ _ => rfl) ?_
      refine xW.to (v := vi (if (!decide (c < 144)) = true then (c - 144) else (c - 136))) ((congrArg vi (if_neg (by rw [hc2]; decide : ¬ ((!decide (c < 144)) = true)))).symm) ?_
      exact J
    · have hc2 : (!decide (c < 144)) = true := (zb_ne0.mp hc)
      refine xW.seg (pc1 := 31) (L1 := [(3, vi (zb (!decide (c < 144)))), (0, vr 7 35), (1, vi c), (2, vr 1 1)]) (st1 := [vi (c - 144), vr 7 35]) (h1 := xhp s) 4 (fun _ _ _ _ => rfl) ?_
      refine xW.to (v := vi (if (!decide (c < 144)) = true then (c - 144) else (c - 136))) ((congrArg vi (if_pos hc2)).symm) ?_
      exact J
  refine xW.call (y := 177) (as := [vr 7 35, vi (if (!decide (c < 144)) = true then (c - 144) else (c - 136))]) (h0 := xhp s) (pc0 := 31) (len := 3) (L0 := [(3, vi (zb (!decide (c < 144)))), (0, vr 7 35), (1, vi c), (2, vr 1 1)]) (rest := []) 1 (fun _ _ _ _ => rfl) (m177 _ _ g.1 ?_)
  show xW (xX0 xs Ls) p180 34 [(3, vi (zb (!decide (c < 144)))), (0, vr 7 35), (1, vi c), (2, vr 1 1)] [vi (pr_placeOf s (if (!decide (c < 144)) = true then (c - 144) else (c - 136)))] (xhp s) Φ
  replace g := g.2
  refine xW.br (c := 0 ≤ (pr_placeOf s (if (!decide (c < 144)) = true then (c - 144) else (c - 136)))) (pc1 := 44) (L1 := [(4, vi (pr_placeOf s (if (!decide (c < 144)) = true then (c - 144) else (c - 136)))), (3, vi (zb (!decide (c < 144)))), (0, vr 7 35), (1, vi c), (2, vr 1 1)]) (st1 := []) (h1 := xhp s) (pc2 := 41) (L2 := [(4, vi (pr_placeOf s (if (!decide (c < 144)) = true then (c - 144) else (c - 136)))), (3, vi (zb (!decide (c < 144)))), (0, vr 7 35), (1, vi c), (2, vr 1 1)]) (st2 := []) (h2 := xhp s) 3 (fun _ _ _ _ => rfl) (fun hc => ?_) (fun hc => ?_)
  · replace g := g.1 hc
    refine xW.br (c := (zb (!decide (c < 144))) = 0) (pc1 := 82) (L1 := [(4, vi (pr_placeOf s (if (!decide (c < 144)) = true then (c - 144) else (c - 136)))), (3, vi (zb (!decide (c < 144)))), (0, vr 7 35), (1, vi c), (2, vr 1 1)]) (st1 := []) (h1 := xhp s) (pc2 := 48) (L2 := [(4, vi (pr_placeOf s (if (!decide (c < 144)) = true then (c - 144) else (c - 136)))), (3, vi (zb (!decide (c < 144)))), (0, vr 7 35), (1, vi c), (2, vr 1 1)]) (st2 := []) (h2 := xhp s) 2 (fun _ _ _ _ => rfl) (fun hc => ?_) (fun hc => ?_)
    · replace g := g.1 (zb_eq0.mp hc)
      exact xW.locs (L := [(0, vr 7 35), (2, vr 1 1), (4, vi (pr_placeOf s (if (!decide (c < 144)) = true then (c - 144) else (c - 136))))]) ⟨rfl, rfl, rfl, trivial⟩ rfl g
    · replace g := g.2 (zb_ne0.mp hc)
      refine xW.br (c := (gI s 35 2) < 4) (pc1 := 59) (L1 := [(4, vi (pr_placeOf s (if (!decide (c < 144)) = true then (c - 144) else (c - 136)))), (3, vi (zb (!decide (c < 144)))), (0, vr 7 35), (1, vi c), (2, vr 1 1)]) (st1 := []) (h1 := xhp s) (pc2 := 56) (L2 := [(4, vi (pr_placeOf s (if (!decide (c < 144)) = true then (c - 144) else (c - 136)))), (3, vi (zb (!decide (c < 144)))), (0, vr 7 35), (1, vi c), (2, vr 1 1)]) (st2 := []) (h2 := xhp s) 4 (fun _ _ _ _ => rfl) (fun hc => ?_) (fun hc => ?_)
      · replace g := g.1 hc
        refine xW.side (c := vp_in (gI s 35 2) 4) (pc1 := 72) (L1 := [(4, vi (pr_placeOf s (if (!decide (c < 144)) = true then (c - 144) else (c - 136)))), (3, vi (zb (!decide (c < 144)))), (0, vr 7 35), (1, vi c), (2, vr 1 1)]) (st1 := []) (h1 := xhp (sI s 37 ((gI s 35 2).toNatClampNeg) (gI s 35 1))) 7 (fun _ _ _ _ => rfl) g.1 ?_
        replace g := g.2
        refine xW.seg (pc1 := 82) (L1 := [(4, vi (pr_placeOf s (if (!decide (c < 144)) = true then (c - 144) else (c - 136)))), (3, vi (zb (!decide (c < 144)))), (0, vr 7 35), (1, vi c), (2, vr 1 1)]) (st1 := []) (h1 := xhp (sI (sI s 37 ((gI s 35 2).toNatClampNeg) (gI s 35 1)) 35 2 ((gI s 35 2) + 1))) 6 (fun _ _ _ _ => rfl) ?_
        exact xW.locs (L := [(0, vr 7 35), (2, vr 1 1), (4, vi (pr_placeOf s (if (!decide (c < 144)) = true then (c - 144) else (c - 136))))]) ⟨rfl, rfl, rfl, trivial⟩ rfl g
      · replace g := g.2 hc
        exact xW.ret (v0 := some (vi 8)) (h1 := xhp s) 2 (fun _ _ _ _ => rfl) g
  · replace g := g.2 hc
    exact xW.ret (v0 := some (vi 7)) (h1 := xhp s) 2 (fun _ _ _ _ => rfl) g
noncomputable def pr_jump_d (s : xS) (c : Int32) : Int32 × xS := (if 0 ≤ (pr_placeOf s (if (!decide (c < 144)) = true then (c - 144) else (c - 136))) then (if (!decide (c < 144)) = false then (pr_jump_82 s (pr_placeOf s (if (!decide (c < 144)) = true then (c - 144) else (c - 136)))) else (if (gI s 35 2) < 4 then (pr_jump_82 (sI (sI s 37 ((gI s 35 2).toNatClampNeg) (gI s 35 1)) 35 2 ((gI s 35 2) + 1)) (pr_placeOf s (if (!decide (c < 144)) = true then (c - 144) else (c - 136)))) else (8, s))) else (7, s))
noncomputable def pr_jump : xS → Int32 → Int32 × xS := Classical.choose (⟨pr_jump_d, rfl⟩ : ∃ f, f = pr_jump_d)
set_option maxRecDepth 100000 in
theorem pr_jump_eq : pr_jump = pr_jump_d := Classical.choose_spec (⟨pr_jump_d, rfl⟩ : ∃ f, f = pr_jump_d)
def pr_jump_ok (s : xS) (c : Int32) : Prop := ((pr_placeOf_ok s (if (!decide (c < 144)) = true then (c - 144) else (c - 136))) ∧ (0 ≤ (pr_placeOf s (if (!decide (c < 144)) = true then (c - 144) else (c - 136))) → ((!decide (c < 144)) = true → ((gI s 35 2) < 4 → (vp_in (gI s 35 2) 4)))))
set_option maxRecDepth 100000 in
theorem m180 {xs : Nat → Int32} {Ls : Nat} {Ψ : xO → xH → Prop} (s : xS) (c : Int32) (gq : pr_jump_ok s c) (h : Ψ (.inl (some (vi (pr_jump s c).1))) (xhp (pr_jump s c).2)) : xM (xX0 xs Ls) 180 [vr 7 35, vi c, vr 1 1] (xhp s) Ψ := by
  rw [pr_jump_eq] at h
  unfold pr_jump_d at h
  unfold pr_jump_ok at gq
  exact xM.of (P := p180) rfl rfl rfl (b180_0 s c (⟨gq.1, by replace gq := gq.2; exact ⟨fun hc => by rw [if_pos hc] at h; replace gq := gq hc; exact ⟨fun hc => by rw [if_pos hc] at h; exact n180_82 _ _ h, fun hc => by rw [if_neg (by rw [hc]; decide)] at h; replace gq := gq hc; exact ⟨fun hc => by rw [if_pos hc] at h; replace gq := gq hc; exact ⟨gq, n180_82 _ _ h⟩, fun hc => by rw [if_neg hc] at h; exact (by (try dsimp only at h); exact h)⟩⟩, fun hc => by rw [if_neg hc] at h; exact (by (try dsimp only at h); exact h)⟩⟩))
/-! pr_comeBack -/
theorem b181_0 {xs : Nat → Int32} {Ls : Nat} {Φ : Option xV → xH → Prop} (s : xS) (g : ((¬ (gI s 35 2) = 0 → ((vp_in ((gI s 35 2) - 1) 4) ∧ Φ (some (vi 0)) (xhp (sI (sI s 35 2 ((gI s 35 2) - 1)) 35 1 ((gI s 37 (((gI s 35 2) - 1).toNatClampNeg)) + 1))))) ∧ ((gI s 35 2) = 0 → Φ (some (vi (-1))) (xhp s)))) : xW (xX0 xs Ls) p181 0 [(0, vr 7 35)] [] (xhp s) Φ := by
  refine xW.br (c := ¬ (gI s 35 2) = 0) (pc1 := 9) (L1 := [(0, vr 7 35)]) (st1 := []) (h1 := xhp s) (pc2 := 7) (L2 := [(0, vr 7 35)]) (st2 := []) (h2 := xhp s) 3 (fun _ _ _ _ => rfl) (fun hc => ?_) (fun hc => ?_)
  · replace g := g.1 hc
    refine xW.side (c := vp_in ((gI s 35 2) - 1) 4) (pc1 := 29) (L1 := [(0, vr 7 35)]) (st1 := [vi (gI s 37 (((gI s 35 2) - 1).toNatClampNeg)), vr 7 35]) (h1 := xhp (sI s 35 2 ((gI s 35 2) - 1))) 12 (fun _ _ _ _ => rfl) g.1 ?_
    replace g := g.2
    exact xW.ret (v0 := some (vi 0)) (h1 := xhp (sI (sI s 35 2 ((gI s 35 2) - 1)) 35 1 ((gI s 37 (((gI s 35 2) - 1).toNatClampNeg)) + 1))) 5 (fun _ _ _ _ => rfl) g
  · replace g := g.2 (Decidable.not_not.mp hc)
    exact xW.ret (v0 := some (vi (-1))) (h1 := xhp s) 2 (fun _ _ _ _ => rfl) g
noncomputable def pr_comeBack_d (s : xS) : Int32 × xS := (if ¬ (gI s 35 2) = 0 then (0, (sI (sI s 35 2 ((gI s 35 2) - 1)) 35 1 ((gI s 37 (((gI s 35 2) - 1).toNatClampNeg)) + 1))) else ((-1), s))
noncomputable def pr_comeBack : xS → Int32 × xS := Classical.choose (⟨pr_comeBack_d, rfl⟩ : ∃ f, f = pr_comeBack_d)
set_option maxRecDepth 100000 in
theorem pr_comeBack_eq : pr_comeBack = pr_comeBack_d := Classical.choose_spec (⟨pr_comeBack_d, rfl⟩ : ∃ f, f = pr_comeBack_d)
def pr_comeBack_ok (s : xS) : Prop := (¬ (gI s 35 2) = 0 → (vp_in ((gI s 35 2) - 1) 4))
set_option maxRecDepth 100000 in
theorem m181 {xs : Nat → Int32} {Ls : Nat} {Ψ : xO → xH → Prop} (s : xS) (gq : pr_comeBack_ok s) (h : Ψ (.inl (some (vi (pr_comeBack s).1))) (xhp (pr_comeBack s).2)) : xM (xX0 xs Ls) 181 [vr 7 35] (xhp s) Ψ := by
  rw [pr_comeBack_eq] at h
  unfold pr_comeBack_d at h
  unfold pr_comeBack_ok at gq
  exact xM.of (P := p181) rfl rfl rfl (b181_0 s (⟨fun hc => by rw [if_pos hc] at h; replace gq := gq hc; exact ⟨gq, (by (try dsimp only at h); exact h)⟩, fun hc => by rw [if_neg (fun z => z hc)] at h; exact (by (try dsimp only at h); exact h)⟩))
/-! pr_test -/
theorem b182_98 {xs : Nat → Int32} {Ls : Nat} {Φ : Option xV → xH → Prop} (s : xS) (x4 : Int32) (g : Φ (some (vi 0)) (xhp (sI s 35 1 ((gI s 35 1) + (if x4 = 0 then (2 : Int32) else 1))))) : xW (xX0 xs Ls) p182 98 [(0, vr 7 35), (4, vi x4)] [] (xhp s) Φ := by
  refine xW.seg (pc1 := 105) (L1 := [(0, vr 7 35), (4, vi x4)]) (st1 := [vi x4, vi (gI s 35 1), vr 7 35]) (h1 := xhp s) 4 (fun _ _ _ _ => rfl) ?_
  suffices J : xW (xX0 xs Ls) p182 113 [(0, vr 7 35), (4, vi x4)] [vi (if x4 = 0 then (2 : Int32) else 1), vi (gI s 35 1), vr 7 35] (xhp s) Φ by
    refine xW.br (c := x4 = 0) (pc1 := 112) (L1 := [(0, vr 7 35), (4, vi x4)]) (st1 := [vi (gI s 35 1), vr 7 35]) (h1 := xhp s) (pc2 := 108) (L2 := [(0, vr 7 35), (4, vi x4)]) (st2 := [vi (gI s 35 1), vr 7 35]) (h2 := xhp s) 1 (fun _ _ _ _ => rfl) (fun hc => ?_) (fun hc => ?_)
    · have hc1 : x4 = 0 := hc
      refine xW.seg (pc1 := 113) (L1 := [(0, vr 7 35), (4, vi x4)]) (st1 := [vi 2, vi (gI s 35 1), vr 7 35]) (h1 := xhp s) 1 (fun _ _ _ _ => rfl) ?_
      refine xW.to (v := vi (if x4 = 0 then (2 : Int32) else 1)) ((congrArg vi (if_pos hc1)).symm) ?_
      exact J
    · have hc1 : ¬ (x4 = 0) := hc
      refine xW.seg (pc1 := 113) (L1 := [(0, vr 7 35), (4, vi x4)]) (st1 := [vi 1, vi (gI s 35 1), vr 7 35]) (h1 := xhp s) 2 (fun _ _ _ _ => rfl) ?_
      refine xW.to (v := vi (if x4 = 0 then (2 : Int32) else 1)) ((congrArg vi (if_neg hc1)).symm) ?_
      exact J
  exact xW.ret (v0 := some (vi 0)) (h1 := xhp (sI s 35 1 ((gI s 35 1) + (if x4 = 0 then (2 : Int32) else 1)))) 4 (fun _ _ _ _ => rfl) g
noncomputable def pr_test_98_d (s : xS) (x4 : Int32) : Int32 × xS := (0, (sI s 35 1 ((gI s 35 1) + (if x4 = 0 then (2 : Int32) else 1))))
noncomputable def pr_test_98 : xS → Int32 → Int32 × xS := Classical.choose (⟨pr_test_98_d, rfl⟩ : ∃ f, f = pr_test_98_d)
set_option maxRecDepth 100000 in
theorem pr_test_98_eq : pr_test_98 = pr_test_98_d := Classical.choose_spec (⟨pr_test_98_d, rfl⟩ : ∃ f, f = pr_test_98_d)
set_option maxRecDepth 100000 in
theorem n182_98 {xs : Nat → Int32} {Ls : Nat} {Φ : Option xV → xH → Prop} (s : xS) (x4 : Int32) (h : Φ (some (vi (pr_test_98 s x4).1)) (xhp (pr_test_98 s x4).2)) : xW (xX0 xs Ls) p182 98 [(0, vr 7 35), (4, vi x4)] [] (xhp s) Φ := by
  rw [pr_test_98_eq] at h
  unfold pr_test_98_d at h
  exact b182_98 s x4 ((by (try dsimp only at h); exact h))
set_option maxRecDepth 100000 in
theorem b182_0 {xs : Nat → Int32} {Ls : Nat} {Φ : Option xV → xH → Prop} (s : xS) (c : Int32) (g : ((¬ c = 154 → ((¬ c = 155 → ((ca_countDown_ok s (c - 156)) ∧ (((ca_countDown s (c - 156)).1 = 0 → ((vp_in (c - 156) 15 ∧ xRok 3 ((c - 156).toNatClampNeg) 5) ∧ xW (xX0 xs Ls) p182 98 [(0, vr 7 35), (4, vi (zb (!decide ((gJ ((ca_countDown s (c - 156)).2) (xR0 3 ((c - 156).toNatClampNeg) - 1) 0) ≤ 0))))] [] (xhp ((ca_countDown s (c - 156)).2)) Φ)) ∧ (¬ ((ca_countDown s (c - 156)).1 = 0) → Φ (some (vi ((ca_countDown s (c - 156)).1))) (xhp ((ca_countDown s (c - 156)).2)))))) ∧ (c = 155 → xW (xX0 xs Ls) p182 98 [(0, vr 7 35), (4, vi (zb (de_isBelowZero s 18)))] [] (xhp s) Φ))) ∧ (c = 154 → xW (xX0 xs Ls) p182 98 [(0, vr 7 35), (4, vi (zb (decide ((gJ s 18 0) = 0))))] [] (xhp s) Φ))) : xW (xX0 xs Ls) p182 0 [(0, vr 7 35), (1, vi c), (2, vr 1 1)] [] (xhp s) Φ := by
  refine xW.br (c := ¬ c = 154) (pc1 := 34) (L1 := [(3, vr 5 18), (0, vr 7 35), (1, vi c), (2, vr 1 1)]) (st1 := []) (h1 := xhp s) (pc2 := 15) (L2 := [(3, vr 5 18), (0, vr 7 35), (1, vi c), (2, vr 1 1)]) (st2 := []) (h2 := xhp s) 7 (fun _ _ _ _ => rfl) (fun hc => ?_) (fun hc => ?_)
  · replace g := g.1 hc
    refine xW.br (c := ¬ c = 155) (pc1 := 50) (L1 := [(3, vr 5 18), (0, vr 7 35), (1, vi c), (2, vr 1 1)]) (st1 := []) (h1 := xhp s) (pc2 := 41) (L2 := [(3, vr 5 18), (0, vr 7 35), (1, vi c), (2, vr 1 1)]) (st2 := []) (h2 := xhp s) 3 (fun _ _ _ _ => rfl) (fun hc => ?_) (fun hc => ?_)
    · replace g := g.1 hc
      refine xW.call (y := 127) (as := [vr 1 1, vi (c - 156)]) (h0 := xhp s) (pc0 := 60) (len := 3) (L0 := [(5, vi (c - 156)), (3, vr 5 18), (0, vr 7 35), (1, vi c), (2, vr 1 1)]) (rest := []) 7 (fun _ _ _ _ => rfl) (m127 _ _ g.1 ?_)
      show xW (xX0 xs Ls) p182 63 [(5, vi (c - 156)), (3, vr 5 18), (0, vr 7 35), (1, vi c), (2, vr 1 1)] [vi ((ca_countDown s (c - 156)).1)] (xhp ((ca_countDown s (c - 156)).2)) Φ
      replace g := g.2
      refine xW.br (c := (ca_countDown s (c - 156)).1 = 0) (pc1 := 73) (L1 := [(6, vi ((ca_countDown s (c - 156)).1)), (5, vi (c - 156)), (3, vr 5 18), (0, vr 7 35), (1, vi c), (2, vr 1 1)]) (st1 := []) (h1 := xhp ((ca_countDown s (c - 156)).2)) (pc2 := 70) (L2 := [(6, vi ((ca_countDown s (c - 156)).1)), (5, vi (c - 156)), (3, vr 5 18), (0, vr 7 35), (1, vi c), (2, vr 1 1)]) (st2 := []) (h2 := xhp ((ca_countDown s (c - 156)).2)) 3 (fun _ _ _ _ => rfl) (fun hc => ?_) (fun hc => ?_)
      · replace g := g.1 hc
        refine xW.refr (r := xR0 3 ((c - 156).toNatClampNeg)) (a := (xR0 3 ((c - 156).toNatClampNeg) - 1)) (kind := 5) (c := vp_in (c - 156) 15) (h0 := xhp ((ca_countDown s (c - 156)).2)) (pc1 := 83) (L1 := [(6, vi ((ca_countDown s (c - 156)).1)), (5, vi (c - 156)), (3, vr 5 18), (0, vr 7 35), (1, vi c), (2, vr 1 1)]) (st1 := []) (h1 := xhp ((ca_countDown s (c - 156)).2)) 5 (fun _ _ _ _ => rfl) g.1.1 g.1.2.1 g.1.2.2 ?_
        replace g := g.2
        refine xW.seg (pc1 := 88) (L1 := [(6, vi ((ca_countDown s (c - 156)).1)), (5, vi (c - 156)), (3, vr 5 18), (0, vr 7 35), (1, vi c), (2, vr 1 1)]) (st1 := [vi (lg_cmp (gJ ((ca_countDown s (c - 156)).2) (xR0 3 ((c - 156).toNatClampNeg) - 1) 0) 0)]) (h1 := xhp ((ca_countDown s (c - 156)).2)) 3 (fun _ _ _ _ => rfl) ?_
        suffices J : xW (xX0 xs Ls) p182 96 [(6, vi ((ca_countDown s (c - 156)).1)), (5, vi (c - 156)), (3, vr 5 18), (0, vr 7 35), (1, vi c), (2, vr 1 1)] [vi (zb (!decide ((gJ ((ca_countDown s (c - 156)).2) (xR0 3 ((c - 156).toNatClampNeg) - 1) 0) ≤ 0)))] (xhp ((ca_countDown s (c - 156)).2)) Φ by
          refine xW.br (c := (lg_cmp (gJ ((ca_countDown s (c - 156)).2) (xR0 3 ((c - 156).toNatClampNeg) - 1) 0) 0) ≤ 0) (pc1 := 95) (L1 := [(6, vi ((ca_countDown s (c - 156)).1)), (5, vi (c - 156)), (3, vr 5 18), (0, vr 7 35), (1, vi c), (2, vr 1 1)]) (st1 := []) (h1 := xhp ((ca_countDown s (c - 156)).2)) (pc2 := 91) (L2 := [(6, vi ((ca_countDown s (c - 156)).1)), (5, vi (c - 156)), (3, vr 5 18), (0, vr 7 35), (1, vi c), (2, vr 1 1)]) (st2 := []) (h2 := xhp ((ca_countDown s (c - 156)).2)) 1 (fun _ _ _ _ => rfl) (fun hc => ?_) (fun hc => ?_)
          · have hc1 : (gJ ((ca_countDown s (c - 156)).2) (xR0 3 ((c - 156).toNatClampNeg) - 1) 0) ≤ 0 := (lc_le.mp hc)
            refine xW.seg (pc1 := 96) (L1 := [(6, vi ((ca_countDown s (c - 156)).1)), (5, vi (c - 156)), (3, vr 5 18), (0, vr 7 35), (1, vi c), (2, vr 1 1)]) (st1 := [vi 0]) (h1 := xhp ((ca_countDown s (c - 156)).2)) 1 (fun _ _ _ _ => rfl) ?_
            refine xW.to (v := vi (zb (!decide ((gJ ((ca_countDown s (c - 156)).2) (xR0 3 ((c - 156).toNatClampNeg) - 1) 0) ≤ 0)))) (zb_f (by simp only [decide_eq_true hc1, Bool.true_or, Bool.or_true, Bool.false_or, Bool.or_false, Bool.true_and, Bool.and_true, Bool.false_and, Bool.and_false, Bool.not_true, Bool.not_false, cond_true, cond_false])) ?_
            exact J
          · have hc1 : ¬ ((gJ ((ca_countDown s (c - 156)).2) (xR0 3 ((c - 156).toNatClampNeg) - 1) 0) ≤ 0) := (fun q => hc (lc_le.mpr q))
            refine xW.seg (pc1 := 96) (L1 := [(6, vi ((ca_countDown s (c - 156)).1)), (5, vi (c - 156)), (3, vr 5 18), (0, vr 7 35), (1, vi c), (2, vr 1 1)]) (st1 := [vi 1]) (h1 := xhp ((ca_countDown s (c - 156)).2)) 2 (fun _ _ _ _ => rfl) ?_
            refine xW.to (v := vi (zb (!decide ((gJ ((ca_countDown s (c - 156)).2) (xR0 3 ((c - 156).toNatClampNeg) - 1) 0) ≤ 0)))) (zb_t (by simp only [decide_eq_false hc1, Bool.true_or, Bool.or_true, Bool.false_or, Bool.or_false, Bool.true_and, Bool.and_true, Bool.false_and, Bool.and_false, Bool.not_true, Bool.not_false, cond_true, cond_false])) ?_
            exact J
        refine xW.seg (pc1 := 98) (L1 := [(4, vi (zb (!decide ((gJ ((ca_countDown s (c - 156)).2) (xR0 3 ((c - 156).toNatClampNeg) - 1) 0) ≤ 0)))), (6, vi ((ca_countDown s (c - 156)).1)), (5, vi (c - 156)), (3, vr 5 18), (0, vr 7 35), (1, vi c), (2, vr 1 1)]) (st1 := []) (h1 := xhp ((ca_countDown s (c - 156)).2)) 1 (fun _ _ _ _ => rfl) ?_
        exact xW.locs (L := [(0, vr 7 35), (4, vi (zb (!decide ((gJ ((ca_countDown s (c - 156)).2) (xR0 3 ((c - 156).toNatClampNeg) - 1) 0) ≤ 0))))]) ⟨rfl, rfl, trivial⟩ rfl g
      · replace g := g.2 hc
        exact xW.ret (v0 := some (vi ((ca_countDown s (c - 156)).1))) (h1 := xhp ((ca_countDown s (c - 156)).2)) 2 (fun _ _ _ _ => rfl) g
    · replace g := g.2 (Decidable.not_not.mp hc)
      refine xW.call (y := 140) (as := [vr 5 18]) (h0 := xhp s) (pc0 := 42) (len := 3) (L0 := [(3, vr 5 18), (0, vr 7 35), (1, vi c), (2, vr 1 1)]) (rest := []) 2 (fun _ _ _ _ => rfl) (m140 _ _ ?_)
      show xW (xX0 xs Ls) p182 45 [(3, vr 5 18), (0, vr 7 35), (1, vi c), (2, vr 1 1)] [vi (zb (de_isBelowZero s 18))] (xhp s) Φ
      refine xW.seg (pc1 := 98) (L1 := [(4, vi (zb (de_isBelowZero s 18))), (3, vr 5 18), (0, vr 7 35), (1, vi c), (2, vr 1 1)]) (st1 := []) (h1 := xhp s) 2 (fun _ _ _ _ => rfl) ?_
      exact xW.locs (L := [(0, vr 7 35), (4, vi (zb (de_isBelowZero s 18)))]) ⟨rfl, rfl, trivial⟩ rfl g
  · replace g := g.2 (Decidable.not_not.mp hc)
    refine xW.seg (pc1 := 21) (L1 := [(3, vr 5 18), (0, vr 7 35), (1, vi c), (2, vr 1 1)]) (st1 := [vi (lg_cmp (gJ s 18 0) 0)]) (h1 := xhp s) 4 (fun _ _ _ _ => rfl) ?_
    suffices J : xW (xX0 xs Ls) p182 29 [(3, vr 5 18), (0, vr 7 35), (1, vi c), (2, vr 1 1)] [vi (zb (decide ((gJ s 18 0) = 0)))] (xhp s) Φ by
      refine xW.br (c := ¬ (lg_cmp (gJ s 18 0) 0) = 0) (pc1 := 28) (L1 := [(3, vr 5 18), (0, vr 7 35), (1, vi c), (2, vr 1 1)]) (st1 := []) (h1 := xhp s) (pc2 := 24) (L2 := [(3, vr 5 18), (0, vr 7 35), (1, vi c), (2, vr 1 1)]) (st2 := []) (h2 := xhp s) 1 (fun _ _ _ _ => rfl) (fun hc => ?_) (fun hc => ?_)
      · have hc2 : ¬ (gJ s 18 0) = 0 := (fun q => hc (lc_eq.mpr q))
        refine xW.seg (pc1 := 29) (L1 := [(3, vr 5 18), (0, vr 7 35), (1, vi c), (2, vr 1 1)]) (st1 := [vi 0]) (h1 := xhp s) 1 (fun _ _ _ _ => rfl) ?_
        refine xW.to (v := vi (zb (decide ((gJ s 18 0) = 0)))) (zb_f (by simp only [decide_eq_false hc2, Bool.true_or, Bool.or_true, Bool.false_or, Bool.or_false, Bool.true_and, Bool.and_true, Bool.false_and, Bool.and_false, Bool.not_true, Bool.not_false, cond_true, cond_false])) ?_
        exact J
      · have hc2 : (gJ s 18 0) = 0 := (lc_eq.mp (Decidable.not_not.mp hc))
        refine xW.seg (pc1 := 29) (L1 := [(3, vr 5 18), (0, vr 7 35), (1, vi c), (2, vr 1 1)]) (st1 := [vi 1]) (h1 := xhp s) 2 (fun _ _ _ _ => rfl) ?_
        refine xW.to (v := vi (zb (decide ((gJ s 18 0) = 0)))) (zb_t (by simp only [decide_eq_true hc2, Bool.true_or, Bool.or_true, Bool.false_or, Bool.or_false, Bool.true_and, Bool.and_true, Bool.false_and, Bool.and_false, Bool.not_true, Bool.not_false, cond_true, cond_false])) ?_
        exact J
    refine xW.seg (pc1 := 98) (L1 := [(4, vi (zb (decide ((gJ s 18 0) = 0)))), (3, vr 5 18), (0, vr 7 35), (1, vi c), (2, vr 1 1)]) (st1 := []) (h1 := xhp s) 2 (fun _ _ _ _ => rfl) ?_
    exact xW.locs (L := [(0, vr 7 35), (4, vi (zb (decide ((gJ s 18 0) = 0))))]) ⟨rfl, rfl, trivial⟩ rfl g
noncomputable def pr_test_d (s : xS) (c : Int32) : Int32 × xS := (if ¬ c = 154 then (if ¬ c = 155 then (if (ca_countDown s (c - 156)).1 = 0 then (pr_test_98 ((ca_countDown s (c - 156)).2) (zb (!decide ((gJ ((ca_countDown s (c - 156)).2) (xR0 3 ((c - 156).toNatClampNeg) - 1) 0) ≤ 0)))) else (ca_countDown s (c - 156))) else (pr_test_98 s (zb (de_isBelowZero s 18)))) else (pr_test_98 s (zb (decide ((gJ s 18 0) = 0)))))
noncomputable def pr_test : xS → Int32 → Int32 × xS := Classical.choose (⟨pr_test_d, rfl⟩ : ∃ f, f = pr_test_d)
set_option maxRecDepth 100000 in
theorem pr_test_eq : pr_test = pr_test_d := Classical.choose_spec (⟨pr_test_d, rfl⟩ : ∃ f, f = pr_test_d)
def pr_test_ok (s : xS) (c : Int32) : Prop := (¬ c = 154 → (¬ c = 155 → ((ca_countDown_ok s (c - 156)) ∧ ((ca_countDown s (c - 156)).1 = 0 → (vp_in (c - 156) 15 ∧ xRok 3 ((c - 156).toNatClampNeg) 5)))))
set_option maxRecDepth 100000 in
theorem m182 {xs : Nat → Int32} {Ls : Nat} {Ψ : xO → xH → Prop} (s : xS) (c : Int32) (gq : pr_test_ok s c) (h : Ψ (.inl (some (vi (pr_test s c).1))) (xhp (pr_test s c).2)) : xM (xX0 xs Ls) 182 [vr 7 35, vi c, vr 1 1] (xhp s) Ψ := by
  rw [pr_test_eq] at h
  unfold pr_test_d at h
  unfold pr_test_ok at gq
  exact xM.of (P := p182) rfl rfl rfl (b182_0 s c (⟨fun hc => by rw [if_pos hc] at h; replace gq := gq hc; exact ⟨fun hc => by rw [if_pos hc] at h; replace gq := gq hc; exact ⟨gq.1, by replace gq := gq.2; exact ⟨fun hc => by rw [if_pos hc] at h; replace gq := gq hc; exact ⟨gq, n182_98 _ _ h⟩, fun hc => by rw [if_neg hc] at h; exact (by (try dsimp only at h); exact h)⟩⟩, fun hc => by rw [if_neg (fun z => z hc)] at h; exact n182_98 _ _ h⟩, fun hc => by rw [if_neg (fun z => z hc)] at h; exact n182_98 _ _ h⟩))
/-! pr_step -/
theorem b179_50 {xs : Nat → Int32} {Ls : Nat} {Φ : Option xV → xH → Prop} (s : xS) (x2 : Int32) (g : ((ca_doKey_ok s x2) ∧ ((¬ (ca_doKey s x2).1 = 0 → Φ (some (vi ((ca_doKey s x2).1))) (xhp ((ca_doKey s x2).2))) ∧ ((ca_doKey s x2).1 = 0 → Φ (some (vi ((ca_doKey s x2).1))) (xhp (sI ((ca_doKey s x2).2) 35 1 ((gI ((ca_doKey s x2).2) 35 1) + 1))))))) : xW (xX0 xs Ls) p179 50 [(0, vr 7 35), (1, vr 1 1), (2, vi x2)] [] (xhp s) Φ := by
  refine xW.call (y := 125) (as := [vr 1 1, vi x2]) (h0 := xhp s) (pc0 := 52) (len := 3) (L0 := [(0, vr 7 35), (1, vr 1 1), (2, vi x2)]) (rest := []) 3 (fun _ _ _ _ => rfl) (m125 _ _ g.1 ?_)
  show xW (xX0 xs Ls) p179 55 [(0, vr 7 35), (1, vr 1 1), (2, vi x2)] [vi ((ca_doKey s x2).1)] (xhp ((ca_doKey s x2).2)) Φ
  replace g := g.2
  refine xW.br (c := ¬ (ca_doKey s x2).1 = 0) (pc1 := 70) (L1 := [(3, vi ((ca_doKey s x2).1)), (0, vr 7 35), (1, vr 1 1), (2, vi x2)]) (st1 := []) (h1 := xhp ((ca_doKey s x2).2)) (pc2 := 60) (L2 := [(3, vi ((ca_doKey s x2).1)), (0, vr 7 35), (1, vr 1 1), (2, vi x2)]) (st2 := []) (h2 := xhp ((ca_doKey s x2).2)) 3 (fun _ _ _ _ => rfl) (fun hc => ?_) (fun hc => ?_)
  · replace g := g.1 hc
    exact xW.ret (v0 := some (vi ((ca_doKey s x2).1))) (h1 := xhp ((ca_doKey s x2).2)) 2 (fun _ _ _ _ => rfl) g
  · replace g := g.2 (Decidable.not_not.mp hc)
    exact xW.ret (v0 := some (vi ((ca_doKey s x2).1))) (h1 := xhp (sI ((ca_doKey s x2).2) 35 1 ((gI ((ca_doKey s x2).2) 35 1) + 1))) 8 (fun _ _ _ _ => rfl) g
noncomputable def pr_step_50_d (s : xS) (x2 : Int32) : Int32 × xS := (if ¬ (ca_doKey s x2).1 = 0 then (ca_doKey s x2) else ((ca_doKey s x2).1, (sI ((ca_doKey s x2).2) 35 1 ((gI ((ca_doKey s x2).2) 35 1) + 1))))
noncomputable def pr_step_50 : xS → Int32 → Int32 × xS := Classical.choose (⟨pr_step_50_d, rfl⟩ : ∃ f, f = pr_step_50_d)
set_option maxRecDepth 100000 in
theorem pr_step_50_eq : pr_step_50 = pr_step_50_d := Classical.choose_spec (⟨pr_step_50_d, rfl⟩ : ∃ f, f = pr_step_50_d)
def pr_step_50_ok (s : xS) (x2 : Int32) : Prop := (ca_doKey_ok s x2)
set_option maxRecDepth 100000 in
theorem n179_50 {xs : Nat → Int32} {Ls : Nat} {Φ : Option xV → xH → Prop} (s : xS) (x2 : Int32) (gq : pr_step_50_ok s x2) (h : Φ (some (vi (pr_step_50 s x2).1)) (xhp (pr_step_50 s x2).2)) : xW (xX0 xs Ls) p179 50 [(0, vr 7 35), (1, vr 1 1), (2, vi x2)] [] (xhp s) Φ := by
  rw [pr_step_50_eq] at h
  unfold pr_step_50_d at h
  unfold pr_step_50_ok at gq
  exact b179_50 s x2 (⟨gq, ⟨fun hc => by rw [if_pos hc] at h; exact (by (try dsimp only at h); exact h), fun hc => by rw [if_neg (fun z => z hc)] at h; exact (by (try dsimp only at h); exact h)⟩⟩)
set_option maxRecDepth 100000 in
theorem b179_22 {xs : Nat → Int32} {Ls : Nat} {Φ : Option xV → xH → Prop} (s : xS) (y0 : Int32) (g : ((y0 = 0 → Φ (some (vi (-1))) (xhp s)) ∧ (¬ (y0 = 0) → ((¬ y0 = 153 → ((y0 < 128 → xW (xX0 xs Ls) p179 50 [(0, vr 7 35), (1, vr 1 1), (2, vi y0)] [] (xhp s) Φ) ∧ (¬ (y0 < 128) → ((y0 ≤ 165 → ((136 ≤ y0 → ((152 ≤ y0 → ((¬ y0 = 152 → ((pr_test_ok (ca_endEntry s) y0) ∧ Φ (some (vi ((pr_test (ca_endEntry s) y0).1))) (xhp ((pr_test (ca_endEntry s) y0).2)))) ∧ (y0 = 152 → ((pr_comeBack_ok (ca_endEntry s)) ∧ Φ (some (vi ((pr_comeBack (ca_endEntry s)).1))) (xhp ((pr_comeBack (ca_endEntry s)).2)))))) ∧ (¬ (152 ≤ y0) → ((pr_jump_ok s y0) ∧ Φ (some (vi ((pr_jump s y0).1))) (xhp ((pr_jump s y0).2)))))) ∧ (¬ (136 ≤ y0) → Φ (some (vi 0)) (xhp (sI s 35 1 ((gI s 35 1) + 1)))))) ∧ (¬ (y0 ≤ 165) → xW (xX0 xs Ls) p179 50 [(0, vr 7 35), (1, vr 1 1), (2, vi y0)] [] (xhp s) Φ))))) ∧ (y0 = 153 → Φ (some (vi (-1))) (xhp s)))))) : xW (xX0 xs Ls) p179 22 [(0, vr 7 35), (1, vr 1 1)] [vi y0] (xhp s) Φ := by
  refine xW.br (c := y0 = 0) (pc1 := 34) (L1 := [(2, vi y0), (0, vr 7 35), (1, vr 1 1)]) (st1 := []) (h1 := xhp s) (pc2 := 27) (L2 := [(2, vi y0), (0, vr 7 35), (1, vr 1 1)]) (st2 := []) (h2 := xhp s) 3 (fun _ _ _ _ => rfl) (fun hc => ?_) (fun hc => ?_)
  · replace g := g.1 hc
    exact xW.ret (v0 := some (vi (-1))) (h1 := xhp s) 2 (fun _ _ _ _ => rfl) g
  · replace g := g.2 hc
    refine xW.br (c := ¬ y0 = 153) (pc1 := 36) (L1 := [(2, vi y0), (0, vr 7 35), (1, vr 1 1)]) (st1 := []) (h1 := xhp s) (pc2 := 34) (L2 := [(2, vi y0), (0, vr 7 35), (1, vr 1 1)]) (st2 := []) (h2 := xhp s) 3 (fun _ _ _ _ => rfl) (fun hc => ?_) (fun hc => ?_)
    · replace g := g.1 hc
      refine xW.br (c := y0 < 128) (pc1 := 50) (L1 := [(2, vi y0), (0, vr 7 35), (1, vr 1 1)]) (st1 := []) (h1 := xhp s) (pc2 := 43) (L2 := [(2, vi y0), (0, vr 7 35), (1, vr 1 1)]) (st2 := []) (h2 := xhp s) 3 (fun _ _ _ _ => rfl) (fun hc => ?_) (fun hc => ?_)
      · replace g := g.1 hc
        exact xW.locs (L := [(0, vr 7 35), (1, vr 1 1), (2, vi y0)]) ⟨rfl, rfl, rfl, trivial⟩ rfl g
      · replace g := g.2 hc
        refine xW.br (c := y0 ≤ 165) (pc1 := 72) (L1 := [(2, vi y0), (0, vr 7 35), (1, vr 1 1)]) (st1 := []) (h1 := xhp s) (pc2 := 50) (L2 := [(2, vi y0), (0, vr 7 35), (1, vr 1 1)]) (st2 := []) (h2 := xhp s) 3 (fun _ _ _ _ => rfl) (fun hc => ?_) (fun hc => ?_)
        · replace g := g.1 hc
          refine xW.br (c := 136 ≤ y0) (pc1 := 91) (L1 := [(2, vi y0), (0, vr 7 35), (1, vr 1 1)]) (st1 := []) (h1 := xhp s) (pc2 := 79) (L2 := [(2, vi y0), (0, vr 7 35), (1, vr 1 1)]) (st2 := []) (h2 := xhp s) 3 (fun _ _ _ _ => rfl) (fun hc => ?_) (fun hc => ?_)
          · replace g := g.1 hc
            refine xW.br (c := 152 ≤ y0) (pc1 := 105) (L1 := [(2, vi y0), (0, vr 7 35), (1, vr 1 1)]) (st1 := []) (h1 := xhp s) (pc2 := 98) (L2 := [(2, vi y0), (0, vr 7 35), (1, vr 1 1)]) (st2 := []) (h2 := xhp s) 3 (fun _ _ _ _ => rfl) (fun hc => ?_) (fun hc => ?_)
            · replace g := g.1 hc
              refine xW.call (y := 126) (as := [vr 1 1]) (h0 := xhp s) (pc0 := 106) (len := 3) (L0 := [(2, vi y0), (0, vr 7 35), (1, vr 1 1)]) (rest := []) 2 (fun _ _ _ _ => rfl) (m126 _ ?_)
              show xW (xX0 xs Ls) p179 109 [(2, vi y0), (0, vr 7 35), (1, vr 1 1)] [] (xhp (ca_endEntry s)) Φ
              refine xW.br (c := ¬ y0 = 152) (pc1 := 123) (L1 := [(2, vi y0), (0, vr 7 35), (1, vr 1 1)]) (st1 := []) (h1 := xhp (ca_endEntry s)) (pc2 := 116) (L2 := [(2, vi y0), (0, vr 7 35), (1, vr 1 1)]) (st2 := []) (h2 := xhp (ca_endEntry s)) 3 (fun _ _ _ _ => rfl) (fun hc => ?_) (fun hc => ?_)
              · replace g := g.1 hc
                refine xW.call (y := 182) (as := [vr 7 35, vi y0, vr 1 1]) (h0 := xhp (ca_endEntry s)) (pc0 := 126) (len := 3) (L0 := [(2, vi y0), (0, vr 7 35), (1, vr 1 1)]) (rest := []) 4 (fun _ _ _ _ => rfl) (m182 _ _ g.1 ?_)
                show xW (xX0 xs Ls) p179 129 [(2, vi y0), (0, vr 7 35), (1, vr 1 1)] [vi ((pr_test (ca_endEntry s) y0).1)] (xhp ((pr_test (ca_endEntry s) y0).2)) Φ
                replace g := g.2
                exact xW.ret (v0 := some (vi ((pr_test (ca_endEntry s) y0).1))) (h1 := xhp ((pr_test (ca_endEntry s) y0).2)) 1 (fun _ _ _ _ => rfl) g
              · replace g := g.2 (Decidable.not_not.mp hc)
                refine xW.call (y := 181) (as := [vr 7 35]) (h0 := xhp (ca_endEntry s)) (pc0 := 117) (len := 3) (L0 := [(2, vi y0), (0, vr 7 35), (1, vr 1 1)]) (rest := []) 2 (fun _ _ _ _ => rfl) (m181 _ g.1 ?_)
                show xW (xX0 xs Ls) p179 120 [(2, vi y0), (0, vr 7 35), (1, vr 1 1)] [vi ((pr_comeBack (ca_endEntry s)).1)] (xhp ((pr_comeBack (ca_endEntry s)).2)) Φ
                replace g := g.2
                exact xW.ret (v0 := some (vi ((pr_comeBack (ca_endEntry s)).1))) (h1 := xhp ((pr_comeBack (ca_endEntry s)).2)) 2 (fun _ _ _ _ => rfl) g
            · replace g := g.2 hc
              refine xW.call (y := 180) (as := [vr 7 35, vi y0, vr 1 1]) (h0 := xhp s) (pc0 := 101) (len := 3) (L0 := [(2, vi y0), (0, vr 7 35), (1, vr 1 1)]) (rest := []) 4 (fun _ _ _ _ => rfl) (m180 _ _ g.1 ?_)
              show xW (xX0 xs Ls) p179 104 [(2, vi y0), (0, vr 7 35), (1, vr 1 1)] [vi ((pr_jump s y0).1)] (xhp ((pr_jump s y0).2)) Φ
              replace g := g.2
              exact xW.ret (v0 := some (vi ((pr_jump s y0).1))) (h1 := xhp ((pr_jump s y0).2)) 1 (fun _ _ _ _ => rfl) g
          · replace g := g.2 hc
            exact xW.ret (v0 := some (vi 0)) (h1 := xhp (sI s 35 1 ((gI s 35 1) + 1))) 8 (fun _ _ _ _ => rfl) g
        · replace g := g.2 hc
          exact xW.locs (L := [(0, vr 7 35), (1, vr 1 1), (2, vi y0)]) ⟨rfl, rfl, rfl, trivial⟩ rfl g
    · replace g := g.2 (Decidable.not_not.mp hc)
      exact xW.ret (v0 := some (vi (-1))) (h1 := xhp s) 2 (fun _ _ _ _ => rfl) g
noncomputable def pr_step_22_d (s : xS) (y0 : Int32) : Int32 × xS := (if y0 = 0 then ((-1), s) else (if ¬ y0 = 153 then (if y0 < 128 then (pr_step_50 s y0) else (if y0 ≤ 165 then (if 136 ≤ y0 then (if 152 ≤ y0 then (if ¬ y0 = 152 then (pr_test (ca_endEntry s) y0) else (pr_comeBack (ca_endEntry s))) else (pr_jump s y0)) else (0, (sI s 35 1 ((gI s 35 1) + 1)))) else (pr_step_50 s y0))) else ((-1), s)))
noncomputable def pr_step_22 : xS → Int32 → Int32 × xS := Classical.choose (⟨pr_step_22_d, rfl⟩ : ∃ f, f = pr_step_22_d)
set_option maxRecDepth 100000 in
theorem pr_step_22_eq : pr_step_22 = pr_step_22_d := Classical.choose_spec (⟨pr_step_22_d, rfl⟩ : ∃ f, f = pr_step_22_d)
def pr_step_22_ok (s : xS) (y0 : Int32) : Prop := (¬ (y0 = 0) → (¬ y0 = 153 → ((y0 < 128 → (pr_step_50_ok s y0)) ∧ (¬ (y0 < 128) → ((y0 ≤ 165 → (136 ≤ y0 → ((152 ≤ y0 → ((¬ y0 = 152 → (pr_test_ok (ca_endEntry s) y0)) ∧ (y0 = 152 → (pr_comeBack_ok (ca_endEntry s))))) ∧ (¬ (152 ≤ y0) → (pr_jump_ok s y0))))) ∧ (¬ (y0 ≤ 165) → (pr_step_50_ok s y0)))))))
set_option maxRecDepth 100000 in
theorem n179_22 {xs : Nat → Int32} {Ls : Nat} {Φ : Option xV → xH → Prop} (s : xS) (y0 : Int32) (gq : pr_step_22_ok s y0) (h : Φ (some (vi (pr_step_22 s y0).1)) (xhp (pr_step_22 s y0).2)) : xW (xX0 xs Ls) p179 22 [(0, vr 7 35), (1, vr 1 1)] [vi y0] (xhp s) Φ := by
  rw [pr_step_22_eq] at h
  unfold pr_step_22_d at h
  unfold pr_step_22_ok at gq
  exact b179_22 s y0 (⟨fun hc => by rw [if_pos hc] at h; exact (by (try dsimp only at h); exact h), fun hc => by rw [if_neg hc] at h; replace gq := gq hc; exact ⟨fun hc => by rw [if_pos hc] at h; replace gq := gq hc; exact ⟨fun hc => by rw [if_pos hc] at h; replace gq := gq.1 hc; exact n179_50 _ _ gq h, fun hc => by rw [if_neg hc] at h; replace gq := gq.2 hc; exact ⟨fun hc => by rw [if_pos hc] at h; replace gq := gq.1 hc; exact ⟨fun hc => by rw [if_pos hc] at h; replace gq := gq hc; exact ⟨fun hc => by rw [if_pos hc] at h; replace gq := gq.1 hc; exact ⟨fun hc => by rw [if_pos hc] at h; replace gq := gq.1 hc; exact ⟨gq, (by (try dsimp only at h); exact h)⟩, fun hc => by rw [if_neg (fun z => z hc)] at h; replace gq := gq.2 hc; exact ⟨gq, (by (try dsimp only at h); exact h)⟩⟩, fun hc => by rw [if_neg hc] at h; replace gq := gq.2 hc; exact ⟨gq, (by (try dsimp only at h); exact h)⟩⟩, fun hc => by rw [if_neg hc] at h; exact (by (try dsimp only at h); exact h)⟩, fun hc => by rw [if_neg hc] at h; replace gq := gq.2 hc; exact n179_50 _ _ gq h⟩⟩, fun hc => by rw [if_neg (fun z => z hc)] at h; exact (by (try dsimp only at h); exact h)⟩⟩)
set_option maxRecDepth 100000 in
theorem b179_0 {xs : Nat → Int32} {Ls : Nat} {Φ : Option xV → xH → Prop} (s : xS) (g : ((100 ≤ (gI s 35 1) → xW (xX0 xs Ls) p179 22 [(0, vr 7 35), (1, vr 1 1)] [vi 0] (xhp s) Φ) ∧ (¬ (100 ≤ (gI s 35 1)) → ((vp_in (gI s 35 1) 100) ∧ xW (xX0 xs Ls) p179 22 [(0, vr 7 35), (1, vr 1 1)] [vi (gI s 36 ((gI s 35 1).toNatClampNeg))] (xhp s) Φ)))) : xW (xX0 xs Ls) p179 0 [(0, vr 7 35), (1, vr 1 1)] [] (xhp s) Φ := by
  refine xW.br (c := 100 ≤ (gI s 35 1)) (pc1 := 21) (L1 := [(0, vr 7 35), (1, vr 1 1)]) (st1 := []) (h1 := xhp s) (pc2 := 9) (L2 := [(0, vr 7 35), (1, vr 1 1)]) (st2 := []) (h2 := xhp s) 4 (fun _ _ _ _ => rfl) (fun hc => ?_) (fun hc => ?_)
  · replace g := g.1 hc
    refine xW.seg (pc1 := 22) (L1 := [(0, vr 7 35), (1, vr 1 1)]) (st1 := [vi 0]) (h1 := xhp s) 1 (fun _ _ _ _ => rfl) ?_
    exact g
  · replace g := g.2 hc
    refine xW.side (c := vp_in (gI s 35 1) 100) (pc1 := 18) (L1 := [(0, vr 7 35), (1, vr 1 1)]) (st1 := [vi (gI s 36 ((gI s 35 1).toNatClampNeg))]) (h1 := xhp s) 5 (fun _ _ _ _ => rfl) g.1 ?_
    replace g := g.2
    refine xW.seg (pc1 := 22) (L1 := [(0, vr 7 35), (1, vr 1 1)]) (st1 := [vi (gI s 36 ((gI s 35 1).toNatClampNeg))]) (h1 := xhp s) 1 (fun _ _ _ _ => rfl) ?_
    exact g
noncomputable def pr_step_d (s : xS) : Int32 × xS := (if 100 ≤ (gI s 35 1) then (pr_step_22 s 0) else (pr_step_22 s (gI s 36 ((gI s 35 1).toNatClampNeg))))
noncomputable def pr_step : xS → Int32 × xS := Classical.choose (⟨pr_step_d, rfl⟩ : ∃ f, f = pr_step_d)
set_option maxRecDepth 100000 in
theorem pr_step_eq : pr_step = pr_step_d := Classical.choose_spec (⟨pr_step_d, rfl⟩ : ∃ f, f = pr_step_d)
def pr_step_ok (s : xS) : Prop := ((100 ≤ (gI s 35 1) → (pr_step_22_ok s 0)) ∧ (¬ (100 ≤ (gI s 35 1)) → ((vp_in (gI s 35 1) 100) ∧ (pr_step_22_ok s (gI s 36 ((gI s 35 1).toNatClampNeg))))))
set_option maxRecDepth 100000 in
theorem m179 {xs : Nat → Int32} {Ls : Nat} {Ψ : xO → xH → Prop} (s : xS) (gq : pr_step_ok s) (h : Ψ (.inl (some (vi (pr_step s).1))) (xhp (pr_step s).2)) : xM (xX0 xs Ls) 179 [vr 7 35, vr 1 1] (xhp s) Ψ := by
  rw [pr_step_eq] at h
  unfold pr_step_d at h
  unfold pr_step_ok at gq
  exact xM.of (P := p179) rfl rfl rfl (b179_0 s (⟨fun hc => by rw [if_pos hc] at h; replace gq := gq.1 hc; exact n179_22 _ _ gq h, fun hc => by rw [if_neg hc] at h; replace gq := gq.2 hc; exact ⟨gq.1, by replace gq := gq.2; exact n179_22 _ _ gq h⟩⟩))
