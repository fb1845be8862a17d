/-! te_startProgram -/
theorem b19_0 {xs : Nat → Int32} {Ls : Nat} {Φ : Option xV → xH → Prop} (s : xS) (k : Int32) (g : ((pr_placeOf_ok s k) ∧ ((0 ≤ (pr_placeOf s k) → Φ (some (vi 0)) (xhp (sI (pr_begin (ca_endEntry s) ((pr_placeOf s k) + 1)) 0 6 1))) ∧ (¬ (0 ≤ (pr_placeOf s k)) → Φ (some (vi 7)) (xhp s))))) : xW (xX0 xs Ls) p19 0 [(0, vr 0 0), (1, vi k)] [] (xhp s) Φ := by
  refine xW.call (y := 177) (as := [vr 7 35, vi k]) (h0 := xhp s) (pc0 := 5) (len := 3) (L0 := [(0, vr 0 0), (1, vi k)]) (rest := []) 4 (fun _ _ _ _ => rfl) (m177 _ _ g.1 ?_)
  show xW (xX0 xs Ls) p19 8 [(0, vr 0 0), (1, vi k)] [vi (pr_placeOf s k)] (xhp s) Φ
  replace g := g.2
  refine xW.br (c := 0 ≤ (pr_placeOf s k)) (pc1 := 16) (L1 := [(2, vi (pr_placeOf s k)), (0, vr 0 0), (1, vi k)]) (st1 := []) (h1 := xhp s) (pc2 := 13) (L2 := [(2, vi (pr_placeOf s k)), (0, vr 0 0), (1, vi k)]) (st2 := []) (h2 := xhp s) 3 (fun _ _ _ _ => rfl) (fun hc => ?_) (fun hc => ?_)
  · replace g := g.1 hc
    refine xW.call (y := 126) (as := [vr 1 1]) (h0 := xhp s) (pc0 := 20) (len := 3) (L0 := [(2, vi (pr_placeOf s k)), (0, vr 0 0), (1, vi k)]) (rest := []) 3 (fun _ _ _ _ => rfl) (m126 _ ?_)
    show xW (xX0 xs Ls) p19 23 [(2, vi (pr_placeOf s k)), (0, vr 0 0), (1, vi k)] [] (xhp (ca_endEntry s)) Φ
    refine xW.call (y := 178) (as := [vr 7 35, vi ((pr_placeOf s k) + 1)]) (h0 := xhp (ca_endEntry s)) (pc0 := 30) (len := 3) (L0 := [(2, vi (pr_placeOf s k)), (0, vr 0 0), (1, vi k)]) (rest := []) 6 (fun _ _ _ _ => rfl) (m178 _ _ ?_)
    show xW (xX0 xs Ls) p19 33 [(2, vi (pr_placeOf s k)), (0, vr 0 0), (1, vi k)] [] (xhp (pr_begin (ca_endEntry s) ((pr_placeOf s k) + 1))) Φ
    exact xW.ret (v0 := some (vi 0)) (h1 := xhp (sI (pr_begin (ca_endEntry s) ((pr_placeOf s k) + 1)) 0 6 1)) 5 (fun _ _ _ _ => rfl) g
  · replace g := g.2 hc
    exact xW.ret (v0 := some (vi 7)) (h1 := xhp s) 2 (fun _ _ _ _ => rfl) g
noncomputable def te_startProgram_d (s : xS) (k : Int32) : Int32 × xS := (if 0 ≤ (pr_placeOf s k) then (0, (sI (pr_begin (ca_endEntry s) ((pr_placeOf s k) + 1)) 0 6 1)) else (7, s))
noncomputable def te_startProgram : xS → Int32 → Int32 × xS := Classical.choose (⟨te_startProgram_d, rfl⟩ : ∃ f, f = te_startProgram_d)
set_option maxRecDepth 100000 in
theorem te_startProgram_eq : te_startProgram = te_startProgram_d := Classical.choose_spec (⟨te_startProgram_d, rfl⟩ : ∃ f, f = te_startProgram_d)
def te_startProgram_ok (s : xS) (k : Int32) : Prop := (pr_placeOf_ok s k)
set_option maxRecDepth 100000 in
theorem m19 {xs : Nat → Int32} {Ls : Nat} {Ψ : xO → xH → Prop} (s : xS) (k : Int32) (gq : te_startProgram_ok s k) (h : Ψ (.inl (some (vi (te_startProgram s k).1))) (xhp (te_startProgram s k).2)) : xM (xX0 xs Ls) 19 [vr 0 0, vi k] (xhp s) Ψ := by
  rw [te_startProgram_eq] at h
  unfold te_startProgram_d at h
  unfold te_startProgram_ok at gq
  exact xM.of (P := p19) rfl rfl rfl (b19_0 s k (⟨gq, ⟨fun hc => by rw [if_pos hc] at h; exact (by (try dsimp only at h); exact h), fun hc => by rw [if_neg hc] at h; exact (by (try dsimp only at h); exact h)⟩⟩))
/-! te_pressOne -/
theorem b18_58 {xs : Nat → Int32} {Ls : Nat} {Φ : Option xV → xH → Prop} (s : xS) (y0 : Int32) (g : ((¬ y0 = 0 → Φ (some (vi y0)) (xhp (sI s 1 3 y0))) ∧ (y0 = 0 → Φ (some (vi y0)) (xhp (hi_keep (sI s 1 3 y0)))))) : xW (xX0 xs Ls) p18 58 [(0, vr 0 0)] [vi y0] (xhp s) Φ := by
  refine xW.br (c := ¬ y0 = 0) (pc1 := 78) (L1 := [(3, vi y0), (0, vr 0 0)]) (st1 := []) (h1 := xhp (sI s 1 3 y0)) (pc2 := 71) (L2 := [(3, vi y0), (0, vr 0 0)]) (st2 := []) (h2 := xhp (sI s 1 3 y0)) 7 (fun _ _ _ _ => rfl) (fun hc => ?_) (fun hc => ?_)
  · replace g := g.1 hc
    exact xW.ret (v0 := some (vi y0)) (h1 := xhp (sI s 1 3 y0)) 2 (fun _ _ _ _ => rfl) g
  · replace g := g.2 (Decidable.not_not.mp hc)
    refine xW.call (y := 162) (as := [vr 9 47]) (h0 := xhp (sI s 1 3 y0)) (pc0 := 75) (len := 3) (L0 := [(3, vi y0), (0, vr 0 0)]) (rest := []) 3 (fun _ _ _ _ => rfl) (m162 _ ?_)
    show xW (xX0 xs Ls) p18 78 [(3, vi y0), (0, vr 0 0)] [] (xhp (hi_keep (sI s 1 3 y0))) Φ
    exact xW.ret (v0 := some (vi y0)) (h1 := xhp (hi_keep (sI s 1 3 y0))) 2 (fun _ _ _ _ => rfl) g
noncomputable def te_pressOne_58_d (s : xS) (y0 : Int32) : Int32 × xS := (if ¬ y0 = 0 then (y0, (sI s 1 3 y0)) else (y0, (hi_keep (sI s 1 3 y0))))
noncomputable def te_pressOne_58 : xS → Int32 → Int32 × xS := Classical.choose (⟨te_pressOne_58_d, rfl⟩ : ∃ f, f = te_pressOne_58_d)
set_option maxRecDepth 100000 in
theorem te_pressOne_58_eq : te_pressOne_58 = te_pressOne_58_d := Classical.choose_spec (⟨te_pressOne_58_d, rfl⟩ : ∃ f, f = te_pressOne_58_d)
set_option maxRecDepth 100000 in
theorem n18_58 {xs : Nat → Int32} {Ls : Nat} {Φ : Option xV → xH → Prop} (s : xS) (y0 : Int32) (h : Φ (some (vi (te_pressOne_58 s y0).1)) (xhp (te_pressOne_58 s y0).2)) : xW (xX0 xs Ls) p18 58 [(0, vr 0 0)] [vi y0] (xhp s) Φ := by
  rw [te_pressOne_58_eq] at h
  unfold te_pressOne_58_d at h
  exact b18_58 s y0 (⟨fun hc => by rw [if_pos hc] at h; exact (by (try dsimp only at h); exact h), fun hc => by rw [if_neg (fun z => z hc)] at h; exact (by (try dsimp only at h); exact h)⟩)
set_option maxRecDepth 100000 in
theorem b18_0 {xs : Nat → Int32} {Ls : Nat} {Φ : Option xV → xH → Prop} (s : xS) (k : Int32) (g : ((hi_prepare_ok s) ∧ ((((!decide (k < 144)) && (!decide (152 ≤ k))) = false → ((ca_doKey_ok (hi_prepare s) k) ∧ xW (xX0 xs Ls) p18 58 [(0, vr 0 0)] [vi ((ca_doKey (hi_prepare s) k).1)] (xhp ((ca_doKey (hi_prepare s) k).2)) Φ)) ∧ (((!decide (k < 144)) && (!decide (152 ≤ k))) = true → ((te_startProgram_ok (hi_prepare s) (k - 144)) ∧ xW (xX0 xs Ls) p18 58 [(0, vr 0 0)] [vi ((te_startProgram (hi_prepare s) (k - 144)).1)] (xhp ((te_startProgram (hi_prepare s) (k - 144)).2)) Φ))))) : xW (xX0 xs Ls) p18 0 [(0, vr 0 0), (1, vi k)] [] (xhp s) Φ := by
  refine xW.call (y := 160) (as := [vr 9 47, vr 2 2]) (h0 := xhp s) (pc0 := 11) (len := 3) (L0 := [(0, vr 0 0), (1, vi k)]) (rest := []) 6 (fun _ _ _ _ => rfl) (m160 _ g.1 ?_)
  show xW (xX0 xs Ls) p18 14 [(0, vr 0 0), (1, vi k)] [] (xhp (hi_prepare s)) Φ
  replace g := g.2
  refine xW.seg (pc1 := 18) (L1 := [(0, vr 0 0), (1, vi k)]) (st1 := [vi 144, vi k]) (h1 := xhp (hi_prepare s)) 2 (fun _ _ _ _ => rfl) ?_
  suffices J : xW (xX0 xs Ls) p18 33 [(0, vr 0 0), (1, vi k)] [vi (zb ((!decide (k < 144)) && (!decide (152 ≤ k))))] (xhp (hi_prepare s)) Φ by
    refine xW.br (c := k < 144) (pc1 := 32) (L1 := [(0, vr 0 0), (1, vi k)]) (st1 := []) (h1 := xhp (hi_prepare s)) (pc2 := 21) (L2 := [(0, vr 0 0), (1, vi k)]) (st2 := []) (h2 := xhp (hi_prepare s)) 1 (fun _ _ _ _ => rfl) (fun hc => ?_) (fun hc => ?_)
    · have hc1 : k < 144 := hc
      refine xW.seg (pc1 := 33) (L1 := [(0, vr 0 0), (1, vi k)]) (st1 := [vi 0]) (h1 := xhp (hi_prepare s)) 1 (fun _ _ _ _ => rfl) ?_
      refine xW.to (v := vi (zb ((!decide (k < 144)) && (!decide (152 ≤ k))))) (zb_f (by simp only [decide_eq_true hc1, Bool.true_or, Bool.or_true, Bool.false_or, Bool.or_false, Bool.true_and, Bool.and_true, Bool.false_and, Bool.and_false, Bool.not_true, Bool.not_false, cond_true, cond_false])) ?_
      exact J
    · have hc1 : ¬ (k < 144) := hc
      refine xW.br (c := 152 ≤ k) (pc1 := 32) (L1 := [(0, vr 0 0), (1, vi k)]) (st1 := []) (h1 := xhp (hi_prepare s)) (pc2 := 28) (L2 := [(0, vr 0 0), (1, vi k)]) (st2 := []) (h2 := xhp (hi_prepare s)) 3 (fun _ _ _ _ => rfl) (fun hc => ?_) (fun hc => ?_)
      · have hc2 : 152 ≤ k := hc
        refine xW.seg (pc1 := 33) (L1 := [(0, vr 0 0), (1, vi k)]) (st1 := [vi 0]) (h1 := xhp (hi_prepare s)) 1 (fun _ _ _ _ => rfl) ?_
        refine xW.to (v := vi (zb ((!decide (k < 144)) && (!decide (152 ≤ k))))) (zb_f (by simp only [decide_eq_false hc1, decide_eq_true hc2, Bool.true_or, Bool.or_true, Bool.false_or, Bool.or_false, Bool.true_and, Bool.and_true, Bool.false_and, Bool.and_false, Bool.not_true, Bool.not_false, cond_true, cond_false])) ?_
        exact J
      · have hc2 : ¬ (152 ≤ k) := hc
        refine xW.seg (pc1 := 33) (L1 := [(0, vr 0 0), (1, vi k)]) (st1 := [vi 1]) (h1 := xhp (hi_prepare s)) 2 (fun _ _ _ _ => rfl) ?_
        refine xW.to (v := vi (zb ((!decide (k < 144)) && (!decide (152 ≤ k))))) (zb_t (by simp only [decide_eq_false hc1, decide_eq_false hc2, Bool.true_or, Bool.or_true, Bool.false_or, Bool.or_false, Bool.true_and, Bool.and_true, Bool.false_and, Bool.and_false, Bool.not_true, Bool.not_false, cond_true, cond_false])) ?_
        exact J
  refine xW.br (c := (zb ((!decide (k < 144)) && (!decide (152 ≤ k)))) = 0) (pc1 := 50) (L1 := [(2, vi (zb ((!decide (k < 144)) && (!decide (152 ≤ k))))), (0, vr 0 0), (1, vi k)]) (st1 := []) (h1 := xhp (hi_prepare s)) (pc2 := 38) (L2 := [(2, vi (zb ((!decide (k < 144)) && (!decide (152 ≤ k))))), (0, vr 0 0), (1, vi k)]) (st2 := []) (h2 := xhp (hi_prepare s)) 3 (fun _ _ _ _ => rfl) (fun hc => ?_) (fun hc => ?_)
  · replace g := g.1 (zb_eq0.mp hc)
    refine xW.call (y := 125) (as := [vr 1 1, vi k]) (h0 := xhp (hi_prepare s)) (pc0 := 55) (len := 3) (L0 := [(2, vi (zb ((!decide (k < 144)) && (!decide (152 ≤ k))))), (0, vr 0 0), (1, vi k)]) (rest := []) 4 (fun _ _ _ _ => rfl) (m125 _ _ g.1 ?_)
    show xW (xX0 xs Ls) p18 58 [(2, vi (zb ((!decide (k < 144)) && (!decide (152 ≤ k))))), (0, vr 0 0), (1, vi k)] [vi ((ca_doKey (hi_prepare s) k).1)] (xhp ((ca_doKey (hi_prepare s) k).2)) Φ
    replace g := g.2
    exact xW.locs (L := [(0, vr 0 0)]) ⟨rfl, trivial⟩ rfl g
  · replace g := g.2 (zb_ne0.mp hc)
    refine xW.call (y := 19) (as := [vr 0 0, vi (k - 144)]) (h0 := xhp (hi_prepare s)) (pc0 := 44) (len := 3) (L0 := [(2, vi (zb ((!decide (k < 144)) && (!decide (152 ≤ k))))), (0, vr 0 0), (1, vi k)]) (rest := []) 5 (fun _ _ _ _ => rfl) (m19 _ _ g.1 ?_)
    show xW (xX0 xs Ls) p18 47 [(2, vi (zb ((!decide (k < 144)) && (!decide (152 ≤ k))))), (0, vr 0 0), (1, vi k)] [vi ((te_startProgram (hi_prepare s) (k - 144)).1)] (xhp ((te_startProgram (hi_prepare s) (k - 144)).2)) Φ
    replace g := g.2
    refine xW.seg (pc1 := 58) (L1 := [(2, vi (zb ((!decide (k < 144)) && (!decide (152 ≤ k))))), (0, vr 0 0), (1, vi k)]) (st1 := [vi ((te_startProgram (hi_prepare s) (k - 144)).1)]) (h1 := xhp ((te_startProgram (hi_prepare s) (k - 144)).2)) 1 (fun _ _ _ _ => rfl) ?_
    exact xW.locs (L := [(0, vr 0 0)]) ⟨rfl, trivial⟩ rfl g
noncomputable def te_pressOne_d (s : xS) (k : Int32) : Int32 × xS := (if ((!decide (k < 144)) && (!decide (152 ≤ k))) = false then (te_pressOne_58 ((ca_doKey (hi_prepare s) k).2) ((ca_doKey (hi_prepare s) k).1)) else (te_pressOne_58 ((te_startProgram (hi_prepare s) (k - 144)).2) ((te_startProgram (hi_prepare s) (k - 144)).1)))
noncomputable def te_pressOne : xS → Int32 → Int32 × xS := Classical.choose (⟨te_pressOne_d, rfl⟩ : ∃ f, f = te_pressOne_d)
set_option maxRecDepth 100000 in
theorem te_pressOne_eq : te_pressOne = te_pressOne_d := Classical.choose_spec (⟨te_pressOne_d, rfl⟩ : ∃ f, f = te_pressOne_d)
def te_pressOne_ok (s : xS) (k : Int32) : Prop := ((hi_prepare_ok s) ∧ ((((!decide (k < 144)) && (!decide (152 ≤ k))) = false → (ca_doKey_ok (hi_prepare s) k)) ∧ (((!decide (k < 144)) && (!decide (152 ≤ k))) = true → (te_startProgram_ok (hi_prepare s) (k - 144)))))
set_option maxRecDepth 100000 in
theorem m18 {xs : Nat → Int32} {Ls : Nat} {Ψ : xO → xH → Prop} (s : xS) (k : Int32) (gq : te_pressOne_ok s k) (h : Ψ (.inl (some (vi (te_pressOne s k).1))) (xhp (te_pressOne s k).2)) : xM (xX0 xs Ls) 18 [vr 0 0, vi k] (xhp s) Ψ := by
  rw [te_pressOne_eq] at h
  unfold te_pressOne_d at h
  unfold te_pressOne_ok at gq
  exact xM.of (P := p18) rfl rfl rfl (b18_0 s k (⟨gq.1, by replace gq := gq.2; exact ⟨fun hc => by rw [if_pos hc] at h; replace gq := gq.1 hc; exact ⟨gq, n18_58 _ _ h⟩, fun hc => by rw [if_neg (by rw [hc]; decide)] at h; replace gq := gq.2 hc; exact ⟨gq, n18_58 _ _ h⟩⟩⟩))
/-! te_endProgram -/
theorem b20_0 {xs : Nat → Int32} {Ls : Nat} {Φ : Option xV → xH → Prop} (s : xS) (c : Int32) (g : ((c = (-1) → Φ none (xhp (sI s 0 6 0))) ∧ (¬ (c = (-1)) → Φ none (xhp (sI (sI s 0 6 0) 1 3 c))))) : xW (xX0 xs Ls) p20 0 [(0, vr 0 0), (1, vi c)] [] (xhp s) Φ := by
  refine xW.br (c := c = (-1)) (pc1 := 18) (L1 := [(0, vr 0 0), (1, vi c)]) (st1 := []) (h1 := xhp (sI s 0 6 0)) (pc2 := 10) (L2 := [(0, vr 0 0), (1, vi c)]) (st2 := []) (h2 := xhp (sI s 0 6 0)) 6 (fun _ _ _ _ => rfl) (fun hc => ?_) (fun hc => ?_)
  · replace g := g.1 hc
    exact xW.ret (v0 := none) (h1 := xhp (sI s 0 6 0)) 1 (fun _ _ _ _ => rfl) g
  · replace g := g.2 hc
    exact xW.ret (v0 := none) (h1 := xhp (sI (sI s 0 6 0) 1 3 c)) 5 (fun _ _ _ _ => rfl) g
noncomputable def te_endProgram_d (s : xS) (c : Int32) : xS := (if c = (-1) then (sI s 0 6 0) else (sI (sI s 0 6 0) 1 3 c))
noncomputable def te_endProgram : xS → Int32 → xS := Classical.choose (⟨te_endProgram_d, rfl⟩ : ∃ f, f = te_endProgram_d)
set_option maxRecDepth 100000 in
theorem te_endProgram_eq : te_endProgram = te_endProgram_d := Classical.choose_spec (⟨te_endProgram_d, rfl⟩ : ∃ f, f = te_endProgram_d)
set_option maxRecDepth 100000 in
theorem m20 {xs : Nat → Int32} {Ls : Nat} {Ψ : xO → xH → Prop} (s : xS) (c : Int32) (h : Ψ (.inl none) (xhp (te_endProgram s c))) : xM (xX0 xs Ls) 20 [vr 0 0, vi c] (xhp s) Ψ := by
  rw [te_endProgram_eq] at h
  unfold te_endProgram_d at h
  exact xM.of (P := p20) rfl rfl rfl (b20_0 s c (⟨fun hc => by rw [if_pos hc] at h; exact h, fun hc => by rw [if_neg hc] at h; exact h⟩))
/-! te_endValue -/
theorem b21_24 {xs : Nat → Int32} {Ls : Nat} {Φ : Option xV → xH → Prop} (s : xS) (y0 : Int32) (g : ((¬ y0 = 0 → ((¬ y0 = (-1) → ((hi_prepared_ok (sI s 0 6 0)) ∧ ((xDk 2 ∧ xDk (hi_prepared (sI s 0 6 0)) ∧ dk_set_ok (sI s 0 6 0) 2 (hi_prepared (sI s 0 6 0))) ∧ Φ none (xhp (sI (dk_set (sI s 0 6 0) 2 (hi_prepared (sI s 0 6 0))) 1 3 y0))))) ∧ (y0 = (-1) → Φ none (xhp (hi_keep (sI s 0 6 0)))))) ∧ (y0 = 0 → Φ none (xhp s)))) : xW (xX0 xs Ls) p21 24 [(0, vr 0 0)] [vi y0] (xhp s) Φ := by
  refine xW.br (c := ¬ y0 = 0) (pc1 := 30) (L1 := [(2, vi y0), (0, vr 0 0)]) (st1 := []) (h1 := xhp s) (pc2 := 29) (L2 := [(2, vi y0), (0, vr 0 0)]) (st2 := []) (h2 := xhp s) 3 (fun _ _ _ _ => rfl) (fun hc => ?_) (fun hc => ?_)
  · replace g := g.1 hc
    refine xW.br (c := ¬ y0 = (-1)) (pc1 := 50) (L1 := [(2, vi y0), (0, vr 0 0)]) (st1 := []) (h1 := xhp (sI s 0 6 0)) (pc2 := 40) (L2 := [(2, vi y0), (0, vr 0 0)]) (st2 := []) (h2 := xhp (sI s 0 6 0)) 6 (fun _ _ _ _ => rfl) (fun hc => ?_) (fun hc => ?_)
    · replace g := g.1 hc
      refine xW.call (y := 161) (as := [vr 9 47]) (h0 := xhp (sI s 0 6 0)) (pc0 := 61) (len := 3) (L0 := [(2, vi y0), (0, vr 0 0)]) (rest := [vr 2 2]) 6 (fun _ _ _ _ => rfl) (m161 _ g.1 ?_)
      show xW (xX0 xs Ls) p21 64 [(2, vi y0), (0, vr 0 0)] [vr 2 (hi_prepared (sI s 0 6 0)), vr 2 2] (xhp (sI s 0 6 0)) Φ
      replace g := g.2
      refine xW.call (y := 144) (as := [vr 2 2, vr 2 (hi_prepared (sI s 0 6 0))]) (h0 := xhp (sI s 0 6 0)) (pc0 := 64) (len := 3) (L0 := [(2, vi y0), (0, vr 0 0)]) (rest := []) 1 (fun _ _ _ _ => rfl) (m144 _ _ _ g.1.1 g.1.2.1 g.1.2.2 ?_)
      show xW (xX0 xs Ls) p21 67 [(2, vi y0), (0, vr 0 0)] [] (xhp (dk_set (sI s 0 6 0) 2 (hi_prepared (sI s 0 6 0)))) Φ
      replace g := g.2
      exact xW.ret (v0 := none) (h1 := xhp (sI (dk_set (sI s 0 6 0) 2 (hi_prepared (sI s 0 6 0))) 1 3 y0)) 5 (fun _ _ _ _ => rfl) g
    · replace g := g.2 (Decidable.not_not.mp hc)
      refine xW.call (y := 162) (as := [vr 9 47]) (h0 := xhp (sI s 0 6 0)) (pc0 := 44) (len := 3) (L0 := [(2, vi y0), (0, vr 0 0)]) (rest := []) 3 (fun _ _ _ _ => rfl) (m162 _ ?_)
      show xW (xX0 xs Ls) p21 47 [(2, vi y0), (0, vr 0 0)] [] (xhp (hi_keep (sI s 0 6 0))) Φ
      exact xW.ret (v0 := none) (h1 := xhp (hi_keep (sI s 0 6 0))) 2 (fun _ _ _ _ => rfl) g
  · replace g := g.2 (Decidable.not_not.mp hc)
    exact xW.ret (v0 := none) (h1 := xhp s) 1 (fun _ _ _ _ => rfl) g
noncomputable def te_endValue_24_d (s : xS) (y0 : Int32) : xS := (if ¬ y0 = 0 then (if ¬ y0 = (-1) then (sI (dk_set (sI s 0 6 0) 2 (hi_prepared (sI s 0 6 0))) 1 3 y0) else (hi_keep (sI s 0 6 0))) else s)
noncomputable def te_endValue_24 : xS → Int32 → xS := Classical.choose (⟨te_endValue_24_d, rfl⟩ : ∃ f, f = te_endValue_24_d)
set_option maxRecDepth 100000 in
theorem te_endValue_24_eq : te_endValue_24 = te_endValue_24_d := Classical.choose_spec (⟨te_endValue_24_d, rfl⟩ : ∃ f, f = te_endValue_24_d)
def te_endValue_24_ok (s : xS) (y0 : Int32) : Prop := (¬ y0 = 0 → (¬ y0 = (-1) → ((hi_prepared_ok (sI s 0 6 0)) ∧ (xDk 2 ∧ xDk (hi_prepared (sI s 0 6 0)) ∧ dk_set_ok (sI s 0 6 0) 2 (hi_prepared (sI s 0 6 0))))))
set_option maxRecDepth 100000 in
theorem n21_24 {xs : Nat → Int32} {Ls : Nat} {Φ : Option xV → xH → Prop} (s : xS) (y0 : Int32) (gq : te_endValue_24_ok s y0) (h : Φ none (xhp (te_endValue_24 s y0))) : xW (xX0 xs Ls) p21 24 [(0, vr 0 0)] [vi y0] (xhp s) Φ := by
  rw [te_endValue_24_eq] at h
  unfold te_endValue_24_d at h
  unfold te_endValue_24_ok at gq
  exact b21_24 s y0 (⟨fun hc => by rw [if_pos hc] at h; replace gq := gq hc; exact ⟨fun hc => by rw [if_pos hc] at h; replace gq := gq hc; exact ⟨gq.1, by replace gq := gq.2; exact ⟨gq, h⟩⟩, fun hc => by rw [if_neg (fun z => z hc)] at h; exact h⟩, fun hc => by rw [if_neg (fun z => z hc)] at h; exact h⟩)
set_option maxRecDepth 100000 in
theorem b21_0 {xs : Nat → Int32} {Ls : Nat} {Φ : Option xV → xH → Prop} (s : xS) (c : Int32) (g : ((¬ c = (-1) → xW (xX0 xs Ls) p21 24 [(0, vr 0 0)] [vi c] (xhp s) Φ) ∧ (c = (-1) → ((so_useValue_ok s) ∧ xW (xX0 xs Ls) p21 24 [(0, vr 0 0)] [vi ((so_useValue s).1)] (xhp ((so_useValue s).2)) Φ)))) : xW (xX0 xs Ls) p21 0 [(0, vr 0 0), (1, vi c)] [] (xhp s) Φ := by
  refine xW.br (c := ¬ c = (-1)) (pc1 := 23) (L1 := [(0, vr 0 0), (1, vi c)]) (st1 := []) (h1 := xhp s) (pc2 := 5) (L2 := [(0, vr 0 0), (1, vi c)]) (st2 := []) (h2 := xhp s) 3 (fun _ _ _ _ => rfl) (fun hc => ?_) (fun hc => ?_)
  · replace g := g.1 hc
    refine xW.seg (pc1 := 24) (L1 := [(0, vr 0 0), (1, vi c)]) (st1 := [vi c]) (h1 := xhp s) 1 (fun _ _ _ _ => rfl) ?_
    exact xW.locs (L := [(0, vr 0 0)]) ⟨rfl, trivial⟩ rfl g
  · replace g := g.2 (Decidable.not_not.mp hc)
    refine xW.call (y := 195) (as := [vr 8 38, vr 1 1, vr 7 35]) (h0 := xhp s) (pc0 := 17) (len := 3) (L0 := [(0, vr 0 0), (1, vi c)]) (rest := []) 7 (fun _ _ _ _ => rfl) (m195 _ g.1 ?_)
    show xW (xX0 xs Ls) p21 20 [(0, vr 0 0), (1, vi c)] [vi ((so_useValue s).1)] (xhp ((so_useValue s).2)) Φ
    replace g := g.2
    refine xW.seg (pc1 := 24) (L1 := [(0, vr 0 0), (1, vi c)]) (st1 := [vi ((so_useValue s).1)]) (h1 := xhp ((so_useValue s).2)) 1 (fun _ _ _ _ => rfl) ?_
    exact xW.locs (L := [(0, vr 0 0)]) ⟨rfl, trivial⟩ rfl g
noncomputable def te_endValue_d (s : xS) (c : Int32) : xS := (if ¬ c = (-1) then (te_endValue_24 s c) else (te_endValue_24 ((so_useValue s).2) ((so_useValue s).1)))
noncomputable def te_endValue : xS → Int32 → xS := Classical.choose (⟨te_endValue_d, rfl⟩ : ∃ f, f = te_endValue_d)
set_option maxRecDepth 100000 in
theorem te_endValue_eq : te_endValue = te_endValue_d := Classical.choose_spec (⟨te_endValue_d, rfl⟩ : ∃ f, f = te_endValue_d)
def te_endValue_ok (s : xS) (c : Int32) : Prop := ((¬ c = (-1) → (te_endValue_24_ok s c)) ∧ (c = (-1) → ((so_useValue_ok s) ∧ (te_endValue_24_ok ((so_useValue s).2) ((so_useValue s).1)))))
set_option maxRecDepth 100000 in
theorem m21 {xs : Nat → Int32} {Ls : Nat} {Ψ : xO → xH → Prop} (s : xS) (c : Int32) (gq : te_endValue_ok s c) (h : Ψ (.inl none) (xhp (te_endValue s c))) : xM (xX0 xs Ls) 21 [vr 0 0, vi c] (xhp s) Ψ := by
  rw [te_endValue_eq] at h
  unfold te_endValue_d at h
  unfold te_endValue_ok at gq
  exact xM.of (P := p21) rfl rfl rfl (b21_0 s c (⟨fun hc => by rw [if_pos hc] at h; replace gq := gq.1 hc; exact n21_24 _ _ gq h, fun hc => by rw [if_neg (fun z => z hc)] at h; replace gq := gq.2 hc; exact ⟨gq.1, by replace gq := gq.2; exact n21_24 _ _ gq h⟩⟩))
/-! te_model -/
theorem b1_32 {xs : Nat → Int32} {Ls : Nat} {Φ : Option xV → xH → Prop} (s : xS) (x1 : Int32) (g : ((dk_clear_ok (sI (sI s 1 2 x1) 1 3 0)) ∧ Φ none (xhp (hi_forget (dk_clear (sI (sI s 1 2 x1) 1 3 0)))))) : xW (xX0 xs Ls) p1 32 [(0, vr 0 0), (1, vi x1)] [] (xhp s) Φ := by
  refine xW.call (y := 145) (as := [vr 2 2]) (h0 := xhp (sI (sI s 1 2 x1) 1 3 0)) (pc0 := 55) (len := 3) (L0 := [(0, vr 0 0), (1, vi x1)]) (rest := []) 12 (fun _ _ _ _ => rfl) (m145 _ g.1 ?_)
  show xW (xX0 xs Ls) p1 58 [(0, vr 0 0), (1, vi x1)] [] (xhp (dk_clear (sI (sI s 1 2 x1) 1 3 0))) Φ
  replace g := g.2
  refine xW.call (y := 164) (as := [vr 9 47]) (h0 := xhp (dk_clear (sI (sI s 1 2 x1) 1 3 0))) (pc0 := 62) (len := 3) (L0 := [(0, vr 0 0), (1, vi x1)]) (rest := []) 3 (fun _ _ _ _ => rfl) (m164 _ ?_)
  show xW (xX0 xs Ls) p1 65 [(0, vr 0 0), (1, vi x1)] [] (xhp (hi_forget (dk_clear (sI (sI s 1 2 x1) 1 3 0)))) Φ
  exact xW.ret (v0 := none) (h1 := xhp (hi_forget (dk_clear (sI (sI s 1 2 x1) 1 3 0)))) 1 (fun _ _ _ _ => rfl) g
noncomputable def te_model_32_d (s : xS) (x1 : Int32) : xS := (hi_forget (dk_clear (sI (sI s 1 2 x1) 1 3 0)))
noncomputable def te_model_32 : xS → Int32 → xS := Classical.choose (⟨te_model_32_d, rfl⟩ : ∃ f, f = te_model_32_d)
set_option maxRecDepth 100000 in
theorem te_model_32_eq : te_model_32 = te_model_32_d := Classical.choose_spec (⟨te_model_32_d, rfl⟩ : ∃ f, f = te_model_32_d)
def te_model_32_ok (s : xS) (x1 : Int32) : Prop := (dk_clear_ok (sI (sI s 1 2 x1) 1 3 0))
set_option maxRecDepth 100000 in
theorem n1_32 {xs : Nat → Int32} {Ls : Nat} {Φ : Option xV → xH → Prop} (s : xS) (x1 : Int32) (gq : te_model_32_ok s x1) (h : Φ none (xhp (te_model_32 s x1))) : xW (xX0 xs Ls) p1 32 [(0, vr 0 0), (1, vi x1)] [] (xhp s) Φ := by
  rw [te_model_32_eq] at h
  unfold te_model_32_d at h
  unfold te_model_32_ok at gq
  exact b1_32 s x1 (⟨gq, h⟩)
set_option maxRecDepth 100000 in
theorem b1_0 {xs : Nat → Int32} {Ls : Nat} {Φ : Option xV → xH → Prop} (s : xS) (m : Int32) (g : (((gI s 0 6) = 0 → ((m = 0 → xW (xX0 xs Ls) p1 32 [(0, vr 0 0), (1, vi m)] [] (xhp s) Φ) ∧ (¬ (m = 0) → ((m = 1 → xW (xX0 xs Ls) p1 32 [(0, vr 0 0), (1, vi m)] [] (xhp s) Φ) ∧ (¬ (m = 1) → False))))) ∧ (¬ ((gI s 0 6) = 0) → False))) : xW (xX0 xs Ls) p1 0 [(0, vr 0 0), (1, vi m)] [] (xhp s) Φ := by
  refine xW.br (c := (gI s 0 6) = 0) (pc1 := 15) (L1 := [(0, vr 0 0), (1, vi m)]) (st1 := []) (h1 := xhp s) (pc2 := 7) (L2 := [(0, vr 0 0), (1, vi m)]) (st2 := []) (h2 := xhp s) 3 (fun _ _ _ _ => rfl) (fun hc => ?_) (fun hc => ?_)
  · replace g := g.1 hc
    refine xW.br (c := m = 0) (pc1 := 32) (L1 := [(0, vr 0 0), (1, vi m)]) (st1 := []) (h1 := xhp s) (pc2 := 19) (L2 := [(0, vr 0 0), (1, vi m)]) (st2 := []) (h2 := xhp s) 2 (fun _ _ _ _ => rfl) (fun hc => ?_) (fun hc => ?_)
    · replace g := g.1 hc
      exact g
    · replace g := g.2 hc
      refine xW.br (c := m = 1) (pc1 := 32) (L1 := [(0, vr 0 0), (1, vi m)]) (st1 := []) (h1 := xhp s) (pc2 := 24) (L2 := [(0, vr 0 0), (1, vi m)]) (st2 := []) (h2 := xhp s) 3 (fun _ _ _ _ => rfl) (fun hc => ?_) (fun hc => ?_)
      · replace g := g.1 hc
        exact g
      · replace g := g.2 hc
        exact g.elim
  · replace g := g.2 hc
    exact g.elim
noncomputable def te_model_d (s : xS) (m : Int32) : xS := (if (gI s 0 6) = 0 then (if m = 0 then (te_model_32 s m) else (if m = 1 then (te_model_32 s m) else s)) else s)
noncomputable def te_model : xS → Int32 → xS := Classical.choose (⟨te_model_d, rfl⟩ : ∃ f, f = te_model_d)
set_option maxRecDepth 100000 in
theorem te_model_eq : te_model = te_model_d := Classical.choose_spec (⟨te_model_d, rfl⟩ : ∃ f, f = te_model_d)
def te_model_ok (s : xS) (m : Int32) : Prop := (((gI s 0 6) = 0 → ((m = 0 → (te_model_32_ok s m)) ∧ (¬ (m = 0) → ((m = 1 → (te_model_32_ok s m)) ∧ (¬ (m = 1) → False))))) ∧ (¬ ((gI s 0 6) = 0) → False))
set_option maxRecDepth 100000 in
theorem m1 {xs : Nat → Int32} {Ls : Nat} {Ψ : xO → xH → Prop} (s : xS) (m : Int32) (gq : te_model_ok s m) (h : Ψ (.inl none) (xhp (te_model s m))) : xM (xX0 xs Ls) 1 [vr 0 0, vi m] (xhp s) Ψ := by
  rw [te_model_eq] at h
  unfold te_model_d at h
  unfold te_model_ok at gq
  exact xM.of (P := p1) rfl rfl rfl (b1_0 s m (⟨fun hc => by rw [if_pos hc] at h; replace gq := gq.1 hc; exact ⟨fun hc => by rw [if_pos hc] at h; replace gq := gq.1 hc; exact n1_32 _ _ gq h, fun hc => by rw [if_neg hc] at h; replace gq := gq.2 hc; exact ⟨fun hc => by rw [if_pos hc] at h; replace gq := gq.1 hc; exact n1_32 _ _ gq h, fun hc => by rw [if_neg hc] at h; replace gq := gq.2 hc; exact gq.elim⟩⟩, fun hc => by rw [if_neg hc] at h; replace gq := gq.2 hc; exact gq.elim⟩))
/-! te_press -/
theorem b2_17 {xs : Nat → Int32} {Ls : Nat} {Φ : Option xV → xH → Prop} (s : xS) (x1 : Int64) (x3 : Int32) (g : ((8 ≤ x3 → Φ (some (vi 0)) (xhp s)) ∧ (¬ (8 ≤ x3) → (((te_byteOf x1 x3) = 0 → xW (xX0 xs Ls) p2 17 [(0, vr 0 0), (1, vl x1), (3, vi (x3 + 1))] [] (xhp s) Φ) ∧ (¬ ((te_byteOf x1 x3) = 0) → ((te_pressOne_ok s (te_byteOf x1 x3)) ∧ ((¬ (te_pressOne s (te_byteOf x1 x3)).1 = 0 → Φ (some (vi ((te_pressOne s (te_byteOf x1 x3)).1))) (xhp ((te_pressOne s (te_byteOf x1 x3)).2))) ∧ ((te_pressOne s (te_byteOf x1 x3)).1 = 0 → (((gI ((te_pressOne s (te_byteOf x1 x3)).2) 0 6) = 0 → xW (xX0 xs Ls) p2 17 [(0, vr 0 0), (1, vl x1), (3, vi (x3 + 1))] [] (xhp ((te_pressOne s (te_byteOf x1 x3)).2)) Φ) ∧ (¬ ((gI ((te_pressOne s (te_byteOf x1 x3)).2) 0 6) = 0) → Φ (some (vi ((te_pressOne s (te_byteOf x1 x3)).1))) (xhp ((te_pressOne s (te_byteOf x1 x3)).2)))))))))))) : xW (xX0 xs Ls) p2 17 [(0, vr 0 0), (1, vl x1), (3, vi x3)] [] (xhp s) Φ := by
  refine xW.br (c := 8 ≤ x3) (pc1 := 64) (L1 := [(0, vr 0 0), (1, vl x1), (3, vi x3)]) (st1 := []) (h1 := xhp s) (pc2 := 23) (L2 := [(0, vr 0 0), (1, vl x1), (3, vi x3)]) (st2 := []) (h2 := xhp s) 3 (fun _ _ _ _ => rfl) (fun hc => ?_) (fun hc => ?_)
  · replace g := g.1 hc
    exact xW.ret (v0 := some (vi 0)) (h1 := xhp s) 2 (fun _ _ _ _ => rfl) g
  · replace g := g.2 hc
    refine xW.call (y := 22) (as := [vl x1, vi x3]) (h0 := xhp s) (pc0 := 25) (len := 3) (L0 := [(0, vr 0 0), (1, vl x1), (3, vi x3)]) (rest := []) 3 (fun _ _ _ _ => rfl) (m22 _ _ _ ?_)
    show xW (xX0 xs Ls) p2 28 [(0, vr 0 0), (1, vl x1), (3, vi x3)] [vi (te_byteOf x1 x3)] (xhp s) Φ
    refine xW.br (c := (te_byteOf x1 x3) = 0) (pc1 := 58) (L1 := [(4, vi (te_byteOf x1 x3)), (0, vr 0 0), (1, vl x1), (3, vi x3)]) (st1 := []) (h1 := xhp s) (pc2 := 35) (L2 := [(4, vi (te_byteOf x1 x3)), (0, vr 0 0), (1, vl x1), (3, vi x3)]) (st2 := []) (h2 := xhp s) 3 (fun _ _ _ _ => rfl) (fun hc => ?_) (fun hc => ?_)
    · replace g := g.1 hc
      refine xW.seg (pc1 := 17) (L1 := [(3, vi (x3 + 1)), (4, vi (te_byteOf x1 x3)), (0, vr 0 0), (1, vl x1)]) (st1 := []) (h1 := xhp s) 2 (fun _ _ _ _ => rfl) ?_
      exact xW.locs (L := [(0, vr 0 0), (1, vl x1), (3, vi (x3 + 1))]) ⟨rfl, rfl, rfl, trivial⟩ rfl g
    · replace g := g.2 hc
      refine xW.call (y := 18) (as := [vr 0 0, vi (te_byteOf x1 x3)]) (h0 := xhp s) (pc0 := 38) (len := 3) (L0 := [(4, vi (te_byteOf x1 x3)), (0, vr 0 0), (1, vl x1), (3, vi x3)]) (rest := []) 3 (fun _ _ _ _ => rfl) (m18 _ _ g.1 ?_)
      show xW (xX0 xs Ls) p2 41 [(4, vi (te_byteOf x1 x3)), (0, vr 0 0), (1, vl x1), (3, vi x3)] [vi ((te_pressOne s (te_byteOf x1 x3)).1)] (xhp ((te_pressOne s (te_byteOf x1 x3)).2)) Φ
      replace g := g.2
      refine xW.br (c := ¬ (te_pressOne s (te_byteOf x1 x3)).1 = 0) (pc1 := 55) (L1 := [(5, vi ((te_pressOne s (te_byteOf x1 x3)).1)), (4, vi (te_byteOf x1 x3)), (0, vr 0 0), (1, vl x1), (3, vi x3)]) (st1 := []) (h1 := xhp ((te_pressOne s (te_byteOf x1 x3)).2)) (pc2 := 48) (L2 := [(5, vi ((te_pressOne s (te_byteOf x1 x3)).1)), (4, vi (te_byteOf x1 x3)), (0, vr 0 0), (1, vl x1), (3, vi x3)]) (st2 := []) (h2 := xhp ((te_pressOne s (te_byteOf x1 x3)).2)) 3 (fun _ _ _ _ => rfl) (fun hc => ?_) (fun hc => ?_)
      · replace g := g.1 hc
        exact xW.ret (v0 := some (vi ((te_pressOne s (te_byteOf x1 x3)).1))) (h1 := xhp ((te_pressOne s (te_byteOf x1 x3)).2)) 2 (fun _ _ _ _ => rfl) g
      · replace g := g.2 (Decidable.not_not.mp hc)
        refine xW.br (c := (gI ((te_pressOne s (te_byteOf x1 x3)).2) 0 6) = 0) (pc1 := 58) (L1 := [(5, vi ((te_pressOne s (te_byteOf x1 x3)).1)), (4, vi (te_byteOf x1 x3)), (0, vr 0 0), (1, vl x1), (3, vi x3)]) (st1 := []) (h1 := xhp ((te_pressOne s (te_byteOf x1 x3)).2)) (pc2 := 55) (L2 := [(5, vi ((te_pressOne s (te_byteOf x1 x3)).1)), (4, vi (te_byteOf x1 x3)), (0, vr 0 0), (1, vl x1), (3, vi x3)]) (st2 := []) (h2 := xhp ((te_pressOne s (te_byteOf x1 x3)).2)) 3 (fun _ _ _ _ => rfl) (fun hc => ?_) (fun hc => ?_)
        · replace g := g.1 hc
          refine xW.seg (pc1 := 17) (L1 := [(3, vi (x3 + 1)), (5, vi ((te_pressOne s (te_byteOf x1 x3)).1)), (4, vi (te_byteOf x1 x3)), (0, vr 0 0), (1, vl x1)]) (st1 := []) (h1 := xhp ((te_pressOne s (te_byteOf x1 x3)).2)) 2 (fun _ _ _ _ => rfl) ?_
          exact xW.locs (L := [(0, vr 0 0), (1, vl x1), (3, vi (x3 + 1))]) ⟨rfl, rfl, rfl, trivial⟩ rfl g
        · replace g := g.2 hc
          exact xW.ret (v0 := some (vi ((te_pressOne s (te_byteOf x1 x3)).1))) (h1 := xhp ((te_pressOne s (te_byteOf x1 x3)).2)) 2 (fun _ _ _ _ => rfl) g
noncomputable def te_press_17 : Nat → xS → Int64 → Int32 → Int32 × xS
  | 0, s, _, _ => (0, s)
  | n + 1, s, x1, x3 => (if 8 ≤ x3 then (0, s) else (if (te_byteOf x1 x3) = 0 then (te_press_17 n s x1 (x3 + 1)) else (if ¬ (te_pressOne s (te_byteOf x1 x3)).1 = 0 then (te_pressOne s (te_byteOf x1 x3)) else (if (gI ((te_pressOne s (te_byteOf x1 x3)).2) 0 6) = 0 then (te_press_17 n ((te_pressOne s (te_byteOf x1 x3)).2) x1 (x3 + 1)) else (te_pressOne s (te_byteOf x1 x3))))))
def te_press_17_ok : Nat → xS → Int64 → Int32 → Prop
  | 0, _, _, _ => False
  | n + 1, s, x1, x3 => (¬ (8 ≤ x3) → (((te_byteOf x1 x3) = 0 → (te_press_17_ok n s x1 (x3 + 1))) ∧ (¬ ((te_byteOf x1 x3) = 0) → ((te_pressOne_ok s (te_byteOf x1 x3)) ∧ ((te_pressOne s (te_byteOf x1 x3)).1 = 0 → ((gI ((te_pressOne s (te_byteOf x1 x3)).2) 0 6) = 0 → (te_press_17_ok n ((te_pressOne s (te_byteOf x1 x3)).2) x1 (x3 + 1))))))))
set_option maxRecDepth 100000 in
theorem n2_17 {xs : Nat → Int32} {Ls : Nat} {Φ : Option xV → xH → Prop} : ∀ (n : Nat) (s : xS) (x1 : Int64) (x3 : Int32), te_press_17_ok n s x1 x3 → Φ (some (vi (te_press_17 n s x1 x3).1)) (xhp (te_press_17 n s x1 x3).2) → xW (xX0 xs Ls) p2 17 [(0, vr 0 0), (1, vl x1), (3, vi x3)] [] (xhp s) Φ := by
  intro n
  induction n with
  | zero => intro s _ _ gq; exact gq.elim
  | succ n ih =>
    intro s x1 x3 gq h
    unfold te_press_17_ok at gq
    unfold te_press_17 at h
    exact b2_17 s x1 x3 (⟨fun hc => by rw [if_pos hc] at h; exact (by (try dsimp only at h); exact h), fun hc => by rw [if_neg hc] at h; replace gq := gq hc; exact ⟨fun hc => by rw [if_pos hc] at h; replace gq := gq.1 hc; exact ih _ _ _ gq h, fun hc => by rw [if_neg hc] at h; replace gq := gq.2 hc; exact ⟨gq.1, by replace gq := gq.2; exact ⟨fun hc => by rw [if_pos hc] at h; exact (by (try dsimp only at h); exact h), fun hc => by rw [if_neg (fun z => z hc)] at h; replace gq := gq hc; exact ⟨fun hc => by rw [if_pos hc] at h; replace gq := gq hc; exact ih _ _ _ gq h, fun hc => by rw [if_neg hc] at h; exact (by (try dsimp only at h); exact h)⟩⟩⟩⟩⟩)
set_option maxRecDepth 100000 in
theorem b2_0 {xs : Nat → Int32} {Ls : Nat} {Φ : Option xV → xH → Prop} (s : xS) (b : Int64) (g : (((gI s 0 6) = 0 → xW (xX0 xs Ls) p2 17 [(0, vr 0 0), (1, vl b), (3, vi 0)] [] (xhp s) Φ) ∧ (¬ ((gI s 0 6) = 0) → False))) : xW (xX0 xs Ls) p2 0 [(0, vr 0 0), (1, vl b)] [] (xhp s) Φ := by
  refine xW.br (c := (gI s 0 6) = 0) (pc1 := 15) (L1 := [(0, vr 0 0), (1, vl b)]) (st1 := []) (h1 := xhp s) (pc2 := 7) (L2 := [(0, vr 0 0), (1, vl b)]) (st2 := []) (h2 := xhp s) 3 (fun _ _ _ _ => rfl) (fun hc => ?_) (fun hc => ?_)
  · replace g := g.1 hc
    refine xW.seg (pc1 := 17) (L1 := [(3, vi 0), (0, vr 0 0), (1, vl b)]) (st1 := []) (h1 := xhp s) 2 (fun _ _ _ _ => rfl) ?_
    exact xW.locs (L := [(0, vr 0 0), (1, vl b), (3, vi 0)]) ⟨rfl, rfl, rfl, trivial⟩ rfl g
  · replace g := g.2 hc
    exact g.elim
noncomputable def te_press_d (s : xS) (b : Int64) : Int32 × xS := (if (gI s 0 6) = 0 then (te_press_17 xfu s b 0) else (0, s))
noncomputable def te_press : xS → Int64 → Int32 × xS := Classical.choose (⟨te_press_d, rfl⟩ : ∃ f, f = te_press_d)
set_option maxRecDepth 100000 in
theorem te_press_eq : te_press = te_press_d := Classical.choose_spec (⟨te_press_d, rfl⟩ : ∃ f, f = te_press_d)
def te_press_ok (s : xS) (b : Int64) : Prop := (((gI s 0 6) = 0 → (te_press_17_ok xfu s b 0)) ∧ (¬ ((gI s 0 6) = 0) → False))
set_option maxRecDepth 100000 in
theorem m2 {xs : Nat → Int32} {Ls : Nat} {Ψ : xO → xH → Prop} (s : xS) (b : Int64) (gq : te_press_ok s b) (h : Ψ (.inl (some (vi (te_press s b).1))) (xhp (te_press s b).2)) : xM (xX0 xs Ls) 2 [vr 0 0, vl b] (xhp s) Ψ := by
  rw [te_press_eq] at h
  unfold te_press_d at h
  unfold te_press_ok at gq
  exact xM.of (P := p2) rfl rfl rfl (b2_0 s b (⟨fun hc => by rw [if_pos hc] at h; replace gq := gq.1 hc; exact n2_17 _ _ _ _ gq h, fun hc => by rw [if_neg hc] at h; replace gq := gq.2 hc; exact gq.elim⟩))
/-! te_run -/
theorem b3_80 {xs : Nat → Int32} {Ls : Nat} {Φ : Option xV → xH → Prop} (s : xS) (g : Φ (some (vi (zb (!decide ((gI s 0 6) = 0))))) (xhp s)) : xW (xX0 xs Ls) p3 80 [(0, vr 0 0)] [] (xhp s) Φ := by
  refine xW.seg (pc1 := 84) (L1 := [(0, vr 0 0)]) (st1 := [vi (gI s 0 6)]) (h1 := xhp s) 2 (fun _ _ _ _ => rfl) ?_
  suffices J : xW (xX0 xs Ls) p3 92 [(0, vr 0 0)] [vi (zb (!decide ((gI s 0 6) = 0)))] (xhp s) Φ by
    refine xW.br (c := ¬ (gI s 0 6) = 0) (pc1 := 91) (L1 := [(0, vr 0 0)]) (st1 := []) (h1 := xhp s) (pc2 := 87) (L2 := [(0, vr 0 0)]) (st2 := []) (h2 := xhp s) 1 (fun _ _ _ _ => rfl) (fun hc => ?_) (fun hc => ?_)
    · have hc1 : ¬ (gI s 0 6) = 0 := hc
      refine xW.seg (pc1 := 92) (L1 := [(0, vr 0 0)]) (st1 := [vi 1]) (h1 := xhp s) 1 (fun _ _ _ _ => rfl) ?_
      refine xW.to (v := vi (zb (!decide ((gI s 0 6) = 0)))) (zb_t (by simp only [decide_eq_false hc1, Bool.true_or, Bool.or_true, Bool.false_or, Bool.or_false, Bool.true_and, Bool.and_true, Bool.false_and, Bool.and_false, Bool.not_true, Bool.not_false, cond_true, cond_false])) ?_
      exact J
    · have hc1 : (gI s 0 6) = 0 := (Decidable.not_not.mp hc)
      refine xW.seg (pc1 := 92) (L1 := [(0, vr 0 0)]) (st1 := [vi 0]) (h1 := xhp s) 2 (fun _ _ _ _ => rfl) ?_
      refine xW.to (v := vi (zb (!decide ((gI s 0 6) = 0)))) (zb_f (by simp only [decide_eq_true hc1, Bool.true_or, Bool.or_true, Bool.false_or, Bool.or_false, Bool.true_and, Bool.and_true, Bool.false_and, Bool.and_false, Bool.not_true, Bool.not_false, cond_true, cond_false])) ?_
      exact J
  exact xW.ret (v0 := some (vi (zb (!decide ((gI s 0 6) = 0))))) (h1 := xhp s) 1 (fun _ _ _ _ => rfl) g
noncomputable def te_run_80_d (s : xS) : Int32 × xS := ((zb (!decide ((gI s 0 6) = 0))), s)
noncomputable def te_run_80 : xS → Int32 × xS := Classical.choose (⟨te_run_80_d, rfl⟩ : ∃ f, f = te_run_80_d)
set_option maxRecDepth 100000 in
theorem te_run_80_eq : te_run_80 = te_run_80_d := Classical.choose_spec (⟨te_run_80_d, rfl⟩ : ∃ f, f = te_run_80_d)
set_option maxRecDepth 100000 in
theorem n3_80 {xs : Nat → Int32} {Ls : Nat} {Φ : Option xV → xH → Prop} (s : xS) (h : Φ (some (vi (te_run_80 s).1)) (xhp (te_run_80 s).2)) : xW (xX0 xs Ls) p3 80 [(0, vr 0 0)] [] (xhp s) Φ := by
  rw [te_run_80_eq] at h
  unfold te_run_80_d at h
  exact b3_80 s ((by (try dsimp only at h); exact h))
set_option maxRecDepth 100000 in
theorem b3_21 {xs : Nat → Int32} {Ls : Nat} {Φ : Option xV → xH → Prop} (s : xS) (x1 : Int32) (x2 : Int32) (g : ((x1 ≤ x2 → xW (xX0 xs Ls) p3 80 [(0, vr 0 0)] [] (xhp s) Φ) ∧ (¬ (x1 ≤ x2) → (((gI s 0 6) = 0 → xW (xX0 xs Ls) p3 80 [(0, vr 0 0)] [] (xhp s) Φ) ∧ (¬ ((gI s 0 6) = 0) → ((pr_step_ok s) ∧ (((pr_step s).1 = 0 → (((pr_step s).1 = 0 → xW (xX0 xs Ls) p3 21 [(0, vr 0 0), (1, vi x1), (2, vi (x2 + 1))] [] (xhp ((pr_step s).2)) Φ) ∧ (¬ ((pr_step s).1 = 0) → xW (xX0 xs Ls) p3 21 [(0, vr 0 0), (1, vi x1), (2, vi (x2 + 1))] [] (xhp (te_endProgram ((pr_step s).2) ((pr_step s).1))) Φ))) ∧ (¬ ((pr_step s).1 = 0) → ((¬ (gI ((pr_step s).2) 0 6) = 2 → (((pr_step s).1 = 0 → xW (xX0 xs Ls) p3 21 [(0, vr 0 0), (1, vi x1), (2, vi (x2 + 1))] [] (xhp ((pr_step s).2)) Φ) ∧ (¬ ((pr_step s).1 = 0) → xW (xX0 xs Ls) p3 21 [(0, vr 0 0), (1, vi x1), (2, vi (x2 + 1))] [] (xhp (te_endProgram ((pr_step s).2) ((pr_step s).1))) Φ))) ∧ ((gI ((pr_step s).2) 0 6) = 2 → ((te_endValue_ok ((pr_step s).2) ((pr_step s).1)) ∧ xW (xX0 xs Ls) p3 21 [(0, vr 0 0), (1, vi x1), (2, vi (x2 + 1))] [] (xhp (te_endValue ((pr_step s).2) ((pr_step s).1))) Φ))))))))))) : xW (xX0 xs Ls) p3 21 [(0, vr 0 0), (1, vi x1), (2, vi x2)] [] (xhp s) Φ := by
  refine xW.br (c := x1 ≤ x2) (pc1 := 80) (L1 := [(0, vr 0 0), (1, vi x1), (2, vi x2)]) (st1 := []) (h1 := xhp s) (pc2 := 26) (L2 := [(0, vr 0 0), (1, vi x1), (2, vi x2)]) (st2 := []) (h2 := xhp s) 3 (fun _ _ _ _ => rfl) (fun hc => ?_) (fun hc => ?_)
  · replace g := g.1 hc
    exact xW.locs (L := [(0, vr 0 0)]) ⟨rfl, trivial⟩ rfl g
  · replace g := g.2 hc
    refine xW.br (c := (gI s 0 6) = 0) (pc1 := 80) (L1 := [(0, vr 0 0), (1, vi x1), (2, vi x2)]) (st1 := []) (h1 := xhp s) (pc2 := 33) (L2 := [(0, vr 0 0), (1, vi x1), (2, vi x2)]) (st2 := []) (h2 := xhp s) 3 (fun _ _ _ _ => rfl) (fun hc => ?_) (fun hc => ?_)
    · replace g := g.1 hc
      exact xW.locs (L := [(0, vr 0 0)]) ⟨rfl, trivial⟩ rfl g
    · replace g := g.2 hc
      refine xW.call (y := 179) (as := [vr 7 35, vr 1 1]) (h0 := xhp s) (pc0 := 41) (len := 3) (L0 := [(0, vr 0 0), (1, vi x1), (2, vi x2)]) (rest := []) 5 (fun _ _ _ _ => rfl) (m179 _ g.1 ?_)
      show xW (xX0 xs Ls) p3 44 [(0, vr 0 0), (1, vi x1), (2, vi x2)] [vi ((pr_step s).1)] (xhp ((pr_step s).2)) Φ
      replace g := g.2
      refine xW.br (c := (pr_step s).1 = 0) (pc1 := 65) (L1 := [(3, vi ((pr_step s).1)), (0, vr 0 0), (1, vi x1), (2, vi x2)]) (st1 := []) (h1 := xhp ((pr_step s).2)) (pc2 := 49) (L2 := [(3, vi ((pr_step s).1)), (0, vr 0 0), (1, vi x1), (2, vi x2)]) (st2 := []) (h2 := xhp ((pr_step s).2)) 3 (fun _ _ _ _ => rfl) (fun hc => ?_) (fun hc => ?_)
      · replace g := g.1 hc
        refine xW.br (c := (pr_step s).1 = 0) (pc1 := 74) (L1 := [(3, vi ((pr_step s).1)), (0, vr 0 0), (1, vi x1), (2, vi x2)]) (st1 := []) (h1 := xhp ((pr_step s).2)) (pc2 := 69) (L2 := [(3, vi ((pr_step s).1)), (0, vr 0 0), (1, vi x1), (2, vi x2)]) (st2 := []) (h2 := xhp ((pr_step s).2)) 2 (fun _ _ _ _ => rfl) (fun hc => ?_) (fun hc => ?_)
        · replace g := g.1 hc
          refine xW.seg (pc1 := 21) (L1 := [(2, vi (x2 + 1)), (3, vi ((pr_step s).1)), (0, vr 0 0), (1, vi x1)]) (st1 := []) (h1 := xhp ((pr_step s).2)) 2 (fun _ _ _ _ => rfl) ?_
          exact xW.locs (L := [(0, vr 0 0), (1, vi x1), (2, vi (x2 + 1))]) ⟨rfl, rfl, rfl, trivial⟩ rfl g
        · replace g := g.2 hc
          refine xW.call (y := 20) (as := [vr 0 0, vi ((pr_step s).1)]) (h0 := xhp ((pr_step s).2)) (pc0 := 71) (len := 3) (L0 := [(3, vi ((pr_step s).1)), (0, vr 0 0), (1, vi x1), (2, vi x2)]) (rest := []) 3 (fun _ _ _ _ => rfl) (m20 _ _ ?_)
          show xW (xX0 xs Ls) p3 74 [(3, vi ((pr_step s).1)), (0, vr 0 0), (1, vi x1), (2, vi x2)] [] (xhp (te_endProgram ((pr_step s).2) ((pr_step s).1))) Φ
          refine xW.seg (pc1 := 21) (L1 := [(2, vi (x2 + 1)), (3, vi ((pr_step s).1)), (0, vr 0 0), (1, vi x1)]) (st1 := []) (h1 := xhp (te_endProgram ((pr_step s).2) ((pr_step s).1))) 2 (fun _ _ _ _ => rfl) ?_
          exact xW.locs (L := [(0, vr 0 0), (1, vi x1), (2, vi (x2 + 1))]) ⟨rfl, rfl, rfl, trivial⟩ rfl g
      · replace g := g.2 hc
        refine xW.br (c := ¬ (gI ((pr_step s).2) 0 6) = 2) (pc1 := 65) (L1 := [(3, vi ((pr_step s).1)), (0, vr 0 0), (1, vi x1), (2, vi x2)]) (st1 := []) (h1 := xhp ((pr_step s).2)) (pc2 := 57) (L2 := [(3, vi ((pr_step s).1)), (0, vr 0 0), (1, vi x1), (2, vi x2)]) (st2 := []) (h2 := xhp ((pr_step s).2)) 4 (fun _ _ _ _ => rfl) (fun hc => ?_) (fun hc => ?_)
        · replace g := g.1 hc
          refine xW.br (c := (pr_step s).1 = 0) (pc1 := 74) (L1 := [(3, vi ((pr_step s).1)), (0, vr 0 0), (1, vi x1), (2, vi x2)]) (st1 := []) (h1 := xhp ((pr_step s).2)) (pc2 := 69) (L2 := [(3, vi ((pr_step s).1)), (0, vr 0 0), (1, vi x1), (2, vi x2)]) (st2 := []) (h2 := xhp ((pr_step s).2)) 2 (fun _ _ _ _ => rfl) (fun hc => ?_) (fun hc => ?_)
          · replace g := g.1 hc
            refine xW.seg (pc1 := 21) (L1 := [(2, vi (x2 + 1)), (3, vi ((pr_step s).1)), (0, vr 0 0), (1, vi x1)]) (st1 := []) (h1 := xhp ((pr_step s).2)) 2 (fun _ _ _ _ => rfl) ?_
            exact xW.locs (L := [(0, vr 0 0), (1, vi x1), (2, vi (x2 + 1))]) ⟨rfl, rfl, rfl, trivial⟩ rfl g
          · replace g := g.2 hc
            refine xW.call (y := 20) (as := [vr 0 0, vi ((pr_step s).1)]) (h0 := xhp ((pr_step s).2)) (pc0 := 71) (len := 3) (L0 := [(3, vi ((pr_step s).1)), (0, vr 0 0), (1, vi x1), (2, vi x2)]) (rest := []) 3 (fun _ _ _ _ => rfl) (m20 _ _ ?_)
            show xW (xX0 xs Ls) p3 74 [(3, vi ((pr_step s).1)), (0, vr 0 0), (1, vi x1), (2, vi x2)] [] (xhp (te_endProgram ((pr_step s).2) ((pr_step s).1))) Φ
            refine xW.seg (pc1 := 21) (L1 := [(2, vi (x2 + 1)), (3, vi ((pr_step s).1)), (0, vr 0 0), (1, vi x1)]) (st1 := []) (h1 := xhp (te_endProgram ((pr_step s).2) ((pr_step s).1))) 2 (fun _ _ _ _ => rfl) ?_
            exact xW.locs (L := [(0, vr 0 0), (1, vi x1), (2, vi (x2 + 1))]) ⟨rfl, rfl, rfl, trivial⟩ rfl g
        · replace g := g.2 (Decidable.not_not.mp hc)
          refine xW.call (y := 21) (as := [vr 0 0, vi ((pr_step s).1)]) (h0 := xhp ((pr_step s).2)) (pc0 := 59) (len := 3) (L0 := [(3, vi ((pr_step s).1)), (0, vr 0 0), (1, vi x1), (2, vi x2)]) (rest := []) 3 (fun _ _ _ _ => rfl) (m21 _ _ g.1 ?_)
          show xW (xX0 xs Ls) p3 62 [(3, vi ((pr_step s).1)), (0, vr 0 0), (1, vi x1), (2, vi x2)] [] (xhp (te_endValue ((pr_step s).2) ((pr_step s).1))) Φ
          replace g := g.2
          refine xW.seg (pc1 := 21) (L1 := [(2, vi (x2 + 1)), (3, vi ((pr_step s).1)), (0, vr 0 0), (1, vi x1)]) (st1 := []) (h1 := xhp (te_endValue ((pr_step s).2) ((pr_step s).1))) 3 (fun _ _ _ _ => rfl) ?_
          exact xW.locs (L := [(0, vr 0 0), (1, vi x1), (2, vi (x2 + 1))]) ⟨rfl, rfl, rfl, trivial⟩ rfl g
noncomputable def te_run_21 : Nat → xS → Int32 → Int32 → Int32 × xS
  | 0, s, _, _ => (0, s)
  | n + 1, s, x1, x2 => (if x1 ≤ x2 then (te_run_80 s) else (if (gI s 0 6) = 0 then (te_run_80 s) else (if (pr_step s).1 = 0 then (if (pr_step s).1 = 0 then (te_run_21 n ((pr_step s).2) x1 (x2 + 1)) else (te_run_21 n (te_endProgram ((pr_step s).2) ((pr_step s).1)) x1 (x2 + 1))) else (if ¬ (gI ((pr_step s).2) 0 6) = 2 then (if (pr_step s).1 = 0 then (te_run_21 n ((pr_step s).2) x1 (x2 + 1)) else (te_run_21 n (te_endProgram ((pr_step s).2) ((pr_step s).1)) x1 (x2 + 1))) else (te_run_21 n (te_endValue ((pr_step s).2) ((pr_step s).1)) x1 (x2 + 1))))))
def te_run_21_ok : Nat → xS → Int32 → Int32 → Prop
  | 0, _, _, _ => False
  | n + 1, s, x1, x2 => (¬ (x1 ≤ x2) → (¬ ((gI s 0 6) = 0) → ((pr_step_ok s) ∧ (((pr_step s).1 = 0 → (((pr_step s).1 = 0 → (te_run_21_ok n ((pr_step s).2) x1 (x2 + 1))) ∧ (¬ ((pr_step s).1 = 0) → (te_run_21_ok n (te_endProgram ((pr_step s).2) ((pr_step s).1)) x1 (x2 + 1))))) ∧ (¬ ((pr_step s).1 = 0) → ((¬ (gI ((pr_step s).2) 0 6) = 2 → (((pr_step s).1 = 0 → (te_run_21_ok n ((pr_step s).2) x1 (x2 + 1))) ∧ (¬ ((pr_step s).1 = 0) → (te_run_21_ok n (te_endProgram ((pr_step s).2) ((pr_step s).1)) x1 (x2 + 1))))) ∧ ((gI ((pr_step s).2) 0 6) = 2 → ((te_endValue_ok ((pr_step s).2) ((pr_step s).1)) ∧ (te_run_21_ok n (te_endValue ((pr_step s).2) ((pr_step s).1)) x1 (x2 + 1))))))))))
set_option maxRecDepth 100000 in
theorem n3_21 {xs : Nat → Int32} {Ls : Nat} {Φ : Option xV → xH → Prop} : ∀ (n : Nat) (s : xS) (x1 : Int32) (x2 : Int32), te_run_21_ok n s x1 x2 → Φ (some (vi (te_run_21 n s x1 x2).1)) (xhp (te_run_21 n s x1 x2).2) → xW (xX0 xs Ls) p3 21 [(0, vr 0 0), (1, vi x1), (2, vi x2)] [] (xhp s) Φ := by
  intro n
  induction n with
  | zero => intro s _ _ gq; exact gq.elim
  | succ n ih =>
    intro s x1 x2 gq h
    unfold te_run_21_ok at gq
    unfold te_run_21 at h
    exact b3_21 s x1 x2 (⟨fun hc => by rw [if_pos hc] at h; exact n3_80 _ h, fun hc => by rw [if_neg hc] at h; replace gq := gq hc; exact ⟨fun hc => by rw [if_pos hc] at h; exact n3_80 _ h, fun hc => by rw [if_neg hc] at h; replace gq := gq hc; exact ⟨gq.1, by replace gq := gq.2; exact ⟨fun hc => by rw [if_pos hc] at h; replace gq := gq.1 hc; exact ⟨fun hc => by rw [if_pos hc] at h; replace gq := gq.1 hc; exact ih _ _ _ gq h, fun hc => by rw [if_neg hc] at h; replace gq := gq.2 hc; exact ih _ _ _ gq h⟩, fun hc => by rw [if_neg hc] at h; replace gq := gq.2 hc; exact ⟨fun hc => by rw [if_pos hc] at h; replace gq := gq.1 hc; exact ⟨fun hc => by rw [if_pos hc] at h; replace gq := gq.1 hc; exact ih _ _ _ gq h, fun hc => by rw [if_neg hc] at h; replace gq := gq.2 hc; exact ih _ _ _ gq h⟩, fun hc => by rw [if_neg (fun z => z hc)] at h; replace gq := gq.2 hc; exact ⟨gq.1, by replace gq := gq.2; exact ih _ _ _ gq h⟩⟩⟩⟩⟩⟩)
set_option maxRecDepth 100000 in
theorem b3_0 {xs : Nat → Int32} {Ls : Nat} {Φ : Option xV → xH → Prop} (s : xS) (m : Int32) (g : ((m < 0 → False) ∧ (¬ (m < 0) → ((m ≤ 500 → xW (xX0 xs Ls) p3 21 [(0, vr 0 0), (1, vi m), (2, vi 0)] [] (xhp s) Φ) ∧ (¬ (m ≤ 500) → False))))) : xW (xX0 xs Ls) p3 0 [(0, vr 0 0), (1, vi m)] [] (xhp s) Φ := by
  refine xW.br (c := m < 0) (pc1 := 11) (L1 := [(0, vr 0 0), (1, vi m)]) (st1 := []) (h1 := xhp s) (pc2 := 4) (L2 := [(0, vr 0 0), (1, vi m)]) (st2 := []) (h2 := xhp s) 2 (fun _ _ _ _ => rfl) (fun hc => ?_) (fun hc => ?_)
  · replace g := g.1 hc
    exact g.elim
  · replace g := g.2 hc
    refine xW.br (c := m ≤ 500) (pc1 := 19) (L1 := [(0, vr 0 0), (1, vi m)]) (st1 := []) (h1 := xhp s) (pc2 := 11) (L2 := [(0, vr 0 0), (1, vi m)]) (st2 := []) (h2 := xhp s) 3 (fun _ _ _ _ => rfl) (fun hc => ?_) (fun hc => ?_)
    · replace g := g.1 hc
      refine xW.seg (pc1 := 21) (L1 := [(2, vi 0), (0, vr 0 0), (1, vi m)]) (st1 := []) (h1 := xhp s) 2 (fun _ _ _ _ => rfl) ?_
      exact xW.locs (L := [(0, vr 0 0), (1, vi m), (2, vi 0)]) ⟨rfl, rfl, rfl, trivial⟩ rfl g
    · replace g := g.2 hc
      exact g.elim
noncomputable def te_run_d (s : xS) (m : Int32) : Int32 × xS := (if m < 0 then (0, s) else (if m ≤ 500 then (te_run_21 xfu s m 0) else (0, s)))
noncomputable def te_run : xS → Int32 → Int32 × xS := Classical.choose (⟨te_run_d, rfl⟩ : ∃ f, f = te_run_d)
set_option maxRecDepth 100000 in
theorem te_run_eq : te_run = te_run_d := Classical.choose_spec (⟨te_run_d, rfl⟩ : ∃ f, f = te_run_d)
def te_run_ok (s : xS) (m : Int32) : Prop := ((m < 0 → False) ∧ (¬ (m < 0) → ((m ≤ 500 → (te_run_21_ok xfu s m 0)) ∧ (¬ (m ≤ 500) → False))))
set_option maxRecDepth 100000 in
theorem m3 {xs : Nat → Int32} {Ls : Nat} {Ψ : xO → xH → Prop} (s : xS) (m : Int32) (gq : te_run_ok s m) (h : Ψ (.inl (some (vi (te_run s m).1))) (xhp (te_run s m).2)) : xM (xX0 xs Ls) 3 [vr 0 0, vi m] (xhp s) Ψ := by
  rw [te_run_eq] at h
  unfold te_run_d at h
  unfold te_run_ok at gq
  exact xM.of (P := p3) rfl rfl rfl (b3_0 s m (⟨fun hc => by rw [if_pos hc] at h; replace gq := gq.1 hc; exact gq.elim, fun hc => by rw [if_neg hc] at h; replace gq := gq.2 hc; exact ⟨fun hc => by rw [if_pos hc] at h; replace gq := gq.1 hc; exact n3_21 _ _ _ _ gq h, fun hc => by rw [if_neg hc] at h; replace gq := gq.2 hc; exact gq.elim⟩⟩))
/-! te_stop -/
theorem b4_0 {xs : Nat → Int32} {Ls : Nat} {Φ : Option xV → xH → Prop} (s : xS) (g : ((¬ (gI s 0 6) = 2 → Φ (some (vi (zb (!decide ((gI s 0 6) = 0))))) (xhp (sI s 0 6 0))) ∧ ((gI s 0 6) = 2 → ((hi_prepared_ok s) ∧ ((xDk 2 ∧ xDk (hi_prepared s) ∧ dk_set_ok s 2 (hi_prepared s)) ∧ Φ (some (vi (zb (!decide ((gI s 0 6) = 0))))) (xhp (sI (dk_set s 2 (hi_prepared s)) 0 6 0))))))) : xW (xX0 xs Ls) p4 0 [(0, vr 0 0)] [] (xhp s) Φ := by
  refine xW.seg (pc1 := 4) (L1 := [(0, vr 0 0)]) (st1 := [vi (gI s 0 6)]) (h1 := xhp s) 2 (fun _ _ _ _ => rfl) ?_
  suffices J : xW (xX0 xs Ls) p4 12 [(0, vr 0 0)] [vi (zb (!decide ((gI s 0 6) = 0)))] (xhp s) Φ by
    refine xW.br (c := (gI s 0 6) = 0) (pc1 := 11) (L1 := [(0, vr 0 0)]) (st1 := []) (h1 := xhp s) (pc2 := 7) (L2 := [(0, vr 0 0)]) (st2 := []) (h2 := xhp s) 1 (fun _ _ _ _ => rfl) (fun hc => ?_) (fun hc => ?_)
    · have hc1 : (gI s 0 6) = 0 := hc
      refine xW.seg (pc1 := 12) (L1 := [(0, vr 0 0)]) (st1 := [vi 0]) (h1 := xhp s) 1 (fun _ _ _ _ => rfl) ?_
      refine xW.to (v := vi (zb (!decide ((gI s 0 6) = 0)))) (zb_f (by simp only [decide_eq_true hc1, Bool.true_or, Bool.or_true, Bool.false_or, Bool.or_false, Bool.true_and, Bool.and_true, Bool.false_and, Bool.and_false, Bool.not_true, Bool.not_false, cond_true, cond_false])) ?_
      exact J
    · have hc1 : ¬ ((gI s 0 6) = 0) := hc
      refine xW.seg (pc1 := 12) (L1 := [(0, vr 0 0)]) (st1 := [vi 1]) (h1 := xhp s) 2 (fun _ _ _ _ => rfl) ?_
      refine xW.to (v := vi (zb (!decide ((gI s 0 6) = 0)))) (zb_t (by simp only [decide_eq_false hc1, Bool.true_or, Bool.or_true, Bool.false_or, Bool.or_false, Bool.true_and, Bool.and_true, Bool.false_and, Bool.and_false, Bool.not_true, Bool.not_false, cond_true, cond_false])) ?_
      exact J
  refine xW.br (c := ¬ (gI s 0 6) = 2) (pc1 := 38) (L1 := [(1, vi (zb (!decide ((gI s 0 6) = 0)))), (0, vr 0 0)]) (st1 := []) (h1 := xhp s) (pc2 := 21) (L2 := [(1, vi (zb (!decide ((gI s 0 6) = 0)))), (0, vr 0 0)]) (st2 := []) (h2 := xhp s) 5 (fun _ _ _ _ => rfl) (fun hc => ?_) (fun hc => ?_)
  · replace g := g.1 hc
    exact xW.retz (v0 := some (vi (zb (!decide ((gI s 0 6) = 0))))) (h1 := xhp (sI s 0 6 0)) (c := (zb (!decide ((gI s 0 6) = 0))) = 0 ∨ (zb (!decide ((gI s 0 6) = 0))) = 1) 5 (fun _ _ _ _ => rfl) (zb01 _) g
  · replace g := g.2 (Decidable.not_not.mp hc)
    refine xW.call (y := 161) (as := [vr 9 47]) (h0 := xhp s) (pc0 := 32) (len := 3) (L0 := [(1, vi (zb (!decide ((gI s 0 6) = 0)))), (0, vr 0 0)]) (rest := [vr 2 2]) 6 (fun _ _ _ _ => rfl) (m161 _ g.1 ?_)
    show xW (xX0 xs Ls) p4 35 [(1, vi (zb (!decide ((gI s 0 6) = 0)))), (0, vr 0 0)] [vr 2 (hi_prepared s), vr 2 2] (xhp s) Φ
    replace g := g.2
    refine xW.call (y := 144) (as := [vr 2 2, vr 2 (hi_prepared s)]) (h0 := xhp s) (pc0 := 35) (len := 3) (L0 := [(1, vi (zb (!decide ((gI s 0 6) = 0)))), (0, vr 0 0)]) (rest := []) 1 (fun _ _ _ _ => rfl) (m144 _ _ _ g.1.1 g.1.2.1 g.1.2.2 ?_)
    show xW (xX0 xs Ls) p4 38 [(1, vi (zb (!decide ((gI s 0 6) = 0)))), (0, vr 0 0)] [] (xhp (dk_set s 2 (hi_prepared s))) Φ
    replace g := g.2
    exact xW.retz (v0 := some (vi (zb (!decide ((gI s 0 6) = 0))))) (h1 := xhp (sI (dk_set s 2 (hi_prepared s)) 0 6 0)) (c := (zb (!decide ((gI s 0 6) = 0))) = 0 ∨ (zb (!decide ((gI s 0 6) = 0))) = 1) 5 (fun _ _ _ _ => rfl) (zb01 _) g
noncomputable def te_stop_d (s : xS) : Bool × xS := (if ¬ (gI s 0 6) = 2 then ((!decide ((gI s 0 6) = 0)), (sI s 0 6 0)) else ((!decide ((gI s 0 6) = 0)), (sI (dk_set s 2 (hi_prepared s)) 0 6 0)))
noncomputable def te_stop : xS → Bool × xS := Classical.choose (⟨te_stop_d, rfl⟩ : ∃ f, f = te_stop_d)
set_option maxRecDepth 100000 in
theorem te_stop_eq : te_stop = te_stop_d := Classical.choose_spec (⟨te_stop_d, rfl⟩ : ∃ f, f = te_stop_d)
def te_stop_ok (s : xS) : Prop := ((gI s 0 6) = 2 → ((hi_prepared_ok s) ∧ (xDk 2 ∧ xDk (hi_prepared s) ∧ dk_set_ok s 2 (hi_prepared s))))
set_option maxRecDepth 100000 in
theorem m4 {xs : Nat → Int32} {Ls : Nat} {Ψ : xO → xH → Prop} (s : xS) (gq : te_stop_ok s) (h : Ψ (.inl (some (vi (zb (te_stop s).1)))) (xhp (te_stop s).2)) : xM (xX0 xs Ls) 4 [vr 0 0] (xhp s) Ψ := by
  rw [te_stop_eq] at h
  unfold te_stop_d at h
  unfold te_stop_ok at gq
  exact xM.of (P := p4) rfl rfl rfl (b4_0 s (⟨fun hc => by rw [if_pos hc] at h; exact (by (try dsimp only at h); exact h), fun hc => by rw [if_neg (fun z => z hc)] at h; replace gq := gq hc; exact ⟨gq.1, by replace gq := gq.2; exact ⟨gq, (by (try dsimp only at h); exact h)⟩⟩⟩))
/-! te_solve -/
theorem b5_0 {xs : Nat → Int32} {Ls : Nat} {Φ : Option xV → xH → Prop} (s : xS) (k : Int32) (g : (((gI s 0 6) = 0 → ((¬ (gI s 1 2) = 1 → ((k < 0 → False) ∧ (¬ (k < 0) → ((k < 8 → ((pr_placeOf_ok s k) ∧ ((0 ≤ (pr_placeOf s k) → ((hi_prepare_ok (sI s 1 3 0)) ∧ Φ (some (vi 0)) (xhp (sI (so_begin (hi_prepare (sI s 1 3 0)) ((pr_placeOf s k) + 1)) 0 6 2)))) ∧ (¬ (0 ≤ (pr_placeOf s k)) → Φ (some (vi 7)) (xhp (sI s 1 3 7)))))) ∧ (¬ (k < 8) → False))))) ∧ ((gI s 1 2) = 1 → False))) ∧ (¬ ((gI s 0 6) = 0) → False))) : xW (xX0 xs Ls) p5 0 [(0, vr 0 0), (1, vi k)] [] (xhp s) Φ := by
  refine xW.br (c := (gI s 0 6) = 0) (pc1 := 15) (L1 := [(0, vr 0 0), (1, vi k)]) (st1 := []) (h1 := xhp s) (pc2 := 7) (L2 := [(0, vr 0 0), (1, vi k)]) (st2 := []) (h2 := xhp s) 3 (fun _ _ _ _ => rfl) (fun hc => ?_) (fun hc => ?_)
  · replace g := g.1 hc
    refine xW.br (c := ¬ (gI s 1 2) = 1) (pc1 := 34) (L1 := [(0, vr 0 0), (1, vi k)]) (st1 := []) (h1 := xhp s) (pc2 := 26) (L2 := [(0, vr 0 0), (1, vi k)]) (st2 := []) (h2 := xhp s) 5 (fun _ _ _ _ => rfl) (fun hc => ?_) (fun hc => ?_)
    · replace g := g.1 hc
      refine xW.br (c := k < 0) (pc1 := 44) (L1 := [(0, vr 0 0), (1, vi k)]) (st1 := []) (h1 := xhp s) (pc2 := 38) (L2 := [(0, vr 0 0), (1, vi k)]) (st2 := []) (h2 := xhp s) 2 (fun _ _ _ _ => rfl) (fun hc => ?_) (fun hc => ?_)
      · replace g := g.1 hc
        exact g.elim
      · replace g := g.2 hc
        refine xW.br (c := k < 8) (pc1 := 52) (L1 := [(0, vr 0 0), (1, vi k)]) (st1 := []) (h1 := xhp s) (pc2 := 44) (L2 := [(0, vr 0 0), (1, vi k)]) (st2 := []) (h2 := xhp s) 3 (fun _ _ _ _ => rfl) (fun hc => ?_) (fun hc => ?_)
        · replace g := g.1 hc
          refine xW.call (y := 177) (as := [vr 7 35, vi k]) (h0 := xhp s) (pc0 := 57) (len := 3) (L0 := [(0, vr 0 0), (1, vi k)]) (rest := []) 4 (fun _ _ _ _ => rfl) (m177 _ _ g.1 ?_)
          show xW (xX0 xs Ls) p5 60 [(0, vr 0 0), (1, vi k)] [vi (pr_placeOf s k)] (xhp s) Φ
          replace g := g.2
          refine xW.br (c := 0 ≤ (pr_placeOf s k)) (pc1 := 77) (L1 := [(2, vi (pr_placeOf s k)), (0, vr 0 0), (1, vi k)]) (st1 := []) (h1 := xhp s) (pc2 := 65) (L2 := [(2, vi (pr_placeOf s k)), (0, vr 0 0), (1, vi k)]) (st2 := []) (h2 := xhp s) 3 (fun _ _ _ _ => rfl) (fun hc => ?_) (fun hc => ?_)
          · replace g := g.1 hc
            refine xW.call (y := 160) (as := [vr 9 47, vr 2 2]) (h0 := xhp (sI s 1 3 0)) (pc0 := 96) (len := 3) (L0 := [(2, vi (pr_placeOf s k)), (0, vr 0 0), (1, vi k)]) (rest := []) 10 (fun _ _ _ _ => rfl) (m160 _ g.1 ?_)
            show xW (xX0 xs Ls) p5 99 [(2, vi (pr_placeOf s k)), (0, vr 0 0), (1, vi k)] [] (xhp (hi_prepare (sI s 1 3 0))) Φ
            replace g := g.2
            refine xW.call (y := 194) (as := [vr 8 38, vi ((pr_placeOf s k) + 1), vr 2 2, vr 7 35]) (h0 := xhp (hi_prepare (sI s 1 3 0))) (pc0 := 117) (len := 3) (L0 := [(2, vi (pr_placeOf s k)), (0, vr 0 0), (1, vi k)]) (rest := []) 11 (fun _ _ _ _ => rfl) (m194 _ _ ?_)
            show xW (xX0 xs Ls) p5 120 [(2, vi (pr_placeOf s k)), (0, vr 0 0), (1, vi k)] [] (xhp (so_begin (hi_prepare (sI s 1 3 0)) ((pr_placeOf s k) + 1))) Φ
            exact xW.ret (v0 := some (vi 0)) (h1 := xhp (sI (so_begin (hi_prepare (sI s 1 3 0)) ((pr_placeOf s k) + 1)) 0 6 2)) 5 (fun _ _ _ _ => rfl) g
          · replace g := g.2 hc
            exact xW.ret (v0 := some (vi 7)) (h1 := xhp (sI s 1 3 7)) 6 (fun _ _ _ _ => rfl) g
        · replace g := g.2 hc
          exact g.elim
    · replace g := g.2 (Decidable.not_not.mp hc)
      exact g.elim
  · replace g := g.2 hc
    exact g.elim
noncomputable def te_solve_d (s : xS) (k : Int32) : Int32 × xS := (if (gI s 0 6) = 0 then (if ¬ (gI s 1 2) = 1 then (if k < 0 then (0, s) else (if k < 8 then (if 0 ≤ (pr_placeOf s k) then (0, (sI (so_begin (hi_prepare (sI s 1 3 0)) ((pr_placeOf s k) + 1)) 0 6 2)) else (7, (sI s 1 3 7))) else (0, s))) else (0, s)) else (0, s))
noncomputable def te_solve : xS → Int32 → Int32 × xS := Classical.choose (⟨te_solve_d, rfl⟩ : ∃ f, f = te_solve_d)
set_option maxRecDepth 100000 in
theorem te_solve_eq : te_solve = te_solve_d := Classical.choose_spec (⟨te_solve_d, rfl⟩ : ∃ f, f = te_solve_d)
def te_solve_ok (s : xS) (k : Int32) : Prop := (((gI s 0 6) = 0 → ((¬ (gI s 1 2) = 1 → ((k < 0 → False) ∧ (¬ (k < 0) → ((k < 8 → ((pr_placeOf_ok s k) ∧ (0 ≤ (pr_placeOf s k) → (hi_prepare_ok (sI s 1 3 0))))) ∧ (¬ (k < 8) → False))))) ∧ ((gI s 1 2) = 1 → False))) ∧ (¬ ((gI s 0 6) = 0) → False))
set_option maxRecDepth 100000 in
theorem m5 {xs : Nat → Int32} {Ls : Nat} {Ψ : xO → xH → Prop} (s : xS) (k : Int32) (gq : te_solve_ok s k) (h : Ψ (.inl (some (vi (te_solve s k).1))) (xhp (te_solve s k).2)) : xM (xX0 xs Ls) 5 [vr 0 0, vi k] (xhp s) Ψ := by
  rw [te_solve_eq] at h
  unfold te_solve_d at h
  unfold te_solve_ok at gq
  exact xM.of (P := p5) rfl rfl rfl (b5_0 s k (⟨fun hc => by rw [if_pos hc] at h; replace gq := gq.1 hc; exact ⟨fun hc => by rw [if_pos hc] at h; replace gq := gq.1 hc; exact ⟨fun hc => by rw [if_pos hc] at h; replace gq := gq.1 hc; exact gq.elim, fun hc => by rw [if_neg hc] at h; replace gq := gq.2 hc; exact ⟨fun hc => by rw [if_pos hc] at h; replace gq := gq.1 hc; exact ⟨gq.1, by replace gq := gq.2; exact ⟨fun hc => by rw [if_pos hc] at h; replace gq := gq hc; exact ⟨gq, (by (try dsimp only at h); exact h)⟩, fun hc => by rw [if_neg hc] at h; exact (by (try dsimp only at h); exact h)⟩⟩, fun hc => by rw [if_neg hc] at h; replace gq := gq.2 hc; exact gq.elim⟩⟩, fun hc => by rw [if_neg (fun z => z hc)] at h; replace gq := gq.2 hc; exact gq.elim⟩, fun hc => by rw [if_neg hc] at h; replace gq := gq.2 hc; exact gq.elim⟩))
/-! te_shown -/
theorem b6_94 {xs : Nat → Int32} {Ls : Nat} {Φ : Option xV → xH → Prop} (s : xS) (x1 : Int32) (g : ((li_part_ok s x1) ∧ Φ (some (vl (li_part s x1))) (xhp s))) : xW (xX0 xs Ls) p6 94 [(0, vr 0 0), (1, vi x1)] [] (xhp s) Φ := by
  refine xW.call (y := 167) (as := [vr 10 223, vi x1]) (h0 := xhp s) (pc0 := 99) (len := 3) (L0 := [(0, vr 0 0), (1, vi x1)]) (rest := []) 4 (fun _ _ _ _ => rfl) (m167 _ _ g.1 ?_)
  show xW (xX0 xs Ls) p6 102 [(0, vr 0 0), (1, vi x1)] [vl (li_part s x1)] (xhp s) Φ
  replace g := g.2
  exact xW.ret (v0 := some (vl (li_part s x1))) (h1 := xhp s) 1 (fun _ _ _ _ => rfl) g
noncomputable def te_shown_94_d (s : xS) (x1 : Int32) : Int64 × xS := ((li_part s x1), s)
noncomputable def te_shown_94 : xS → Int32 → Int64 × xS := Classical.choose (⟨te_shown_94_d, rfl⟩ : ∃ f, f = te_shown_94_d)
set_option maxRecDepth 100000 in
theorem te_shown_94_eq : te_shown_94 = te_shown_94_d := Classical.choose_spec (⟨te_shown_94_d, rfl⟩ : ∃ f, f = te_shown_94_d)
def te_shown_94_ok (s : xS) (x1 : Int32) : Prop := (li_part_ok s x1)
set_option maxRecDepth 100000 in
theorem n6_94 {xs : Nat → Int32} {Ls : Nat} {Φ : Option xV → xH → Prop} (s : xS) (x1 : Int32) (gq : te_shown_94_ok s x1) (h : Φ (some (vl (te_shown_94 s x1).1)) (xhp (te_shown_94 s x1).2)) : xW (xX0 xs Ls) p6 94 [(0, vr 0 0), (1, vi x1)] [] (xhp s) Φ := by
  rw [te_shown_94_eq] at h
  unfold te_shown_94_d at h
  unfold te_shown_94_ok at gq
  exact b6_94 s x1 (⟨gq, (by (try dsimp only at h); exact h)⟩)
set_option maxRecDepth 100000 in
theorem b6_0 {xs : Nat → Int32} {Ls : Nat} {Φ : Option xV → xH → Prop} (s : xS) (p : Int32) (g : ((p < 0 → False) ∧ (¬ (p < 0) → ((p ≤ 2 → (((gI (li_begin s) 1 3) = 0 → (((gI (li_begin s) 7 0) = 0 → ((li_writeNumber_ok (li_begin s)) ∧ xW (xX0 xs Ls) p6 94 [(0, vr 0 0), (1, vi p)] [] (xhp (li_writeNumber (li_begin s))) Φ)) ∧ (¬ ((gI (li_begin s) 7 0) = 0) → ((li_writeEntry_ok (li_begin s)) ∧ xW (xX0 xs Ls) p6 94 [(0, vr 0 0), (1, vi p)] [] (xhp (li_writeEntry (li_begin s))) Φ)))) ∧ (¬ ((gI (li_begin s) 1 3) = 0) → ((li_writeFault_ok (li_begin s) (gI (li_begin s) 1 3)) ∧ xW (xX0 xs Ls) p6 94 [(0, vr 0 0), (1, vi p)] [] (xhp (li_writeFault (li_begin s) (gI (li_begin s) 1 3))) Φ)))) ∧ (¬ (p ≤ 2) → False))))) : xW (xX0 xs Ls) p6 0 [(0, vr 0 0), (1, vi p)] [] (xhp s) Φ := by
  refine xW.br (c := p < 0) (pc1 := 9) (L1 := [(0, vr 0 0), (1, vi p)]) (st1 := []) (h1 := xhp s) (pc2 := 4) (L2 := [(0, vr 0 0), (1, vi p)]) (st2 := []) (h2 := xhp s) 2 (fun _ _ _ _ => rfl) (fun hc => ?_) (fun hc => ?_)
  · replace g := g.1 hc
    exact g.elim
  · replace g := g.2 hc
    refine xW.br (c := p ≤ 2) (pc1 := 17) (L1 := [(0, vr 0 0), (1, vi p)]) (st1 := []) (h1 := xhp s) (pc2 := 9) (L2 := [(0, vr 0 0), (1, vi p)]) (st2 := []) (h2 := xhp s) 3 (fun _ _ _ _ => rfl) (fun hc => ?_) (fun hc => ?_)
    · replace g := g.1 hc
      refine xW.call (y := 166) (as := [vr 10 223]) (h0 := xhp s) (pc0 := 29) (len := 3) (L0 := [(2, vr 2 2), (0, vr 0 0), (1, vi p)]) (rest := []) 7 (fun _ _ _ _ => rfl) (m166 _ ?_)
      show xW (xX0 xs Ls) p6 32 [(2, vr 2 2), (0, vr 0 0), (1, vi p)] [] (xhp (li_begin s)) Φ
      refine xW.br (c := (gI (li_begin s) 1 3) = 0) (pc1 := 59) (L1 := [(2, vr 2 2), (0, vr 0 0), (1, vi p)]) (st1 := []) (h1 := xhp (li_begin s)) (pc2 := 42) (L2 := [(2, vr 2 2), (0, vr 0 0), (1, vi p)]) (st2 := []) (h2 := xhp (li_begin s)) 4 (fun _ _ _ _ => rfl) (fun hc => ?_) (fun hc => ?_)
      · replace g := g.1 hc
        refine xW.br (c := (gI (li_begin s) 7 0) = 0) (pc1 := 83) (L1 := [(2, vr 2 2), (0, vr 0 0), (1, vi p)]) (st1 := []) (h1 := xhp (li_begin s)) (pc2 := 69) (L2 := [(2, vr 2 2), (0, vr 0 0), (1, vi p)]) (st2 := []) (h2 := xhp (li_begin s)) 4 (fun _ _ _ _ => rfl) (fun hc => ?_) (fun hc => ?_)
        · replace g := g.1 hc
          refine xW.call (y := 170) (as := [vr 10 223, vr 5 18]) (h0 := xhp (li_begin s)) (pc0 := 91) (len := 3) (L0 := [(2, vr 2 2), (0, vr 0 0), (1, vi p)]) (rest := []) 5 (fun _ _ _ _ => rfl) (m170 _ g.1 ?_)
          show xW (xX0 xs Ls) p6 94 [(2, vr 2 2), (0, vr 0 0), (1, vi p)] [] (xhp (li_writeNumber (li_begin s))) Φ
          replace g := g.2
          exact xW.locs (L := [(0, vr 0 0), (1, vi p)]) ⟨rfl, rfl, trivial⟩ rfl g
        · replace g := g.2 hc
          refine xW.call (y := 169) (as := [vr 10 223, vr 4 7]) (h0 := xhp (li_begin s)) (pc0 := 77) (len := 3) (L0 := [(2, vr 2 2), (0, vr 0 0), (1, vi p)]) (rest := []) 5 (fun _ _ _ _ => rfl) (m169 _ g.1 ?_)
          show xW (xX0 xs Ls) p6 80 [(2, vr 2 2), (0, vr 0 0), (1, vi p)] [] (xhp (li_writeEntry (li_begin s))) Φ
          replace g := g.2
          refine xW.seg (pc1 := 94) (L1 := [(2, vr 2 2), (0, vr 0 0), (1, vi p)]) (st1 := []) (h1 := xhp (li_writeEntry (li_begin s))) 1 (fun _ _ _ _ => rfl) ?_
          exact xW.locs (L := [(0, vr 0 0), (1, vi p)]) ⟨rfl, rfl, trivial⟩ rfl g
      · replace g := g.2 hc
        refine xW.call (y := 168) (as := [vr 10 223, vi (gI (li_begin s) 1 3)]) (h0 := xhp (li_begin s)) (pc0 := 53) (len := 3) (L0 := [(2, vr 2 2), (0, vr 0 0), (1, vi p)]) (rest := []) 6 (fun _ _ _ _ => rfl) (m168 _ _ g.1 ?_)
        show xW (xX0 xs Ls) p6 56 [(2, vr 2 2), (0, vr 0 0), (1, vi p)] [] (xhp (li_writeFault (li_begin s) (gI (li_begin s) 1 3))) Φ
        replace g := g.2
        refine xW.seg (pc1 := 94) (L1 := [(2, vr 2 2), (0, vr 0 0), (1, vi p)]) (st1 := []) (h1 := xhp (li_writeFault (li_begin s) (gI (li_begin s) 1 3))) 1 (fun _ _ _ _ => rfl) ?_
        exact xW.locs (L := [(0, vr 0 0), (1, vi p)]) ⟨rfl, rfl, trivial⟩ rfl g
    · replace g := g.2 hc
      exact g.elim
noncomputable def te_shown_d (s : xS) (p : Int32) : Int64 × xS := (if p < 0 then (0, s) else (if p ≤ 2 then (if (gI (li_begin s) 1 3) = 0 then (if (gI (li_begin s) 7 0) = 0 then (te_shown_94 (li_writeNumber (li_begin s)) p) else (te_shown_94 (li_writeEntry (li_begin s)) p)) else (te_shown_94 (li_writeFault (li_begin s) (gI (li_begin s) 1 3)) p)) else (0, s)))
noncomputable def te_shown : xS → Int32 → Int64 × xS := Classical.choose (⟨te_shown_d, rfl⟩ : ∃ f, f = te_shown_d)
set_option maxRecDepth 100000 in
theorem te_shown_eq : te_shown = te_shown_d := Classical.choose_spec (⟨te_shown_d, rfl⟩ : ∃ f, f = te_shown_d)
def te_shown_ok (s : xS) (p : Int32) : Prop := ((p < 0 → False) ∧ (¬ (p < 0) → ((p ≤ 2 → (((gI (li_begin s) 1 3) = 0 → (((gI (li_begin s) 7 0) = 0 → ((li_writeNumber_ok (li_begin s)) ∧ (te_shown_94_ok (li_writeNumber (li_begin s)) p))) ∧ (¬ ((gI (li_begin s) 7 0) = 0) → ((li_writeEntry_ok (li_begin s)) ∧ (te_shown_94_ok (li_writeEntry (li_begin s)) p))))) ∧ (¬ ((gI (li_begin s) 1 3) = 0) → ((li_writeFault_ok (li_begin s) (gI (li_begin s) 1 3)) ∧ (te_shown_94_ok (li_writeFault (li_begin s) (gI (li_begin s) 1 3)) p))))) ∧ (¬ (p ≤ 2) → False))))
set_option maxRecDepth 100000 in
theorem m6 {xs : Nat → Int32} {Ls : Nat} {Ψ : xO → xH → Prop} (s : xS) (p : Int32) (gq : te_shown_ok s p) (h : Ψ (.inl (some (vl (te_shown s p).1))) (xhp (te_shown s p).2)) : xM (xX0 xs Ls) 6 [vr 0 0, vi p] (xhp s) Ψ := by
  rw [te_shown_eq] at h
  unfold te_shown_d at h
  unfold te_shown_ok at gq
  exact xM.of (P := p6) rfl rfl rfl (b6_0 s p (⟨fun hc => by rw [if_pos hc] at h; replace gq := gq.1 hc; exact gq.elim, fun hc => by rw [if_neg hc] at h; replace gq := gq.2 hc; exact ⟨fun hc => by rw [if_pos hc] at h; replace gq := gq.1 hc; exact ⟨fun hc => by rw [if_pos hc] at h; replace gq := gq.1 hc; exact ⟨fun hc => by rw [if_pos hc] at h; replace gq := gq.1 hc; exact ⟨gq.1, by replace gq := gq.2; exact n6_94 _ _ gq h⟩, fun hc => by rw [if_neg hc] at h; replace gq := gq.2 hc; exact ⟨gq.1, by replace gq := gq.2; exact n6_94 _ _ gq h⟩⟩, fun hc => by rw [if_neg hc] at h; replace gq := gq.2 hc; exact ⟨gq.1, by replace gq := gq.2; exact n6_94 _ _ gq h⟩⟩, fun hc => by rw [if_neg hc] at h; replace gq := gq.2 hc; exact gq.elim⟩⟩))
/-! te_digits -/
theorem b7_0 {xs : Nat → Int32} {Ls : Nat} {Φ : Option xV → xH → Prop} (s : xS) (w : Int32) (g : ((w < 0 → False) ∧ (¬ (w < 0) → ((w < 15 → ((vp_in w 15 ∧ xRok 3 w.toNatClampNeg 5) ∧ Φ (some (vl (gJ s (xR0 3 w.toNatClampNeg - 1) 0))) (xhp s))) ∧ (¬ (w < 15) → False))))) : xW (xX0 xs Ls) p7 0 [(0, vr 0 0), (1, vi w)] [] (xhp s) Φ := by
  refine xW.br (c := w < 0) (pc1 := 10) (L1 := [(0, vr 0 0), (1, vi w)]) (st1 := []) (h1 := xhp s) (pc2 := 4) (L2 := [(0, vr 0 0), (1, vi w)]) (st2 := []) (h2 := xhp s) 2 (fun _ _ _ _ => rfl) (fun hc => ?_) (fun hc => ?_)
  · replace g := g.1 hc
    exact g.elim
  · replace g := g.2 hc
    refine xW.br (c := w < 15) (pc1 := 18) (L1 := [(0, vr 0 0), (1, vi w)]) (st1 := []) (h1 := xhp s) (pc2 := 10) (L2 := [(0, vr 0 0), (1, vi w)]) (st2 := []) (h2 := xhp s) 3 (fun _ _ _ _ => rfl) (fun hc => ?_) (fun hc => ?_)
    · replace g := g.1 hc
      refine xW.refr (r := xR0 3 w.toNatClampNeg) (a := (xR0 3 w.toNatClampNeg - 1)) (kind := 5) (c := vp_in w 15) (h0 := xhp s) (pc1 := 30) (L1 := [(0, vr 0 0), (1, vi w)]) (st1 := []) (h1 := xhp s) 6 (fun _ _ _ _ => rfl) g.1.1 g.1.2.1 g.1.2.2 ?_
      replace g := g.2
      exact xW.ret (v0 := some (vl (gJ s (xR0 3 w.toNatClampNeg - 1) 0))) (h1 := xhp s) 2 (fun _ _ _ _ => rfl) g
    · replace g := g.2 hc
      exact g.elim
noncomputable def te_digits (s : xS) (w : Int32) : Int64 := (if w < 0 then 0 else (if w < 15 then (gJ s (xR0 3 w.toNatClampNeg - 1) 0) else 0))
def te_digits_ok (s : xS) (w : Int32) : Prop := ((w < 0 → False) ∧ (¬ (w < 0) → ((w < 15 → (vp_in w 15 ∧ xRok 3 w.toNatClampNeg 5)) ∧ (¬ (w < 15) → False))))
set_option maxRecDepth 100000 in
theorem m7 {xs : Nat → Int32} {Ls : Nat} {Ψ : xO → xH → Prop} (s : xS) (w : Int32) (gq : te_digits_ok s w) (h : Ψ (.inl (some (vl (te_digits s w)))) (xhp s)) : xM (xX0 xs Ls) 7 [vr 0 0, vi w] (xhp s) Ψ := by
  unfold te_digits at h
  unfold te_digits_ok at gq
  exact xM.of (P := p7) rfl rfl rfl (b7_0 s w (⟨fun hc => by rw [if_pos hc] at h; replace gq := gq.1 hc; exact gq.elim, fun hc => by rw [if_neg hc] at h; replace gq := gq.2 hc; exact ⟨fun hc => by rw [if_pos hc] at h; replace gq := gq.1 hc; exact ⟨gq, h⟩, fun hc => by rw [if_neg hc] at h; replace gq := gq.2 hc; exact gq.elim⟩⟩))
/-! te_exponent -/
theorem b8_0 {xs : Nat → Int32} {Ls : Nat} {Φ : Option xV → xH → Prop} (s : xS) (w : Int32) (g : ((w < 0 → False) ∧ (¬ (w < 0) → ((w < 15 → ((vp_in w 15 ∧ xRok 3 w.toNatClampNeg 5) ∧ Φ (some (vi (gI s (xR0 3 w.toNatClampNeg - 1) 1))) (xhp s))) ∧ (¬ (w < 15) → False))))) : xW (xX0 xs Ls) p8 0 [(0, vr 0 0), (1, vi w)] [] (xhp s) Φ := by
  refine xW.br (c := w < 0) (pc1 := 10) (L1 := [(0, vr 0 0), (1, vi w)]) (st1 := []) (h1 := xhp s) (pc2 := 4) (L2 := [(0, vr 0 0), (1, vi w)]) (st2 := []) (h2 := xhp s) 2 (fun _ _ _ _ => rfl) (fun hc => ?_) (fun hc => ?_)
  · replace g := g.1 hc
    exact g.elim
  · replace g := g.2 hc
    refine xW.br (c := w < 15) (pc1 := 18) (L1 := [(0, vr 0 0), (1, vi w)]) (st1 := []) (h1 := xhp s) (pc2 := 10) (L2 := [(0, vr 0 0), (1, vi w)]) (st2 := []) (h2 := xhp s) 3 (fun _ _ _ _ => rfl) (fun hc => ?_) (fun hc => ?_)
    · replace g := g.1 hc
      refine xW.refr (r := xR0 3 w.toNatClampNeg) (a := (xR0 3 w.toNatClampNeg - 1)) (kind := 5) (c := vp_in w 15) (h0 := xhp s) (pc1 := 30) (L1 := [(0, vr 0 0), (1, vi w)]) (st1 := []) (h1 := xhp s) 6 (fun _ _ _ _ => rfl) g.1.1 g.1.2.1 g.1.2.2 ?_
      replace g := g.2
      exact xW.ret (v0 := some (vi (gI s (xR0 3 w.toNatClampNeg - 1) 1))) (h1 := xhp s) 2 (fun _ _ _ _ => rfl) g
    · replace g := g.2 hc
      exact g.elim
noncomputable def te_exponent (s : xS) (w : Int32) : Int32 := (if w < 0 then 0 else (if w < 15 then (gI s (xR0 3 w.toNatClampNeg - 1) 1) else 0))
def te_exponent_ok (s : xS) (w : Int32) : Prop := ((w < 0 → False) ∧ (¬ (w < 0) → ((w < 15 → (vp_in w 15 ∧ xRok 3 w.toNatClampNeg 5)) ∧ (¬ (w < 15) → False))))
set_option maxRecDepth 100000 in
theorem m8 {xs : Nat → Int32} {Ls : Nat} {Ψ : xO → xH → Prop} (s : xS) (w : Int32) (gq : te_exponent_ok s w) (h : Ψ (.inl (some (vi (te_exponent s w)))) (xhp s)) : xM (xX0 xs Ls) 8 [vr 0 0, vi w] (xhp s) Ψ := by
  unfold te_exponent at h
  unfold te_exponent_ok at gq
  exact xM.of (P := p8) rfl rfl rfl (b8_0 s w (⟨fun hc => by rw [if_pos hc] at h; replace gq := gq.1 hc; exact gq.elim, fun hc => by rw [if_neg hc] at h; replace gq := gq.2 hc; exact ⟨fun hc => by rw [if_pos hc] at h; replace gq := gq.1 hc; exact ⟨gq, h⟩, fun hc => by rw [if_neg hc] at h; replace gq := gq.2 hc; exact gq.elim⟩⟩))
/-! te_mode -/
theorem b9_0 {xs : Nat → Int32} {Ls : Nat} {Φ : Option xV → xH → Prop} (s : xS) (k : Int32) (m : Int32) (g : ((k < 0 → False) ∧ (¬ (k < 0) → ((1 < k → False) ∧ (¬ (1 < k) → ((m < 0 → False) ∧ (¬ (m < 0) → ((m ≤ 9 → Φ none (xhp (sI (sI s 223 0 (zb (decide (k = 1)))) 223 1 m))) ∧ (¬ (m ≤ 9) → False))))))))) : xW (xX0 xs Ls) p9 0 [(0, vr 0 0), (1, vi k), (2, vi m)] [] (xhp s) Φ := by
  refine xW.br (c := k < 0) (pc1 := 19) (L1 := [(0, vr 0 0), (1, vi k), (2, vi m)]) (st1 := []) (h1 := xhp s) (pc2 := 4) (L2 := [(0, vr 0 0), (1, vi k), (2, vi m)]) (st2 := []) (h2 := xhp s) 2 (fun _ _ _ _ => rfl) (fun hc => ?_) (fun hc => ?_)
  · replace g := g.1 hc
    exact g.elim
  · replace g := g.2 hc
    refine xW.br (c := 1 < k) (pc1 := 19) (L1 := [(0, vr 0 0), (1, vi k), (2, vi m)]) (st1 := []) (h1 := xhp s) (pc2 := 9) (L2 := [(0, vr 0 0), (1, vi k), (2, vi m)]) (st2 := []) (h2 := xhp s) 3 (fun _ _ _ _ => rfl) (fun hc => ?_) (fun hc => ?_)
    · replace g := g.1 hc
      exact g.elim
    · replace g := g.2 hc
      refine xW.br (c := m < 0) (pc1 := 19) (L1 := [(0, vr 0 0), (1, vi k), (2, vi m)]) (st1 := []) (h1 := xhp s) (pc2 := 13) (L2 := [(0, vr 0 0), (1, vi k), (2, vi m)]) (st2 := []) (h2 := xhp s) 2 (fun _ _ _ _ => rfl) (fun hc => ?_) (fun hc => ?_)
      · replace g := g.1 hc
        exact g.elim
      · replace g := g.2 hc
        refine xW.br (c := m ≤ 9) (pc1 := 27) (L1 := [(0, vr 0 0), (1, vi k), (2, vi m)]) (st1 := []) (h1 := xhp s) (pc2 := 19) (L2 := [(0, vr 0 0), (1, vi k), (2, vi m)]) (st2 := []) (h2 := xhp s) 3 (fun _ _ _ _ => rfl) (fun hc => ?_) (fun hc => ?_)
        · replace g := g.1 hc
          refine xW.seg (pc1 := 33) (L1 := [(0, vr 0 0), (1, vi k), (2, vi m)]) (st1 := [vi 1, vi k, vr 10 223]) (h1 := xhp s) 4 (fun _ _ _ _ => rfl) ?_
          suffices J : xW (xX0 xs Ls) p9 41 [(0, vr 0 0), (1, vi k), (2, vi m)] [vi (zb (decide (k = 1))), vr 10 223] (xhp s) Φ by
            refine xW.br (c := ¬ k = 1) (pc1 := 40) (L1 := [(0, vr 0 0), (1, vi k), (2, vi m)]) (st1 := [vr 10 223]) (h1 := xhp s) (pc2 := 36) (L2 := [(0, vr 0 0), (1, vi k), (2, vi m)]) (st2 := [vr 10 223]) (h2 := xhp s) 1 (fun _ _ _ _ => rfl) (fun hc => ?_) (fun hc => ?_)
            · have hc1 : ¬ k = 1 := hc
              refine xW.seg (pc1 := 41) (L1 := [(0, vr 0 0), (1, vi k), (2, vi m)]) (st1 := [vi 0, vr 10 223]) (h1 := xhp s) 1 (fun _ _ _ _ => rfl) ?_
              refine xW.to (v := vi (zb (decide (k = 1)))) (zb_f (by simp only [decide_eq_false hc1, Bool.true_or, Bool.or_true, Bool.false_or, Bool.or_false, Bool.true_and, Bool.and_true, Bool.false_and, Bool.and_false, Bool.not_true, Bool.not_false, cond_true, cond_false])) ?_
              exact J
            · have hc1 : k = 1 := (Decidable.not_not.mp hc)
              refine xW.seg (pc1 := 41) (L1 := [(0, vr 0 0), (1, vi k), (2, vi m)]) (st1 := [vi 1, vr 10 223]) (h1 := xhp s) 2 (fun _ _ _ _ => rfl) ?_
              refine xW.to (v := vi (zb (decide (k = 1)))) (zb_t (by simp only [decide_eq_true hc1, Bool.true_or, Bool.or_true, Bool.false_or, Bool.or_false, Bool.true_and, Bool.and_true, Bool.false_and, Bool.and_false, Bool.not_true, Bool.not_false, cond_true, cond_false])) ?_
              exact J
          refine xW.side (c := (zb (decide (k = 1))) = 0 ∨ (zb (decide (k = 1))) = 1) (pc1 := 44) (L1 := [(0, vr 0 0), (1, vi k), (2, vi m)]) (st1 := []) (h1 := xhp (sI s 223 0 (zb (decide (k = 1))))) 1 (fun _ _ _ _ => rfl) (zb01 _) ?_
          exact xW.ret (v0 := none) (h1 := xhp (sI (sI s 223 0 (zb (decide (k = 1)))) 223 1 m)) 5 (fun _ _ _ _ => rfl) g
        · replace g := g.2 hc
          exact g.elim
noncomputable def te_mode_d (s : xS) (k : Int32) (m : Int32) : xS := (if k < 0 then s else (if 1 < k then s else (if m < 0 then s else (if m ≤ 9 then (sI (sI s 223 0 (zb (decide (k = 1)))) 223 1 m) else s))))
noncomputable def te_mode : xS → Int32 → Int32 → xS := Classical.choose (⟨te_mode_d, rfl⟩ : ∃ f, f = te_mode_d)
set_option maxRecDepth 100000 in
theorem te_mode_eq : te_mode = te_mode_d := Classical.choose_spec (⟨te_mode_d, rfl⟩ : ∃ f, f = te_mode_d)
def te_mode_ok (s : xS) (k : Int32) (m : Int32) : Prop := ((k < 0 → False) ∧ (¬ (k < 0) → ((1 < k → False) ∧ (¬ (1 < k) → ((m < 0 → False) ∧ (¬ (m < 0) → (¬ (m ≤ 9) → False)))))))
set_option maxRecDepth 100000 in
theorem m9 {xs : Nat → Int32} {Ls : Nat} {Ψ : xO → xH → Prop} (s : xS) (k : Int32) (m : Int32) (gq : te_mode_ok s k m) (h : Ψ (.inl none) (xhp (te_mode s k m))) : xM (xX0 xs Ls) 9 [vr 0 0, vi k, vi m] (xhp s) Ψ := by
  rw [te_mode_eq] at h
  unfold te_mode_d at h
  unfold te_mode_ok at gq
  exact xM.of (P := p9) rfl rfl rfl (b9_0 s k m (⟨fun hc => by rw [if_pos hc] at h; replace gq := gq.1 hc; exact gq.elim, fun hc => by rw [if_neg hc] at h; replace gq := gq.2 hc; exact ⟨fun hc => by rw [if_pos hc] at h; replace gq := gq.1 hc; exact gq.elim, fun hc => by rw [if_neg hc] at h; replace gq := gq.2 hc; exact ⟨fun hc => by rw [if_pos hc] at h; replace gq := gq.1 hc; exact gq.elim, fun hc => by rw [if_neg hc] at h; replace gq := gq.2 hc; exact ⟨fun hc => by rw [if_pos hc] at h; exact h, fun hc => by rw [if_neg hc] at h; replace gq := gq hc; exact gq.elim⟩⟩⟩⟩))
/-! te_store -/
theorem b10_36 {xs : Nat → Int32} {Ls : Nat} {Φ : Option xV → xH → Prop} (s : xS) (x1 : Int32) (x2 : Int64) (x4 : Int32) (g : ((8 ≤ x4 → Φ none (xhp s)) ∧ (¬ (8 ≤ x4) → ((vp_in (x1 + x4) 100) ∧ xW (xX0 xs Ls) p10 36 [(0, vr 0 0), (1, vi x1), (2, vl x2), (4, vi (x4 + 1))] [] (xhp (sI s 36 ((x1 + x4).toNatClampNeg) (te_byteOf x2 x4))) Φ)))) : xW (xX0 xs Ls) p10 36 [(0, vr 0 0), (1, vi x1), (2, vl x2), (4, vi x4)] [] (xhp s) Φ := by
  refine xW.br (c := 8 ≤ x4) (pc1 := 67) (L1 := [(0, vr 0 0), (1, vi x1), (2, vl x2), (4, vi x4)]) (st1 := []) (h1 := xhp s) (pc2 := 43) (L2 := [(0, vr 0 0), (1, vi x1), (2, vl x2), (4, vi x4)]) (st2 := []) (h2 := xhp s) 3 (fun _ _ _ _ => rfl) (fun hc => ?_) (fun hc => ?_)
  · replace g := g.1 hc
    exact xW.ret (v0 := none) (h1 := xhp s) 1 (fun _ _ _ _ => rfl) g
  · replace g := g.2 hc
    refine xW.call (y := 22) (as := [vl x2, vi x4]) (h0 := xhp s) (pc0 := 57) (len := 3) (L0 := [(0, vr 0 0), (1, vi x1), (2, vl x2), (4, vi x4)]) (rest := [vi (x1 + x4), vr 40 36]) 9 (fun _ _ _ _ => rfl) (m22 _ _ _ ?_)
    show xW (xX0 xs Ls) p10 60 [(0, vr 0 0), (1, vi x1), (2, vl x2), (4, vi x4)] [vi (te_byteOf x2 x4), vi (x1 + x4), vr 40 36] (xhp s) Φ
    refine xW.side (c := vp_in (x1 + x4) 100) (pc1 := 61) (L1 := [(0, vr 0 0), (1, vi x1), (2, vl x2), (4, vi x4)]) (st1 := []) (h1 := xhp (sI s 36 ((x1 + x4).toNatClampNeg) (te_byteOf x2 x4))) 1 (fun _ _ _ _ => rfl) g.1 ?_
    replace g := g.2
    refine xW.seg (pc1 := 36) (L1 := [(4, vi (x4 + 1)), (0, vr 0 0), (1, vi x1), (2, vl x2)]) (st1 := []) (h1 := xhp (sI s 36 ((x1 + x4).toNatClampNeg) (te_byteOf x2 x4))) 2 (fun _ _ _ _ => rfl) ?_
    exact xW.locs (L := [(0, vr 0 0), (1, vi x1), (2, vl x2), (4, vi (x4 + 1))]) ⟨rfl, rfl, rfl, rfl, trivial⟩ rfl g
noncomputable def te_store_36 : Nat → xS → Int32 → Int64 → Int32 → xS
  | 0, s, _, _, _ => s
  | n + 1, s, x1, x2, x4 => (if 8 ≤ x4 then s else (te_store_36 n (sI s 36 ((x1 + x4).toNatClampNeg) (te_byteOf x2 x4)) x1 x2 (x4 + 1)))
def te_store_36_ok : Nat → xS → Int32 → Int64 → Int32 → Prop
  | 0, _, _, _, _ => False
  | n + 1, s, x1, x2, x4 => (¬ (8 ≤ x4) → ((vp_in (x1 + x4) 100) ∧ (te_store_36_ok n (sI s 36 ((x1 + x4).toNatClampNeg) (te_byteOf x2 x4)) x1 x2 (x4 + 1))))
set_option maxRecDepth 100000 in
theorem n10_36 {xs : Nat → Int32} {Ls : Nat} {Φ : Option xV → xH → Prop} : ∀ (n : Nat) (s : xS) (x1 : Int32) (x2 : Int64) (x4 : Int32), te_store_36_ok n s x1 x2 x4 → Φ none (xhp (te_store_36 n s x1 x2 x4)) → xW (xX0 xs Ls) p10 36 [(0, vr 0 0), (1, vi x1), (2, vl x2), (4, vi x4)] [] (xhp s) Φ := by
  intro n
  induction n with
  | zero => intro s _ _ _ gq; exact gq.elim
  | succ n ih =>
    intro s x1 x2 x4 gq h
    unfold te_store_36_ok at gq
    unfold te_store_36 at h
    exact b10_36 s x1 x2 x4 (⟨fun hc => by rw [if_pos hc] at h; exact h, fun hc => by rw [if_neg hc] at h; replace gq := gq hc; exact ⟨gq.1, by replace gq := gq.2; exact ih _ _ _ _ gq h⟩⟩)
set_option maxRecDepth 100000 in
theorem b10_0 {xs : Nat → Int32} {Ls : Nat} {Φ : Option xV → xH → Prop} (s : xS) (p : Int32) (b : Int64) (g : (((gI s 0 6) = 0 → ((p < 0 → False) ∧ (¬ (p < 0) → ((p ≤ 92 → xW (xX0 xs Ls) p10 36 [(0, vr 0 0), (1, vi p), (2, vl b), (4, vi 0)] [] (xhp s) Φ) ∧ (¬ (p ≤ 92) → False))))) ∧ (¬ ((gI s 0 6) = 0) → False))) : xW (xX0 xs Ls) p10 0 [(0, vr 0 0), (1, vi p), (2, vl b)] [] (xhp s) Φ := by
  refine xW.br (c := (gI s 0 6) = 0) (pc1 := 15) (L1 := [(0, vr 0 0), (1, vi p), (2, vl b)]) (st1 := []) (h1 := xhp s) (pc2 := 7) (L2 := [(0, vr 0 0), (1, vi p), (2, vl b)]) (st2 := []) (h2 := xhp s) 3 (fun _ _ _ _ => rfl) (fun hc => ?_) (fun hc => ?_)
  · replace g := g.1 hc
    refine xW.br (c := p < 0) (pc1 := 25) (L1 := [(0, vr 0 0), (1, vi p), (2, vl b)]) (st1 := []) (h1 := xhp s) (pc2 := 19) (L2 := [(0, vr 0 0), (1, vi p), (2, vl b)]) (st2 := []) (h2 := xhp s) 2 (fun _ _ _ _ => rfl) (fun hc => ?_) (fun hc => ?_)
    · replace g := g.1 hc
      exact g.elim
    · replace g := g.2 hc
      refine xW.br (c := p ≤ 92) (pc1 := 33) (L1 := [(0, vr 0 0), (1, vi p), (2, vl b)]) (st1 := []) (h1 := xhp s) (pc2 := 25) (L2 := [(0, vr 0 0), (1, vi p), (2, vl b)]) (st2 := []) (h2 := xhp s) 3 (fun _ _ _ _ => rfl) (fun hc => ?_) (fun hc => ?_)
      · replace g := g.1 hc
        refine xW.seg (pc1 := 36) (L1 := [(4, vi 0), (0, vr 0 0), (1, vi p), (2, vl b)]) (st1 := []) (h1 := xhp s) 2 (fun _ _ _ _ => rfl) ?_
        exact xW.locs (L := [(0, vr 0 0), (1, vi p), (2, vl b), (4, vi 0)]) ⟨rfl, rfl, rfl, rfl, trivial⟩ rfl g
      · replace g := g.2 hc
        exact g.elim
  · replace g := g.2 hc
    exact g.elim
noncomputable def te_store_d (s : xS) (p : Int32) (b : Int64) : xS := (if (gI s 0 6) = 0 then (if p < 0 then s else (if p ≤ 92 then (te_store_36 xfu s p b 0) else s)) else s)
noncomputable def te_store : xS → Int32 → Int64 → xS := Classical.choose (⟨te_store_d, rfl⟩ : ∃ f, f = te_store_d)
set_option maxRecDepth 100000 in
theorem te_store_eq : te_store = te_store_d := Classical.choose_spec (⟨te_store_d, rfl⟩ : ∃ f, f = te_store_d)
def te_store_ok (s : xS) (p : Int32) (b : Int64) : Prop := (((gI s 0 6) = 0 → ((p < 0 → False) ∧ (¬ (p < 0) → ((p ≤ 92 → (te_store_36_ok xfu s p b 0)) ∧ (¬ (p ≤ 92) → False))))) ∧ (¬ ((gI s 0 6) = 0) → False))
set_option maxRecDepth 100000 in
theorem m10 {xs : Nat → Int32} {Ls : Nat} {Ψ : xO → xH → Prop} (s : xS) (p : Int32) (b : Int64) (gq : te_store_ok s p b) (h : Ψ (.inl none) (xhp (te_store s p b))) : xM (xX0 xs Ls) 10 [vr 0 0, vi p, vl b] (xhp s) Ψ := by
  rw [te_store_eq] at h
  unfold te_store_d at h
  unfold te_store_ok at gq
  exact xM.of (P := p10) rfl rfl rfl (b10_0 s p b (⟨fun hc => by rw [if_pos hc] at h; replace gq := gq.1 hc; exact ⟨fun hc => by rw [if_pos hc] at h; replace gq := gq.1 hc; exact gq.elim, fun hc => by rw [if_neg hc] at h; replace gq := gq.2 hc; exact ⟨fun hc => by rw [if_pos hc] at h; replace gq := gq.1 hc; exact n10_36 _ _ _ _ _ gq h, fun hc => by rw [if_neg hc] at h; replace gq := gq.2 hc; exact gq.elim⟩⟩, fun hc => by rw [if_neg hc] at h; replace gq := gq.2 hc; exact gq.elim⟩))
/-! te_code -/
theorem b11_0 {xs : Nat → Int32} {Ls : Nat} {Φ : Option xV → xH → Prop} (s : xS) (p : Int32) (g : ((p < 0 → False) ∧ (¬ (p < 0) → ((p < 100 → ((vp_in p 100) ∧ Φ (some (vi (gI s 36 p.toNatClampNeg))) (xhp s))) ∧ (¬ (p < 100) → False))))) : xW (xX0 xs Ls) p11 0 [(0, vr 0 0), (1, vi p)] [] (xhp s) Φ := by
  refine xW.br (c := p < 0) (pc1 := 10) (L1 := [(0, vr 0 0), (1, vi p)]) (st1 := []) (h1 := xhp s) (pc2 := 4) (L2 := [(0, vr 0 0), (1, vi p)]) (st2 := []) (h2 := xhp s) 2 (fun _ _ _ _ => rfl) (fun hc => ?_) (fun hc => ?_)
  · replace g := g.1 hc
    exact g.elim
  · replace g := g.2 hc
    refine xW.br (c := p < 100) (pc1 := 18) (L1 := [(0, vr 0 0), (1, vi p)]) (st1 := []) (h1 := xhp s) (pc2 := 10) (L2 := [(0, vr 0 0), (1, vi p)]) (st2 := []) (h2 := xhp s) 3 (fun _ _ _ _ => rfl) (fun hc => ?_) (fun hc => ?_)
    · replace g := g.1 hc
      refine xW.side (c := vp_in p 100) (pc1 := 27) (L1 := [(0, vr 0 0), (1, vi p)]) (st1 := [vi (gI s 36 p.toNatClampNeg)]) (h1 := xhp s) 5 (fun _ _ _ _ => rfl) g.1 ?_
      replace g := g.2
      exact xW.ret (v0 := some (vi (gI s 36 p.toNatClampNeg))) (h1 := xhp s) 1 (fun _ _ _ _ => rfl) g
    · replace g := g.2 hc
      exact g.elim
noncomputable def te_code (s : xS) (p : Int32) : Int32 := (if p < 0 then 0 else (if p < 100 then (gI s 36 p.toNatClampNeg) else 0))
def te_code_ok (s : xS) (p : Int32) : Prop := ((p < 0 → False) ∧ (¬ (p < 0) → ((p < 100 → (vp_in p 100)) ∧ (¬ (p < 100) → False))))
set_option maxRecDepth 100000 in
theorem m11 {xs : Nat → Int32} {Ls : Nat} {Ψ : xO → xH → Prop} (s : xS) (p : Int32) (gq : te_code_ok s p) (h : Ψ (.inl (some (vi (te_code s p)))) (xhp s)) : xM (xX0 xs Ls) 11 [vr 0 0, vi p] (xhp s) Ψ := by
  unfold te_code at h
  unfold te_code_ok at gq
  exact xM.of (P := p11) rfl rfl rfl (b11_0 s p (⟨fun hc => by rw [if_pos hc] at h; replace gq := gq.1 hc; exact gq.elim, fun hc => by rw [if_neg hc] at h; replace gq := gq.2 hc; exact ⟨fun hc => by rw [if_pos hc] at h; replace gq := gq.1 hc; exact ⟨gq, h⟩, fun hc => by rw [if_neg hc] at h; replace gq := gq.2 hc; exact gq.elim⟩⟩))
/-! te_type -/
theorem b12_0 {xs : Nat → Int32} {Ls : Nat} {Φ : Option xV → xH → Prop} (s : xS) (b : Int64) (g : ((tr_append_ok s b) ∧ Φ (some (vi ((tr_append s b).1))) (xhp ((tr_append s b).2)))) : xW (xX0 xs Ls) p12 0 [(0, vr 0 0), (1, vl b)] [] (xhp s) Φ := by
  refine xW.call (y := 200) (as := [vr 11 225, vl b]) (h0 := xhp s) (pc0 := 5) (len := 3) (L0 := [(0, vr 0 0), (1, vl b)]) (rest := []) 4 (fun _ _ _ _ => rfl) (m200 _ _ g.1 ?_)
  show xW (xX0 xs Ls) p12 8 [(0, vr 0 0), (1, vl b)] [vi ((tr_append s b).1)] (xhp ((tr_append s b).2)) Φ
  replace g := g.2
  exact xW.ret (v0 := some (vi ((tr_append s b).1))) (h1 := xhp ((tr_append s b).2)) 1 (fun _ _ _ _ => rfl) g
noncomputable def te_type_d (s : xS) (b : Int64) : Int32 × xS := (tr_append s b)
noncomputable def te_type : xS → Int64 → Int32 × xS := Classical.choose (⟨te_type_d, rfl⟩ : ∃ f, f = te_type_d)
set_option maxRecDepth 100000 in
theorem te_type_eq : te_type = te_type_d := Classical.choose_spec (⟨te_type_d, rfl⟩ : ∃ f, f = te_type_d)
def te_type_ok (s : xS) (b : Int64) : Prop := (tr_append_ok s b)
set_option maxRecDepth 100000 in
theorem m12 {xs : Nat → Int32} {Ls : Nat} {Ψ : xO → xH → Prop} (s : xS) (b : Int64) (gq : te_type_ok s b) (h : Ψ (.inl (some (vi (te_type s b).1))) (xhp (te_type s b).2)) : xM (xX0 xs Ls) 12 [vr 0 0, vl b] (xhp s) Ψ := by
  rw [te_type_eq] at h
  unfold te_type_d at h
  unfold te_type_ok at gq
  exact xM.of (P := p12) rfl rfl rfl (b12_0 s b (⟨gq, (by (try dsimp only at h); exact h)⟩))
/-! te_wipe -/
theorem b13_0 {xs : Nat → Int32} {Ls : Nat} {Φ : Option xV → xH → Prop} (s : xS) (g : Φ (some (vi (gI s 225 2))) (xhp (sI s 225 2 0))) : xW (xX0 xs Ls) p13 0 [(0, vr 0 0)] [] (xhp s) Φ := by
  exact xW.ret (v0 := some (vi (gI s 225 2))) (h1 := xhp (sI s 225 2 0)) 10 (fun _ _ _ _ => rfl) g
noncomputable def te_wipe_d (s : xS) : Int32 × xS := ((gI s 225 2), (sI s 225 2 0))
noncomputable def te_wipe : xS → Int32 × xS := Classical.choose (⟨te_wipe_d, rfl⟩ : ∃ f, f = te_wipe_d)
set_option maxRecDepth 100000 in
theorem te_wipe_eq : te_wipe = te_wipe_d := Classical.choose_spec (⟨te_wipe_d, rfl⟩ : ∃ f, f = te_wipe_d)
set_option maxRecDepth 100000 in
theorem m13 {xs : Nat → Int32} {Ls : Nat} {Ψ : xO → xH → Prop} (s : xS) (h : Ψ (.inl (some (vi (te_wipe s).1))) (xhp (te_wipe s).2)) : xM (xX0 xs Ls) 13 [vr 0 0] (xhp s) Ψ := by
  rw [te_wipe_eq] at h
  unfold te_wipe_d at h
  exact xM.of (P := p13) rfl rfl rfl (b13_0 s ((by (try dsimp only at h); exact h)))
/-! te_translate -/
theorem b14_0 {xs : Nat → Int32} {Ls : Nat} {Φ : Option xV → xH → Prop} (s : xS) (g : ((tr_work_ok s) ∧ Φ (some (vi ((tr_work s).1))) (xhp ((tr_work s).2)))) : xW (xX0 xs Ls) p14 0 [(0, vr 0 0)] [] (xhp s) Φ := by
  refine xW.call (y := 201) (as := [vr 11 225]) (h0 := xhp s) (pc0 := 4) (len := 3) (L0 := [(0, vr 0 0)]) (rest := []) 3 (fun _ _ _ _ => rfl) (m201 _ g.1 ?_)
  show xW (xX0 xs Ls) p14 7 [(0, vr 0 0)] [vi ((tr_work s).1)] (xhp ((tr_work s).2)) Φ
  replace g := g.2
  exact xW.ret (v0 := some (vi ((tr_work s).1))) (h1 := xhp ((tr_work s).2)) 1 (fun _ _ _ _ => rfl) g
noncomputable def te_translate_d (s : xS) : Int32 × xS := (tr_work s)
noncomputable def te_translate : xS → Int32 × xS := Classical.choose (⟨te_translate_d, rfl⟩ : ∃ f, f = te_translate_d)
set_option maxRecDepth 100000 in
theorem te_translate_eq : te_translate = te_translate_d := Classical.choose_spec (⟨te_translate_d, rfl⟩ : ∃ f, f = te_translate_d)
def te_translate_ok (s : xS) : Prop := (tr_work_ok s)
set_option maxRecDepth 100000 in
theorem m14 {xs : Nat → Int32} {Ls : Nat} {Ψ : xO → xH → Prop} (s : xS) (gq : te_translate_ok s) (h : Ψ (.inl (some (vi (te_translate s).1))) (xhp (te_translate s).2)) : xM (xX0 xs Ls) 14 [vr 0 0] (xhp s) Ψ := by
  rw [te_translate_eq] at h
  unfold te_translate_d at h
  unfold te_translate_ok at gq
  exact xM.of (P := p14) rfl rfl rfl (b14_0 s (⟨gq, (by (try dsimp only at h); exact h)⟩))
/-! te_out -/
theorem b15_0 {xs : Nat → Int32} {Ls : Nat} {Φ : Option xV → xH → Prop} (s : xS) (i : Int32) (g : ((i < 0 → False) ∧ (¬ (i < 0) → ((i < (gI s 225 1) → ((vp_in i 120) ∧ Φ (some (vi (gI s 226 i.toNatClampNeg))) (xhp s))) ∧ (¬ (i < (gI s 225 1)) → False))))) : xW (xX0 xs Ls) p15 0 [(0, vr 0 0), (1, vi i)] [] (xhp s) Φ := by
  refine xW.br (c := i < 0) (pc1 := 15) (L1 := [(0, vr 0 0), (1, vi i)]) (st1 := []) (h1 := xhp s) (pc2 := 4) (L2 := [(0, vr 0 0), (1, vi i)]) (st2 := []) (h2 := xhp s) 2 (fun _ _ _ _ => rfl) (fun hc => ?_) (fun hc => ?_)
  · replace g := g.1 hc
    exact g.elim
  · replace g := g.2 hc
    refine xW.br (c := i < (gI s 225 1)) (pc1 := 23) (L1 := [(0, vr 0 0), (1, vi i)]) (st1 := []) (h1 := xhp s) (pc2 := 15) (L2 := [(0, vr 0 0), (1, vi i)]) (st2 := []) (h2 := xhp s) 5 (fun _ _ _ _ => rfl) (fun hc => ?_) (fun hc => ?_)
    · replace g := g.1 hc
      refine xW.side (c := vp_in i 120) (pc1 := 32) (L1 := [(0, vr 0 0), (1, vi i)]) (st1 := [vi (gI s 226 i.toNatClampNeg)]) (h1 := xhp s) 5 (fun _ _ _ _ => rfl) g.1 ?_
      replace g := g.2
      exact xW.ret (v0 := some (vi (gI s 226 i.toNatClampNeg))) (h1 := xhp s) 1 (fun _ _ _ _ => rfl) g
    · replace g := g.2 hc
      exact g.elim
noncomputable def te_out (s : xS) (i : Int32) : Int32 := (if i < 0 then 0 else (if i < (gI s 225 1) then (gI s 226 i.toNatClampNeg) else 0))
def te_out_ok (s : xS) (i : Int32) : Prop := ((i < 0 → False) ∧ (¬ (i < 0) → ((i < (gI s 225 1) → (vp_in i 120)) ∧ (¬ (i < (gI s 225 1)) → False))))
set_option maxRecDepth 100000 in
theorem m15 {xs : Nat → Int32} {Ls : Nat} {Ψ : xO → xH → Prop} (s : xS) (i : Int32) (gq : te_out_ok s i) (h : Ψ (.inl (some (vi (te_out s i)))) (xhp s)) : xM (xX0 xs Ls) 15 [vr 0 0, vi i] (xhp s) Ψ := by
  unfold te_out at h
  unfold te_out_ok at gq
  exact xM.of (P := p15) rfl rfl rfl (b15_0 s i (⟨fun hc => by rw [if_pos hc] at h; replace gq := gq.1 hc; exact gq.elim, fun hc => by rw [if_neg hc] at h; replace gq := gq.2 hc; exact ⟨fun hc => by rw [if_pos hc] at h; replace gq := gq.1 hc; exact ⟨gq, h⟩, fun hc => by rw [if_neg hc] at h; replace gq := gq.2 hc; exact gq.elim⟩⟩))
/-! te_undo -/
theorem b16_0 {xs : Nat → Int32} {Ls : Nat} {Φ : Option xV → xH → Prop} (s : xS) (g : (((gI s 0 6) = 0 → ((¬ (gI s 47 0) = 0 → ((hi_giveBack_ok s) ∧ Φ (some (vi 1)) (xhp (sI (hi_giveBack s) 1 3 0)))) ∧ ((gI s 47 0) = 0 → Φ (some (vi 0)) (xhp s)))) ∧ (¬ ((gI s 0 6) = 0) → False))) : xW (xX0 xs Ls) p16 0 [(0, vr 0 0)] [] (xhp s) Φ := by
  refine xW.br (c := (gI s 0 6) = 0) (pc1 := 15) (L1 := [(0, vr 0 0)]) (st1 := []) (h1 := xhp s) (pc2 := 7) (L2 := [(0, vr 0 0)]) (st2 := []) (h2 := xhp s) 3 (fun _ _ _ _ => rfl) (fun hc => ?_) (fun hc => ?_)
  · replace g := g.1 hc
    refine xW.br (c := ¬ (gI s 47 0) = 0) (pc1 := 27) (L1 := [(0, vr 0 0)]) (st1 := []) (h1 := xhp s) (pc2 := 25) (L2 := [(0, vr 0 0)]) (st2 := []) (h2 := xhp s) 4 (fun _ _ _ _ => rfl) (fun hc => ?_) (fun hc => ?_)
    · replace g := g.1 hc
      refine xW.call (y := 163) (as := [vr 9 47, vr 2 2]) (h0 := xhp s) (pc0 := 38) (len := 3) (L0 := [(0, vr 0 0)]) (rest := []) 6 (fun _ _ _ _ => rfl) (m163 _ g.1 ?_)
      show xW (xX0 xs Ls) p16 41 [(0, vr 0 0)] [] (xhp (hi_giveBack s)) Φ
      replace g := g.2
      exact xW.retz (v0 := some (vi 1)) (h1 := xhp (sI (hi_giveBack s) 1 3 0)) (c := (1 : Int32) = 0 ∨ (1 : Int32) = 1) 6 (fun _ _ _ _ => rfl) (Or.inr rfl) g
    · replace g := g.2 (Decidable.not_not.mp hc)
      exact xW.retz (v0 := some (vi 0)) (h1 := xhp s) (c := (0 : Int32) = 0 ∨ (0 : Int32) = 1) 2 (fun _ _ _ _ => rfl) (Or.inl rfl) g
  · replace g := g.2 hc
    exact g.elim
noncomputable def te_undo_d (s : xS) : Bool × xS := (if (gI s 0 6) = 0 then (if ¬ (gI s 47 0) = 0 then (true, (sI (hi_giveBack s) 1 3 0)) else (false, s)) else (false, s))
noncomputable def te_undo : xS → Bool × xS := Classical.choose (⟨te_undo_d, rfl⟩ : ∃ f, f = te_undo_d)
set_option maxRecDepth 100000 in
theorem te_undo_eq : te_undo = te_undo_d := Classical.choose_spec (⟨te_undo_d, rfl⟩ : ∃ f, f = te_undo_d)
def te_undo_ok (s : xS) : Prop := (((gI s 0 6) = 0 → (¬ (gI s 47 0) = 0 → (hi_giveBack_ok s))) ∧ (¬ ((gI s 0 6) = 0) → False))
set_option maxRecDepth 100000 in
theorem m16 {xs : Nat → Int32} {Ls : Nat} {Ψ : xO → xH → Prop} (s : xS) (gq : te_undo_ok s) (h : Ψ (.inl (some (vi (zb (te_undo s).1)))) (xhp (te_undo s).2)) : xM (xX0 xs Ls) 16 [vr 0 0] (xhp s) Ψ := by
  rw [te_undo_eq] at h
  unfold te_undo_d at h
  unfold te_undo_ok at gq
  exact xM.of (P := p16) rfl rfl rfl (b16_0 s (⟨fun hc => by rw [if_pos hc] at h; replace gq := gq.1 hc; exact ⟨fun hc => by rw [if_pos hc] at h; replace gq := gq hc; exact ⟨gq, (by (try dsimp only at h); exact h)⟩, fun hc => by rw [if_neg (fun z => z hc)] at h; exact (by (try dsimp only at h); exact h)⟩, fun hc => by rw [if_neg hc] at h; replace gq := gq.2 hc; exact gq.elim⟩))
/-! te_state -/
theorem b17_0 {xs : Nat → Int32} {Ls : Nat} {Φ : Option xV → xH → Prop} (s : xS) (w : Int32) (g : ((w = 0 → Φ (some (vi (gI s 1 2))) (xhp s)) ∧ (w = 1 → Φ (some (vi (gI s 1 3))) (xhp s)) ∧ (w = 2 → Φ (some (vi (gI s 0 6))) (xhp s)) ∧ (w = 3 → Φ (some (vi (if (gI s 0 6) = 0 then ((-1) : Int32) else (imin (gI s 35 1) 100)))) (xhp s)) ∧ (w = 4 → Φ (some (vi (if (gI s 0 6) = 0 then (0 : Int32) else (gI s 35 2)))) (xhp s)) ∧ (w = 5 → Φ (some (vi (gI s 5 1))) (xhp s)) ∧ (w = 6 → Φ (some (vi (gI s 5 2))) (xhp s)) ∧ (w = 7 → Φ (some (vi (zb (!decide ((gI s 7 0) = 0))))) (xhp s)) ∧ (w = 8 → Φ (some (vi (zb (!decide ((gI s 2 9) = 0))))) (xhp s)) ∧ (w = 9 → Φ (some (vi (gI s 47 0))) (xhp s)) ∧ (w = 10 → Φ (some (vi (gI s 38 0))) (xhp s)) ∧ (¬ w = 0 → ¬ w = 1 → ¬ w = 2 → ¬ w = 3 → ¬ w = 4 → ¬ w = 5 → ¬ w = 6 → ¬ w = 7 → ¬ w = 8 → ¬ w = 9 → ¬ w = 10 → Φ (some (vi (-1))) (xhp s)))) : xW (xX0 xs Ls) p17 0 [(0, vr 0 0), (1, vi w)] [] (xhp s) Φ := by
  by_cases hx0 : w = 0
  · refine xW.sw (x := w) (lo := 0) (hi := 10) (offs := #[59, 67, 75, 80, 104, 123, 131, 139, 155, 168, 176]) (dflt := 184) (pc0 := 9) (pc1 := 68) (L1 := [(2, vr 2 2), (0, vr 0 0), (1, vi w)]) (st1 := []) (h1 := xhp s) (off := 59) 6 (fun _ _ _ _ => rfl) (by rw [hx0]; rfl) rfl ?_
    replace g := g.1 hx0
    exact xW.ret (v0 := some (vi (gI s 1 2))) (h1 := xhp s) 4 (fun _ _ _ _ => rfl) g
  replace g := g.2
  by_cases hx1 : w = 1
  · refine xW.sw (x := w) (lo := 0) (hi := 10) (offs := #[59, 67, 75, 80, 104, 123, 131, 139, 155, 168, 176]) (dflt := 184) (pc0 := 9) (pc1 := 76) (L1 := [(2, vr 2 2), (0, vr 0 0), (1, vi w)]) (st1 := []) (h1 := xhp s) (off := 67) 6 (fun _ _ _ _ => rfl) (by rw [hx1]; rfl) rfl ?_
    replace g := g.1 hx1
    exact xW.ret (v0 := some (vi (gI s 1 3))) (h1 := xhp s) 4 (fun _ _ _ _ => rfl) g
  replace g := g.2
  by_cases hx2 : w = 2
  · refine xW.sw (x := w) (lo := 0) (hi := 10) (offs := #[59, 67, 75, 80, 104, 123, 131, 139, 155, 168, 176]) (dflt := 184) (pc0 := 9) (pc1 := 84) (L1 := [(2, vr 2 2), (0, vr 0 0), (1, vi w)]) (st1 := []) (h1 := xhp s) (off := 75) 6 (fun _ _ _ _ => rfl) (by rw [hx2]; rfl) rfl ?_
    replace g := g.1 hx2
    exact xW.ret (v0 := some (vi (gI s 0 6))) (h1 := xhp s) 3 (fun _ _ _ _ => rfl) g
  replace g := g.2
  by_cases hx3 : w = 3
  · refine xW.sw (x := w) (lo := 0) (hi := 10) (offs := #[59, 67, 75, 80, 104, 123, 131, 139, 155, 168, 176]) (dflt := 184) (pc0 := 9) (pc1 := 89) (L1 := [(2, vr 2 2), (0, vr 0 0), (1, vi w)]) (st1 := []) (h1 := xhp s) (off := 80) 6 (fun _ _ _ _ => rfl) (by rw [hx3]; rfl) rfl ?_
    replace g := g.1 hx3
    refine xW.seg (pc1 := 93) (L1 := [(2, vr 2 2), (0, vr 0 0), (1, vi w)]) (st1 := [vi (gI s 0 6)]) (h1 := xhp s) 2 (fun _ _ _ _ => rfl) ?_
    suffices J : xW (xX0 xs Ls) p17 112 [(2, vr 2 2), (0, vr 0 0), (1, vi w)] [vi (if (gI s 0 6) = 0 then ((-1) : Int32) else (imin (gI s 35 1) 100))] (xhp s) Φ by
      refine xW.br (c := ¬ (gI s 0 6) = 0) (pc1 := 100) (L1 := [(2, vr 2 2), (0, vr 0 0), (1, vi w)]) (st1 := []) (h1 := xhp s) (pc2 := 96) (L2 := [(2, vr 2 2), (0, vr 0 0), (1, vi w)]) (st2 := []) (h2 := xhp s) 1 (fun _ _ _ _ => rfl) (fun hc => ?_) (fun hc => ?_)
      · have hc1 : ¬ (gI s 0 6) = 0 := hc
        refine xW.seg (pc1 := 112) (L1 := [(2, vr 2 2), (0, vr 0 0), (1, vi w)]) (st1 := [vi (imin (gI s 35 1) 100)]) (h1 := xhp s) 5 (fun _ _ _ _ => rfl) ?_
        refine xW.to (v := vi (if (gI s 0 6) = 0 then ((-1) : Int32) else (imin (gI s 35 1) 100))) ((congrArg vi (if_neg hc1)).symm) ?_
        exact J
      · have hc1 : (gI s 0 6) = 0 := (Decidable.not_not.mp hc)
        refine xW.seg (pc1 := 112) (L1 := [(2, vr 2 2), (0, vr 0 0), (1, vi w)]) (st1 := [vi (-1)]) (h1 := xhp s) 2 (fun _ _ _ _ => rfl) ?_
        refine xW.to (v := vi (if (gI s 0 6) = 0 then ((-1) : Int32) else (imin (gI s 35 1) 100))) ((congrArg vi (if_pos hc1)).symm) ?_
        exact J
    exact xW.ret (v0 := some (vi (if (gI s 0 6) = 0 then ((-1) : Int32) else (imin (gI s 35 1) 100)))) (h1 := xhp s) 1 (fun _ _ _ _ => rfl) g
  replace g := g.2
  by_cases hx4 : w = 4
  · refine xW.sw (x := w) (lo := 0) (hi := 10) (offs := #[59, 67, 75, 80, 104, 123, 131, 139, 155, 168, 176]) (dflt := 184) (pc0 := 9) (pc1 := 113) (L1 := [(2, vr 2 2), (0, vr 0 0), (1, vi w)]) (st1 := []) (h1 := xhp s) (off := 104) 6 (fun _ _ _ _ => rfl) (by rw [hx4]; rfl) rfl ?_
    replace g := g.1 hx4
    refine xW.seg (pc1 := 117) (L1 := [(2, vr 2 2), (0, vr 0 0), (1, vi w)]) (st1 := [vi (gI s 0 6)]) (h1 := xhp s) 2 (fun _ _ _ _ => rfl) ?_
    suffices J : xW (xX0 xs Ls) p17 131 [(2, vr 2 2), (0, vr 0 0), (1, vi w)] [vi (if (gI s 0 6) = 0 then (0 : Int32) else (gI s 35 2))] (xhp s) Φ by
      refine xW.br (c := ¬ (gI s 0 6) = 0) (pc1 := 124) (L1 := [(2, vr 2 2), (0, vr 0 0), (1, vi w)]) (st1 := []) (h1 := xhp s) (pc2 := 120) (L2 := [(2, vr 2 2), (0, vr 0 0), (1, vi w)]) (st2 := []) (h2 := xhp s) 1 (fun _ _ _ _ => rfl) (fun hc => ?_) (fun hc => ?_)
      · have hc2 : ¬ (gI s 0 6) = 0 := hc
        refine xW.seg (pc1 := 131) (L1 := [(2, vr 2 2), (0, vr 0 0), (1, vi w)]) (st1 := [vi (gI s 35 2)]) (h1 := xhp s) 3 (fun _ _ _ _ => rfl) ?_
        refine xW.to (v := vi (if (gI s 0 6) = 0 then (0 : Int32) else (gI s 35 2))) ((congrArg vi (if_neg hc2)).symm) ?_
        exact J
      · have hc2 : (gI s 0 6) = 0 := (Decidable.not_not.mp hc)
        refine xW.seg (pc1 := 131) (L1 := [(2, vr 2 2), (0, vr 0 0), (1, vi w)]) (st1 := [vi 0]) (h1 := xhp s) 2 (fun _ _ _ _ => rfl) ?_
        refine xW.to (v := vi (if (gI s 0 6) = 0 then (0 : Int32) else (gI s 35 2))) ((congrArg vi (if_pos hc2)).symm) ?_
        exact J
    exact xW.ret (v0 := some (vi (if (gI s 0 6) = 0 then (0 : Int32) else (gI s 35 2)))) (h1 := xhp s) 1 (fun _ _ _ _ => rfl) g
  replace g := g.2
  by_cases hx5 : w = 5
  · refine xW.sw (x := w) (lo := 0) (hi := 10) (offs := #[59, 67, 75, 80, 104, 123, 131, 139, 155, 168, 176]) (dflt := 184) (pc0 := 9) (pc1 := 132) (L1 := [(2, vr 2 2), (0, vr 0 0), (1, vi w)]) (st1 := []) (h1 := xhp s) (off := 123) 6 (fun _ _ _ _ => rfl) (by rw [hx5]; rfl) rfl ?_
    replace g := g.1 hx5
    exact xW.ret (v0 := some (vi (gI s 5 1))) (h1 := xhp s) 4 (fun _ _ _ _ => rfl) g
  replace g := g.2
  by_cases hx6 : w = 6
  · refine xW.sw (x := w) (lo := 0) (hi := 10) (offs := #[59, 67, 75, 80, 104, 123, 131, 139, 155, 168, 176]) (dflt := 184) (pc0 := 9) (pc1 := 140) (L1 := [(2, vr 2 2), (0, vr 0 0), (1, vi w)]) (st1 := []) (h1 := xhp s) (off := 131) 6 (fun _ _ _ _ => rfl) (by rw [hx6]; rfl) rfl ?_
    replace g := g.1 hx6
    exact xW.ret (v0 := some (vi (gI s 5 2))) (h1 := xhp s) 4 (fun _ _ _ _ => rfl) g
  replace g := g.2
  by_cases hx7 : w = 7
  · refine xW.sw (x := w) (lo := 0) (hi := 10) (offs := #[59, 67, 75, 80, 104, 123, 131, 139, 155, 168, 176]) (dflt := 184) (pc0 := 9) (pc1 := 148) (L1 := [(2, vr 2 2), (0, vr 0 0), (1, vi w)]) (st1 := []) (h1 := xhp s) (off := 139) 6 (fun _ _ _ _ => rfl) (by rw [hx7]; rfl) rfl ?_
    replace g := g.1 hx7
    refine xW.seg (pc1 := 155) (L1 := [(2, vr 2 2), (0, vr 0 0), (1, vi w)]) (st1 := [vi (gI s 7 0)]) (h1 := xhp s) 3 (fun _ _ _ _ => rfl) ?_
    suffices J : xW (xX0 xs Ls) p17 163 [(2, vr 2 2), (0, vr 0 0), (1, vi w)] [vi (zb (!decide ((gI s 7 0) = 0)))] (xhp s) Φ by
      refine xW.br (c := (gI s 7 0) = 0) (pc1 := 162) (L1 := [(2, vr 2 2), (0, vr 0 0), (1, vi w)]) (st1 := []) (h1 := xhp s) (pc2 := 158) (L2 := [(2, vr 2 2), (0, vr 0 0), (1, vi w)]) (st2 := []) (h2 := xhp s) 1 (fun _ _ _ _ => rfl) (fun hc => ?_) (fun hc => ?_)
      · have hc3 : (gI s 7 0) = 0 := hc
        refine xW.seg (pc1 := 163) (L1 := [(2, vr 2 2), (0, vr 0 0), (1, vi w)]) (st1 := [vi 0]) (h1 := xhp s) 1 (fun _ _ _ _ => rfl) ?_
        refine xW.to (v := vi (zb (!decide ((gI s 7 0) = 0)))) (zb_f (by simp only [decide_eq_true hc3, Bool.true_or, Bool.or_true, Bool.false_or, Bool.or_false, Bool.true_and, Bool.and_true, Bool.false_and, Bool.and_false, Bool.not_true, Bool.not_false, cond_true, cond_false])) ?_
        exact J
      · have hc3 : ¬ ((gI s 7 0) = 0) := hc
        refine xW.seg (pc1 := 163) (L1 := [(2, vr 2 2), (0, vr 0 0), (1, vi w)]) (st1 := [vi 1]) (h1 := xhp s) 2 (fun _ _ _ _ => rfl) ?_
        refine xW.to (v := vi (zb (!decide ((gI s 7 0) = 0)))) (zb_t (by simp only [decide_eq_false hc3, Bool.true_or, Bool.or_true, Bool.false_or, Bool.or_false, Bool.true_and, Bool.and_true, Bool.false_and, Bool.and_false, Bool.not_true, Bool.not_false, cond_true, cond_false])) ?_
        exact J
    exact xW.ret (v0 := some (vi (zb (!decide ((gI s 7 0) = 0))))) (h1 := xhp s) 1 (fun _ _ _ _ => rfl) g
  replace g := g.2
  by_cases hx8 : w = 8
  · refine xW.sw (x := w) (lo := 0) (hi := 10) (offs := #[59, 67, 75, 80, 104, 123, 131, 139, 155, 168, 176]) (dflt := 184) (pc0 := 9) (pc1 := 164) (L1 := [(2, vr 2 2), (0, vr 0 0), (1, vi w)]) (st1 := []) (h1 := xhp s) (off := 155) 6 (fun _ _ _ _ => rfl) (by rw [hx8]; rfl) rfl ?_
    replace g := g.1 hx8
    refine xW.seg (pc1 := 168) (L1 := [(2, vr 2 2), (0, vr 0 0), (1, vi w)]) (st1 := [vi (gI s 2 9)]) (h1 := xhp s) 2 (fun _ _ _ _ => rfl) ?_
    suffices J : xW (xX0 xs Ls) p17 176 [(2, vr 2 2), (0, vr 0 0), (1, vi w)] [vi (zb (!decide ((gI s 2 9) = 0)))] (xhp s) Φ by
      refine xW.br (c := (gI s 2 9) = 0) (pc1 := 175) (L1 := [(2, vr 2 2), (0, vr 0 0), (1, vi w)]) (st1 := []) (h1 := xhp s) (pc2 := 171) (L2 := [(2, vr 2 2), (0, vr 0 0), (1, vi w)]) (st2 := []) (h2 := xhp s) 1 (fun _ _ _ _ => rfl) (fun hc => ?_) (fun hc => ?_)
      · have hc4 : (gI s 2 9) = 0 := hc
        refine xW.seg (pc1 := 176) (L1 := [(2, vr 2 2), (0, vr 0 0), (1, vi w)]) (st1 := [vi 0]) (h1 := xhp s) 1 (fun _ _ _ _ => rfl) ?_
        refine xW.to (v := vi (zb (!decide ((gI s 2 9) = 0)))) (zb_f (by simp only [decide_eq_true hc4, Bool.true_or, Bool.or_true, Bool.false_or, Bool.or_false, Bool.true_and, Bool.and_true, Bool.false_and, Bool.and_false, Bool.not_true, Bool.not_false, cond_true, cond_false])) ?_
        exact J
      · have hc4 : ¬ ((gI s 2 9) = 0) := hc
        refine xW.seg (pc1 := 176) (L1 := [(2, vr 2 2), (0, vr 0 0), (1, vi w)]) (st1 := [vi 1]) (h1 := xhp s) 2 (fun _ _ _ _ => rfl) ?_
        refine xW.to (v := vi (zb (!decide ((gI s 2 9) = 0)))) (zb_t (by simp only [decide_eq_false hc4, Bool.true_or, Bool.or_true, Bool.false_or, Bool.or_false, Bool.true_and, Bool.and_true, Bool.false_and, Bool.and_false, Bool.not_true, Bool.not_false, cond_true, cond_false])) ?_
        exact J
    exact xW.ret (v0 := some (vi (zb (!decide ((gI s 2 9) = 0))))) (h1 := xhp s) 1 (fun _ _ _ _ => rfl) g
  replace g := g.2
  by_cases hx9 : w = 9
  · refine xW.sw (x := w) (lo := 0) (hi := 10) (offs := #[59, 67, 75, 80, 104, 123, 131, 139, 155, 168, 176]) (dflt := 184) (pc0 := 9) (pc1 := 177) (L1 := [(2, vr 2 2), (0, vr 0 0), (1, vi w)]) (st1 := []) (h1 := xhp s) (off := 168) 6 (fun _ _ _ _ => rfl) (by rw [hx9]; rfl) rfl ?_
    replace g := g.1 hx9
    exact xW.ret (v0 := some (vi (gI s 47 0))) (h1 := xhp s) 4 (fun _ _ _ _ => rfl) g
  replace g := g.2
  by_cases hx10 : w = 10
  · refine xW.sw (x := w) (lo := 0) (hi := 10) (offs := #[59, 67, 75, 80, 104, 123, 131, 139, 155, 168, 176]) (dflt := 184) (pc0 := 9) (pc1 := 185) (L1 := [(2, vr 2 2), (0, vr 0 0), (1, vi w)]) (st1 := []) (h1 := xhp s) (off := 176) 6 (fun _ _ _ _ => rfl) (by rw [hx10]; rfl) rfl ?_
    replace g := g.1 hx10
    exact xW.ret (v0 := some (vi (gI s 38 0))) (h1 := xhp s) 4 (fun _ _ _ _ => rfl) g
  replace g := g.2
  refine xW.sw (x := w) (lo := 0) (hi := 10) (offs := #[59, 67, 75, 80, 104, 123, 131, 139, 155, 168, 176]) (dflt := 184) (pc0 := 9) (pc1 := 193) (L1 := [(2, vr 2 2), (0, vr 0 0), (1, vi w)]) (st1 := []) (h1 := xhp s) (off := 184) 6 (fun _ _ _ _ => rfl) (xtab_out (xne_all [0, 1, 2, 3, 4, 5, 6, 7, 8, 9, 10] (by decide) ⟨hx0, hx1, hx2, hx3, hx4, hx5, hx6, hx7, hx8, hx9, hx10, trivial⟩)) rfl ?_
  replace g := g hx0 hx1 hx2 hx3 hx4 hx5 hx6 hx7 hx8 hx9 hx10
  exact xW.ret (v0 := some (vi (-1))) (h1 := xhp s) 2 (fun _ _ _ _ => rfl) g
noncomputable def te_state (s : xS) (w : Int32) : Int32 := (if w = 0 then (gI s 1 2) else (if w = 1 then (gI s 1 3) else (if w = 2 then (gI s 0 6) else (if w = 3 then (if (gI s 0 6) = 0 then ((-1) : Int32) else (imin (gI s 35 1) 100)) else (if w = 4 then (if (gI s 0 6) = 0 then (0 : Int32) else (gI s 35 2)) else (if w = 5 then (gI s 5 1) else (if w = 6 then (gI s 5 2) else (if w = 7 then (zb (!decide ((gI s 7 0) = 0))) else (if w = 8 then (zb (!decide ((gI s 2 9) = 0))) else (if w = 9 then (gI s 47 0) else (if w = 10 then (gI s 38 0) else (-1))))))))))))
set_option maxRecDepth 100000 in
theorem m17 {xs : Nat → Int32} {Ls : Nat} {Ψ : xO → xH → Prop} (s : xS) (w : Int32) (h : Ψ (.inl (some (vi (te_state s w)))) (xhp s)) : xM (xX0 xs Ls) 17 [vr 0 0, vi w] (xhp s) Ψ := by
  unfold te_state at h
  exact xM.of (P := p17) rfl rfl rfl (b17_0 s w (⟨fun hc => by rw [if_pos hc] at h; exact h, fun hc => by rw [if_neg (by rw [hc]; decide), if_pos hc] at h; exact h, fun hc => by rw [if_neg (by rw [hc]; decide), if_neg (by rw [hc]; decide), if_pos hc] at h; exact h, fun hc => by rw [if_neg (by rw [hc]; decide), if_neg (by rw [hc]; decide), if_neg (by rw [hc]; decide), if_pos hc] at h; exact h, fun hc => by rw [if_neg (by rw [hc]; decide), if_neg (by rw [hc]; decide), if_neg (by rw [hc]; decide), if_neg (by rw [hc]; decide), if_pos hc] at h; exact h, fun hc => by rw [if_neg (by rw [hc]; decide), if_neg (by rw [hc]; decide), if_neg (by rw [hc]; decide), if_neg (by rw [hc]; decide), if_neg (by rw [hc]; decide), if_pos hc] at h; exact h, fun hc => by rw [if_neg (by rw [hc]; decide), if_neg (by rw [hc]; decide), if_neg (by rw [hc]; decide), if_neg (by rw [hc]; decide), if_neg (by rw [hc]; decide), if_neg (by rw [hc]; decide), if_pos hc] at h; exact h, fun hc => by rw [if_neg (by rw [hc]; decide), if_neg (by rw [hc]; decide), if_neg (by rw [hc]; decide), if_neg (by rw [hc]; decide), if_neg (by rw [hc]; decide), if_neg (by rw [hc]; decide), if_neg (by rw [hc]; decide), if_pos hc] at h; exact h, fun hc => by rw [if_neg (by rw [hc]; decide), if_neg (by rw [hc]; decide), if_neg (by rw [hc]; decide), if_neg (by rw [hc]; decide), if_neg (by rw [hc]; decide), if_neg (by rw [hc]; decide), if_neg (by rw [hc]; decide), if_neg (by rw [hc]; decide), if_pos hc] at h; exact h, fun hc => by rw [if_neg (by rw [hc]; decide), if_neg (by rw [hc]; decide), if_neg (by rw [hc]; decide), if_neg (by rw [hc]; decide), if_neg (by rw [hc]; decide), if_neg (by rw [hc]; decide), if_neg (by rw [hc]; decide), if_neg (by rw [hc]; decide), if_neg (by rw [hc]; decide), if_pos hc] at h; exact h, fun hc => by rw [if_neg (by rw [hc]; decide), if_neg (by rw [hc]; decide), if_neg (by rw [hc]; decide), if_neg (by rw [hc]; decide), if_neg (by rw [hc]; decide), if_neg (by rw [hc]; decide), if_neg (by rw [hc]; decide), if_neg (by rw [hc]; decide), if_neg (by rw [hc]; decide), if_neg (by rw [hc]; decide), if_pos hc] at h; exact h, fun hx0 hx1 hx2 hx3 hx4 hx5 hx6 hx7 hx8 hx9 hx10 => by rw [if_neg hx0, if_neg hx1, if_neg hx2, if_neg hx3, if_neg hx4, if_neg hx5, if_neg hx6, if_neg hx7, if_neg hx8, if_neg hx9, if_neg hx10] at h; exact h⟩))
