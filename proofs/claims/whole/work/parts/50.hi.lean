/-! hi_prepare -/
theorem b160_0 {xs : Nat → Int32} {Ls : Nat} {Φ : Option xV → xH → Prop} (s : xS) (g : ((vp_in (gI s 47 2) 6 ∧ xRok 48 ((gI s 47 2).toNatClampNeg) 2) ∧ ((xDk (xR0 48 ((gI s 47 2).toNatClampNeg) - 1) ∧ xDk 2 ∧ dk_set_ok s (xR0 48 ((gI s 47 2).toNatClampNeg) - 1) 2) ∧ Φ none (xhp (dk_set s (xR0 48 ((gI s 47 2).toNatClampNeg) - 1) 2))))) : xW (xX0 xs Ls) p160 0 [(0, vr 9 47), (1, vr 2 2)] [] (xhp s) Φ := by
  refine xW.refr (r := xR0 48 ((gI s 47 2).toNatClampNeg)) (a := (xR0 48 ((gI s 47 2).toNatClampNeg) - 1)) (kind := 2) (c := vp_in (gI s 47 2) 6) (h0 := xhp s) (pc1 := 9) (L1 := [(0, vr 9 47), (1, vr 2 2)]) (st1 := []) (h1 := xhp s) 5 (fun _ _ _ _ => rfl) g.1.1 g.1.2.1 g.1.2.2 ?_
  replace g := g.2
  refine xW.call (y := 144) (as := [vr 2 (xR0 48 ((gI s 47 2).toNatClampNeg) - 1), vr 2 2]) (h0 := xhp s) (pc0 := 10) (len := 3) (L0 := [(0, vr 9 47), (1, vr 2 2)]) (rest := []) 2 (fun _ _ _ _ => rfl) (m144 _ _ _ g.1.1 g.1.2.1 g.1.2.2 ?_)
  show xW (xX0 xs Ls) p160 13 [(0, vr 9 47), (1, vr 2 2)] [] (xhp (dk_set s (xR0 48 ((gI s 47 2).toNatClampNeg) - 1) 2)) Φ
  replace g := g.2
  exact xW.ret (v0 := none) (h1 := xhp (dk_set s (xR0 48 ((gI s 47 2).toNatClampNeg) - 1) 2)) 1 (fun _ _ _ _ => rfl) g
noncomputable def hi_prepare_d (s : xS) : xS := (dk_set s (xR0 48 ((gI s 47 2).toNatClampNeg) - 1) 2)
noncomputable def hi_prepare : xS → xS := Classical.choose (⟨hi_prepare_d, rfl⟩ : ∃ f, f = hi_prepare_d)
set_option maxRecDepth 100000 in
theorem hi_prepare_eq : hi_prepare = hi_prepare_d := Classical.choose_spec (⟨hi_prepare_d, rfl⟩ : ∃ f, f = hi_prepare_d)
def hi_prepare_ok (s : xS) : Prop := ((vp_in (gI s 47 2) 6 ∧ xRok 48 ((gI s 47 2).toNatClampNeg) 2) ∧ (xDk (xR0 48 ((gI s 47 2).toNatClampNeg) - 1) ∧ xDk 2 ∧ dk_set_ok s (xR0 48 ((gI s 47 2).toNatClampNeg) - 1) 2))
set_option maxRecDepth 100000 in
theorem m160 {xs : Nat → Int32} {Ls : Nat} {Ψ : xO → xH → Prop} (s : xS) (gq : hi_prepare_ok s) (h : Ψ (.inl none) (xhp (hi_prepare s))) : xM (xX0 xs Ls) 160 [vr 9 47, vr 2 2] (xhp s) Ψ := by
  rw [hi_prepare_eq] at h
  unfold hi_prepare_d at h
  unfold hi_prepare_ok at gq
  exact xM.of (P := p160) rfl rfl rfl (b160_0 s (⟨gq.1, by replace gq := gq.2; exact ⟨gq, h⟩⟩))
/-! hi_prepared -/
theorem b161_0 {xs : Nat → Int32} {Ls : Nat} {Φ : Option xV → xH → Prop} (s : xS) (g : ((vp_in (gI s 47 2) 6 ∧ xRok 48 ((gI s 47 2).toNatClampNeg) 2) ∧ Φ (some (vr 2 (xR0 48 ((gI s 47 2).toNatClampNeg) - 1))) (xhp s))) : xW (xX0 xs Ls) p161 0 [(0, vr 9 47)] [] (xhp s) Φ := by
  refine xW.refr (r := xR0 48 ((gI s 47 2).toNatClampNeg)) (a := (xR0 48 ((gI s 47 2).toNatClampNeg) - 1)) (kind := 2) (c := vp_in (gI s 47 2) 6) (h0 := xhp s) (pc1 := 9) (L1 := [(0, vr 9 47)]) (st1 := []) (h1 := xhp s) 5 (fun _ _ _ _ => rfl) g.1.1 g.1.2.1 g.1.2.2 ?_
  replace g := g.2
  exact xW.ret (v0 := some (vr 2 (xR0 48 ((gI s 47 2).toNatClampNeg) - 1))) (h1 := xhp s) 1 (fun _ _ _ _ => rfl) g
noncomputable def hi_prepared (s : xS) : Nat := (xR0 48 ((gI s 47 2).toNatClampNeg) - 1)
def hi_prepared_ok (s : xS) : Prop := (vp_in (gI s 47 2) 6 ∧ xRok 48 ((gI s 47 2).toNatClampNeg) 2)
set_option maxRecDepth 100000 in
theorem m161 {xs : Nat → Int32} {Ls : Nat} {Ψ : xO → xH → Prop} (s : xS) (gq : hi_prepared_ok s) (h : Ψ (.inl (some (vr 2 (hi_prepared s)))) (xhp s)) : xM (xX0 xs Ls) 161 [vr 9 47] (xhp s) Ψ := by
  unfold hi_prepared at h
  unfold hi_prepared_ok at gq
  exact xM.of (P := p161) rfl rfl rfl (b161_0 s (⟨gq, h⟩))
/-! hi_keep -/
theorem b162_0 {xs : Nat → Int32} {Ls : Nat} {Φ : Option xV → xH → Prop} (s : xS) (g : Φ none (xhp (sI (sI s 47 2 (((gI s 47 2) + 1) - ((gI s 47 2) + 1) / 6 * 6)) 47 0 (imin ((gI s 47 0) + 1) 5)))) : xW (xX0 xs Ls) p162 0 [(0, vr 9 47)] [] (xhp s) Φ := by
  refine xW.side (c := ¬ (6 : Int32) = 0) (pc1 := 10) (L1 := [(0, vr 9 47)]) (st1 := [vi (((gI s 47 2) + 1) - ((gI s 47 2) + 1) / 6 * 6), vr 9 47]) (h1 := xhp s) 7 (fun _ _ _ _ => rfl) (by decide) ?_
  exact xW.ret (v0 := none) (h1 := xhp (sI (sI s 47 2 (((gI s 47 2) + 1) - ((gI s 47 2) + 1) / 6 * 6)) 47 0 (imin ((gI s 47 0) + 1) 5))) 10 (fun _ _ _ _ => rfl) g
noncomputable def hi_keep_d (s : xS) : xS := (sI (sI s 47 2 (((gI s 47 2) + 1) - ((gI s 47 2) + 1) / 6 * 6)) 47 0 (imin ((gI s 47 0) + 1) 5))
noncomputable def hi_keep : xS → xS := Classical.choose (⟨hi_keep_d, rfl⟩ : ∃ f, f = hi_keep_d)
set_option maxRecDepth 100000 in
theorem hi_keep_eq : hi_keep = hi_keep_d := Classical.choose_spec (⟨hi_keep_d, rfl⟩ : ∃ f, f = hi_keep_d)
set_option maxRecDepth 100000 in
theorem m162 {xs : Nat → Int32} {Ls : Nat} {Ψ : xO → xH → Prop} (s : xS) (h : Ψ (.inl none) (xhp (hi_keep s))) : xM (xX0 xs Ls) 162 [vr 9 47] (xhp s) Ψ := by
  rw [hi_keep_eq] at h
  unfold hi_keep_d at h
  exact xM.of (P := p162) rfl rfl rfl (b162_0 s (h))
/-! hi_giveBack -/
theorem b163_0 {xs : Nat → Int32} {Ls : Nat} {Φ : Option xV → xH → Prop} (s : xS) (g : (((gI s 47 0) ≤ 0 → Φ none (xhp s)) ∧ (¬ ((gI s 47 0) ≤ 0) → ((vp_in (((gI s 47 2) + 5) - ((gI s 47 2) + 5) / 6 * 6) 6 ∧ xRok 48 ((((gI s 47 2) + 5) - ((gI s 47 2) + 5) / 6 * 6).toNatClampNeg) 2) ∧ ((xDk 2 ∧ xDk (xR0 48 ((((gI s 47 2) + 5) - ((gI s 47 2) + 5) / 6 * 6).toNatClampNeg) - 1) ∧ dk_set_ok (sI (sI s 47 0 ((gI s 47 0) - 1)) 47 2 (((gI s 47 2) + 5) - ((gI s 47 2) + 5) / 6 * 6)) 2 (xR0 48 ((((gI s 47 2) + 5) - ((gI s 47 2) + 5) / 6 * 6).toNatClampNeg) - 1)) ∧ Φ none (xhp (dk_set (sI (sI s 47 0 ((gI s 47 0) - 1)) 47 2 (((gI s 47 2) + 5) - ((gI s 47 2) + 5) / 6 * 6)) 2 (xR0 48 ((((gI s 47 2) + 5) - ((gI s 47 2) + 5) / 6 * 6).toNatClampNeg) - 1)))))))) : xW (xX0 xs Ls) p163 0 [(0, vr 9 47), (1, vr 2 2)] [] (xhp s) Φ := by
  refine xW.br (c := (gI s 47 0) ≤ 0) (pc1 := 43) (L1 := [(0, vr 9 47), (1, vr 2 2)]) (st1 := []) (h1 := xhp s) (pc2 := 7) (L2 := [(0, vr 9 47), (1, vr 2 2)]) (st2 := []) (h2 := xhp s) 3 (fun _ _ _ _ => rfl) (fun hc => ?_) (fun hc => ?_)
  · replace g := g.1 hc
    exact xW.ret (v0 := none) (h1 := xhp s) 1 (fun _ _ _ _ => rfl) g
  · replace g := g.2 hc
    refine xW.side (c := ¬ (6 : Int32) = 0) (pc1 := 27) (L1 := [(0, vr 9 47), (1, vr 2 2)]) (st1 := [vi (((gI s 47 2) + 5) - ((gI s 47 2) + 5) / 6 * 6), vr 9 47]) (h1 := xhp (sI s 47 0 ((gI s 47 0) - 1))) 13 (fun _ _ _ _ => rfl) (by decide) ?_
    refine xW.refr (r := xR0 48 ((((gI s 47 2) + 5) - ((gI s 47 2) + 5) / 6 * 6).toNatClampNeg)) (a := (xR0 48 ((((gI s 47 2) + 5) - ((gI s 47 2) + 5) / 6 * 6).toNatClampNeg) - 1)) (kind := 2) (c := vp_in (((gI s 47 2) + 5) - ((gI s 47 2) + 5) / 6 * 6) 6) (h0 := xhp (sI (sI s 47 0 ((gI s 47 0) - 1)) 47 2 (((gI s 47 2) + 5) - ((gI s 47 2) + 5) / 6 * 6))) (pc1 := 40) (L1 := [(0, vr 9 47), (1, vr 2 2)]) (st1 := [vr 2 2]) (h1 := xhp (sI (sI s 47 0 ((gI s 47 0) - 1)) 47 2 (((gI s 47 2) + 5) - ((gI s 47 2) + 5) / 6 * 6))) 7 (fun _ _ _ _ => rfl) g.1.1 g.1.2.1 g.1.2.2 ?_
    replace g := g.2
    refine xW.call (y := 144) (as := [vr 2 2, vr 2 (xR0 48 ((((gI s 47 2) + 5) - ((gI s 47 2) + 5) / 6 * 6).toNatClampNeg) - 1)]) (h0 := xhp (sI (sI s 47 0 ((gI s 47 0) - 1)) 47 2 (((gI s 47 2) + 5) - ((gI s 47 2) + 5) / 6 * 6))) (pc0 := 40) (len := 3) (L0 := [(0, vr 9 47), (1, vr 2 2)]) (rest := []) 1 (fun _ _ _ _ => rfl) (m144 _ _ _ g.1.1 g.1.2.1 g.1.2.2 ?_)
    show xW (xX0 xs Ls) p163 43 [(0, vr 9 47), (1, vr 2 2)] [] (xhp (dk_set (sI (sI s 47 0 ((gI s 47 0) - 1)) 47 2 (((gI s 47 2) + 5) - ((gI s 47 2) + 5) / 6 * 6)) 2 (xR0 48 ((((gI s 47 2) + 5) - ((gI s 47 2) + 5) / 6 * 6).toNatClampNeg) - 1))) Φ
    replace g := g.2
    exact xW.ret (v0 := none) (h1 := xhp (dk_set (sI (sI s 47 0 ((gI s 47 0) - 1)) 47 2 (((gI s 47 2) + 5) - ((gI s 47 2) + 5) / 6 * 6)) 2 (xR0 48 ((((gI s 47 2) + 5) - ((gI s 47 2) + 5) / 6 * 6).toNatClampNeg) - 1))) 1 (fun _ _ _ _ => rfl) g
noncomputable def hi_giveBack_d (s : xS) : xS := (if (gI s 47 0) ≤ 0 then s else (dk_set (sI (sI s 47 0 ((gI s 47 0) - 1)) 47 2 (((gI s 47 2) + 5) - ((gI s 47 2) + 5) / 6 * 6)) 2 (xR0 48 ((((gI s 47 2) + 5) - ((gI s 47 2) + 5) / 6 * 6).toNatClampNeg) - 1)))
noncomputable def hi_giveBack : xS → xS := Classical.choose (⟨hi_giveBack_d, rfl⟩ : ∃ f, f = hi_giveBack_d)
set_option maxRecDepth 100000 in
theorem hi_giveBack_eq : hi_giveBack = hi_giveBack_d := Classical.choose_spec (⟨hi_giveBack_d, rfl⟩ : ∃ f, f = hi_giveBack_d)
def hi_giveBack_ok (s : xS) : Prop := (¬ ((gI s 47 0) ≤ 0) → ((vp_in (((gI s 47 2) + 5) - ((gI s 47 2) + 5) / 6 * 6) 6 ∧ xRok 48 ((((gI s 47 2) + 5) - ((gI s 47 2) + 5) / 6 * 6).toNatClampNeg) 2) ∧ (xDk 2 ∧ xDk (xR0 48 ((((gI s 47 2) + 5) - ((gI s 47 2) + 5) / 6 * 6).toNatClampNeg) - 1) ∧ dk_set_ok (sI (sI s 47 0 ((gI s 47 0) - 1)) 47 2 (((gI s 47 2) + 5) - ((gI s 47 2) + 5) / 6 * 6)) 2 (xR0 48 ((((gI s 47 2) + 5) - ((gI s 47 2) + 5) / 6 * 6).toNatClampNeg) - 1))))
set_option maxRecDepth 100000 in
theorem m163 {xs : Nat → Int32} {Ls : Nat} {Ψ : xO → xH → Prop} (s : xS) (gq : hi_giveBack_ok s) (h : Ψ (.inl none) (xhp (hi_giveBack s))) : xM (xX0 xs Ls) 163 [vr 9 47, vr 2 2] (xhp s) Ψ := by
  rw [hi_giveBack_eq] at h
  unfold hi_giveBack_d at h
  unfold hi_giveBack_ok at gq
  exact xM.of (P := p163) rfl rfl rfl (b163_0 s (⟨fun hc => by rw [if_pos hc] at h; exact h, fun hc => by rw [if_neg hc] at h; replace gq := gq hc; exact ⟨gq.1, by replace gq := gq.2; exact ⟨gq, h⟩⟩⟩))
/-! hi_forget -/
theorem b164_0 {xs : Nat → Int32} {Ls : Nat} {Φ : Option xV → xH → Prop} (s : xS) (g : Φ none (xhp (sI s 47 0 0))) : xW (xX0 xs Ls) p164 0 [(0, vr 9 47)] [] (xhp s) Φ := by
  exact xW.ret (v0 := none) (h1 := xhp (sI s 47 0 0)) 4 (fun _ _ _ _ => rfl) g
noncomputable def hi_forget_d (s : xS) : xS := (sI s 47 0 0)
noncomputable def hi_forget : xS → xS := Classical.choose (⟨hi_forget_d, rfl⟩ : ∃ f, f = hi_forget_d)
set_option maxRecDepth 100000 in
theorem hi_forget_eq : hi_forget = hi_forget_d := Classical.choose_spec (⟨hi_forget_d, rfl⟩ : ∃ f, f = hi_forget_d)
set_option maxRecDepth 100000 in
theorem m164 {xs : Nat → Int32} {Ls : Nat} {Ψ : xO → xH → Prop} (s : xS) (h : Ψ (.inl none) (xhp (hi_forget s))) : xM (xX0 xs Ls) 164 [vr 9 47] (xhp s) Ψ := by
  rw [hi_forget_eq] at h
  unfold hi_forget_d at h
  exact xM.of (P := p164) rfl rfl rfl (b164_0 s (h))
