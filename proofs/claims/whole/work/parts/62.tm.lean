/-! tm_labelAt -/
theorem b68_2 {xs : Nat → Int32} {Ls : Nat} {Φ : Option xV → xH → Prop} (s : xS) (x1 : Int32) (x2 : Int32) (g : ((100 ≤ x2 → Φ (some (vi (-1))) (xhp s)) ∧ (¬ (100 ≤ x2) → ((vp_in x2 100) ∧ ((¬ (gI s 233 x2.toNatClampNeg) = (128 + x1) → xW (xX0 xs Ls) p68 2 [(0, vr 12 230), (1, vi x1), (2, vi (x2 + 1))] [] (xhp s) Φ) ∧ ((gI s 233 x2.toNatClampNeg) = (128 + x1) → Φ (some (vi x2)) (xhp s))))))) : xW (xX0 xs Ls) p68 2 [(0, vr 12 230), (1, vi x1), (2, vi x2)] [] (xhp s) Φ := by
  refine xW.br (c := 100 ≤ x2) (pc1 := 30) (L1 := [(0, vr 12 230), (1, vi x1), (2, vi x2)]) (st1 := []) (h1 := xhp s) (pc2 := 8) (L2 := [(0, vr 12 230), (1, vi x1), (2, vi x2)]) (st2 := []) (h2 := xhp s) 3 (fun _ _ _ _ => rfl) (fun hc => ?_) (fun hc => ?_)
  · replace g := g.1 hc
    exact xW.ret (v0 := some (vi (-1))) (h1 := xhp s) 2 (fun _ _ _ _ => rfl) g
  · replace g := g.2 hc
    refine xW.side (c := vp_in x2 100) (pc1 := 14) (L1 := [(0, vr 12 230), (1, vi x1), (2, vi x2)]) (st1 := [vi (gI s 233 x2.toNatClampNeg)]) (h1 := xhp s) 4 (fun _ _ _ _ => rfl) g.1 ?_
    replace g := g.2
    refine xW.br (c := ¬ (gI s 233 x2.toNatClampNeg) = (128 + x1)) (pc1 := 24) (L1 := [(0, vr 12 230), (1, vi x1), (2, vi x2)]) (st1 := []) (h1 := xhp s) (pc2 := 22) (L2 := [(0, vr 12 230), (1, vi x1), (2, vi x2)]) (st2 := []) (h2 := xhp s) 4 (fun _ _ _ _ => rfl) (fun hc => ?_) (fun hc => ?_)
    · replace g := g.1 hc
      refine xW.seg (pc1 := 2) (L1 := [(2, vi (x2 + 1)), (0, vr 12 230), (1, vi x1)]) (st1 := []) (h1 := xhp s) 2 (fun _ _ _ _ => rfl) ?_
      exact xW.locs (L := [(0, vr 12 230), (1, vi x1), (2, vi (x2 + 1))]) ⟨rfl, rfl, rfl, trivial⟩ rfl g
    · replace g := g.2 (Decidable.not_not.mp hc)
      exact xW.ret (v0 := some (vi x2)) (h1 := xhp s) 2 (fun _ _ _ _ => rfl) g
noncomputable def tm_labelAt_2 : Nat → xS → Int32 → Int32 → Int32
  | 0, s, _, _ => 0
  | n + 1, s, x1, x2 => (if 100 ≤ x2 then (-1) else (if ¬ (gI s 233 x2.toNatClampNeg) = (128 + x1) then (tm_labelAt_2 n s x1 (x2 + 1)) else x2))
def tm_labelAt_2_ok : Nat → xS → Int32 → Int32 → Prop
  | 0, _, _, _ => False
  | n + 1, s, x1, x2 => (¬ (100 ≤ x2) → ((vp_in x2 100) ∧ (¬ (gI s 233 x2.toNatClampNeg) = (128 + x1) → (tm_labelAt_2_ok n s x1 (x2 + 1)))))
set_option maxRecDepth 100000 in
theorem n68_2 {xs : Nat → Int32} {Ls : Nat} {Φ : Option xV → xH → Prop} : ∀ (n : Nat) (s : xS) (x1 : Int32) (x2 : Int32), tm_labelAt_2_ok n s x1 x2 → Φ (some (vi (tm_labelAt_2 n s x1 x2))) (xhp s) → xW (xX0 xs Ls) p68 2 [(0, vr 12 230), (1, vi x1), (2, vi x2)] [] (xhp s) Φ := by
  intro n
  induction n with
  | zero => intro s _ _ gq; exact gq.elim
  | succ n ih =>
    intro s x1 x2 gq h
    unfold tm_labelAt_2_ok at gq
    unfold tm_labelAt_2 at h
    exact b68_2 s x1 x2 (⟨fun hc => by rw [if_pos hc] at h; exact h, fun hc => by rw [if_neg hc] at h; replace gq := gq hc; exact ⟨gq.1, by replace gq := gq.2; exact ⟨fun hc => by rw [if_pos hc] at h; replace gq := gq hc; exact ih _ _ _ gq h, fun hc => by rw [if_neg (fun z => z hc)] at h; exact h⟩⟩⟩)
set_option maxRecDepth 100000 in
theorem b68_0 {xs : Nat → Int32} {Ls : Nat} {Φ : Option xV → xH → Prop} (s : xS) (k : Int32) (g : xW (xX0 xs Ls) p68 2 [(0, vr 12 230), (1, vi k), (2, vi 0)] [] (xhp s) Φ) : xW (xX0 xs Ls) p68 0 [(0, vr 12 230), (1, vi k)] [] (xhp s) Φ := by
  refine xW.seg (pc1 := 2) (L1 := [(2, vi 0), (0, vr 12 230), (1, vi k)]) (st1 := []) (h1 := xhp s) 2 (fun _ _ _ _ => rfl) ?_
  exact xW.locs (L := [(0, vr 12 230), (1, vi k), (2, vi 0)]) ⟨rfl, rfl, rfl, trivial⟩ rfl g
noncomputable def tm_labelAt (s : xS) (k : Int32) : Int32 := (tm_labelAt_2 xfu s k 0)
def tm_labelAt_ok (s : xS) (k : Int32) : Prop := (tm_labelAt_2_ok xfu s k 0)
set_option maxRecDepth 100000 in
theorem m68 {xs : Nat → Int32} {Ls : Nat} {Ψ : xO → xH → Prop} (s : xS) (k : Int32) (gq : tm_labelAt_ok s k) (h : Ψ (.inl (some (vi (tm_labelAt s k)))) (xhp s)) : xM (xX0 xs Ls) 68 [vr 12 230, vi k] (xhp s) Ψ := by
  unfold tm_labelAt at h
  unfold tm_labelAt_ok at gq
  exact xM.of (P := p68) rfl rfl rfl (b68_0 s k (n68_2 _ _ _ _ gq h))
/-! tm_start -/
theorem b69_0 {xs : Nat → Int32} {Ls : Nat} {Φ : Option xV → xH → Prop} (s : xS) (k : Int32) (g : ((tm_labelAt_ok s k) ∧ Φ none (xhp (sI (sI s 230 10 ((tm_labelAt s k) + 1)) 230 8 0)))) : xW (xX0 xs Ls) p69 0 [(0, vr 12 230), (1, vi k)] [] (xhp s) Φ := by
  refine xW.call (y := 68) (as := [vr 12 230, vi k]) (h0 := xhp s) (pc0 := 3) (len := 3) (L0 := [(0, vr 12 230), (1, vi k)]) (rest := [vr 12 230]) 4 (fun _ _ _ _ => rfl) (m68 _ _ g.1 ?_)
  show xW (xX0 xs Ls) p69 6 [(0, vr 12 230), (1, vi k)] [vi (tm_labelAt s k), vr 12 230] (xhp s) Φ
  replace g := g.2
  exact xW.ret (v0 := none) (h1 := xhp (sI (sI s 230 10 ((tm_labelAt s k) + 1)) 230 8 0)) 7 (fun _ _ _ _ => rfl) g
noncomputable def tm_start_d (s : xS) (k : Int32) : xS := (sI (sI s 230 10 ((tm_labelAt s k) + 1)) 230 8 0)
noncomputable def tm_start : xS → Int32 → xS := Classical.choose (⟨tm_start_d, rfl⟩ : ∃ f, f = tm_start_d)
set_option maxRecDepth 100000 in
theorem tm_start_eq : tm_start = tm_start_d := Classical.choose_spec (⟨tm_start_d, rfl⟩ : ∃ f, f = tm_start_d)
def tm_start_ok (s : xS) (k : Int32) : Prop := (tm_labelAt_ok s k)
set_option maxRecDepth 100000 in
theorem m69 {xs : Nat → Int32} {Ls : Nat} {Ψ : xO → xH → Prop} (s : xS) (k : Int32) (gq : tm_start_ok s k) (h : Ψ (.inl none) (xhp (tm_start s k))) : xM (xX0 xs Ls) 69 [vr 12 230, vi k] (xhp s) Ψ := by
  rw [tm_start_eq] at h
  unfold tm_start_d at h
  unfold tm_start_ok at gq
  exact xM.of (P := p69) rfl rfl rfl (b69_0 s k (⟨gq, h⟩))
/-! tm_pressed -/
theorem b70_49 {xs : Nat → Int32} {Ls : Nat} {Φ : Option xV → xH → Prop} (s : xS) (x1 : Int32) (g : ((x1 ≤ 127 → ((tm_key_ok s x1) ∧ Φ (some (vi ((tm_key s x1).1))) (xhp ((tm_key s x1).2)))) ∧ (¬ (x1 ≤ 127) → Φ (some (vi 1)) (xhp s)))) : xW (xX0 xs Ls) p70 49 [(0, vr 12 230), (1, vi x1)] [] (xhp s) Φ := by
  refine xW.br (c := x1 ≤ 127) (pc1 := 59) (L1 := [(0, vr 12 230), (1, vi x1)]) (st1 := []) (h1 := xhp s) (pc2 := 55) (L2 := [(0, vr 12 230), (1, vi x1)]) (st2 := []) (h2 := xhp s) 3 (fun _ _ _ _ => rfl) (fun hc => ?_) (fun hc => ?_)
  · replace g := g.1 hc
    refine xW.call (y := 61) (as := [vr 12 230, vi x1]) (h0 := xhp s) (pc0 := 61) (len := 3) (L0 := [(0, vr 12 230), (1, vi x1)]) (rest := []) 3 (fun _ _ _ _ => rfl) (m61 _ _ g.1 ?_)
    show xW (xX0 xs Ls) p70 64 [(0, vr 12 230), (1, vi x1)] [vi ((tm_key s x1).1)] (xhp ((tm_key s x1).2)) Φ
    replace g := g.2
    exact xW.ret (v0 := some (vi ((tm_key s x1).1))) (h1 := xhp ((tm_key s x1).2)) 1 (fun _ _ _ _ => rfl) g
  · replace g := g.2 hc
    exact xW.ret (v0 := some (vi 1)) (h1 := xhp s) 3 (fun _ _ _ _ => rfl) g
noncomputable def tm_pressed_49_d (s : xS) (x1 : Int32) : Int32 × xS := (if x1 ≤ 127 then (tm_key s x1) else (1, s))
noncomputable def tm_pressed_49 : xS → Int32 → Int32 × xS := Classical.choose (⟨tm_pressed_49_d, rfl⟩ : ∃ f, f = tm_pressed_49_d)
set_option maxRecDepth 100000 in
theorem tm_pressed_49_eq : tm_pressed_49 = tm_pressed_49_d := Classical.choose_spec (⟨tm_pressed_49_d, rfl⟩ : ∃ f, f = tm_pressed_49_d)
def tm_pressed_49_ok (s : xS) (x1 : Int32) : Prop := (x1 ≤ 127 → (tm_key_ok s x1))
set_option maxRecDepth 100000 in
theorem n70_49 {xs : Nat → Int32} {Ls : Nat} {Φ : Option xV → xH → Prop} (s : xS) (x1 : Int32) (gq : tm_pressed_49_ok s x1) (h : Φ (some (vi (tm_pressed_49 s x1).1)) (xhp (tm_pressed_49 s x1).2)) : xW (xX0 xs Ls) p70 49 [(0, vr 12 230), (1, vi x1)] [] (xhp s) Φ := by
  rw [tm_pressed_49_eq] at h
  unfold tm_pressed_49_d at h
  unfold tm_pressed_49_ok at gq
  exact b70_49 s x1 (⟨fun hc => by rw [if_pos hc] at h; replace gq := gq hc; exact ⟨gq, (by (try dsimp only at h); exact h)⟩, fun hc => by rw [if_neg hc] at h; exact (by (try dsimp only at h); exact h)⟩)
set_option maxRecDepth 100000 in
theorem b70_0 {xs : Nat → Int32} {Ls : Nat} {Φ : Option xV → xH → Prop} (s : xS) (k : Int32) (g : ((k < 144 → xW (xX0 xs Ls) p70 49 [(0, vr 12 230), (1, vi k)] [] (xhp s) Φ) ∧ (¬ (k < 144) → ((151 < k → xW (xX0 xs Ls) p70 49 [(0, vr 12 230), (1, vi k)] [] (xhp s) Φ) ∧ (¬ (151 < k) → ((tm_labelAt_ok s (k - 144)) ∧ ((0 ≤ (tm_labelAt s (k - 144)) → ((tm_start_ok (tm_end s) (k - 144)) ∧ Φ (some (vi 0)) (xhp (sI (tm_start (tm_end s) (k - 144)) 230 9 1)))) ∧ (¬ (0 ≤ (tm_labelAt s (k - 144))) → Φ (some (vi 7)) (xhp s))))))))) : xW (xX0 xs Ls) p70 0 [(0, vr 12 230), (1, vi k)] [] (xhp s) Φ := by
  refine xW.br (c := k < 144) (pc1 := 49) (L1 := [(0, vr 12 230), (1, vi k)]) (st1 := []) (h1 := xhp s) (pc2 := 7) (L2 := [(0, vr 12 230), (1, vi k)]) (st2 := []) (h2 := xhp s) 3 (fun _ _ _ _ => rfl) (fun hc => ?_) (fun hc => ?_)
  · replace g := g.1 hc
    exact g
  · replace g := g.2 hc
    refine xW.br (c := 151 < k) (pc1 := 49) (L1 := [(0, vr 12 230), (1, vi k)]) (st1 := []) (h1 := xhp s) (pc2 := 14) (L2 := [(0, vr 12 230), (1, vi k)]) (st2 := []) (h2 := xhp s) 3 (fun _ _ _ _ => rfl) (fun hc => ?_) (fun hc => ?_)
    · replace g := g.1 hc
      exact g
    · replace g := g.2 hc
      refine xW.call (y := 68) (as := [vr 12 230, vi (k - 144)]) (h0 := xhp s) (pc0 := 20) (len := 3) (L0 := [(0, vr 12 230), (1, vi k)]) (rest := []) 5 (fun _ _ _ _ => rfl) (m68 _ _ g.1 ?_)
      show xW (xX0 xs Ls) p70 23 [(0, vr 12 230), (1, vi k)] [vi (tm_labelAt s (k - 144))] (xhp s) Φ
      replace g := g.2
      refine xW.br (c := 0 ≤ (tm_labelAt s (k - 144))) (pc1 := 29) (L1 := [(0, vr 12 230), (1, vi k)]) (st1 := []) (h1 := xhp s) (pc2 := 26) (L2 := [(0, vr 12 230), (1, vi k)]) (st2 := []) (h2 := xhp s) 1 (fun _ _ _ _ => rfl) (fun hc => ?_) (fun hc => ?_)
      · replace g := g.1 hc
        refine xW.call (y := 54) (as := [vr 12 230]) (h0 := xhp s) (pc0 := 30) (len := 3) (L0 := [(0, vr 12 230), (1, vi k)]) (rest := []) 2 (fun _ _ _ _ => rfl) (m54 _ ?_)
        show xW (xX0 xs Ls) p70 33 [(0, vr 12 230), (1, vi k)] [] (xhp (tm_end s)) Φ
        refine xW.call (y := 69) (as := [vr 12 230, vi (k - 144)]) (h0 := xhp (tm_end s)) (pc0 := 39) (len := 3) (L0 := [(0, vr 12 230), (1, vi k)]) (rest := []) 5 (fun _ _ _ _ => rfl) (m69 _ _ g.1 ?_)
        show xW (xX0 xs Ls) p70 42 [(0, vr 12 230), (1, vi k)] [] (xhp (tm_start (tm_end s) (k - 144))) Φ
        replace g := g.2
        exact xW.ret (v0 := some (vi 0)) (h1 := xhp (sI (tm_start (tm_end s) (k - 144)) 230 9 1)) 5 (fun _ _ _ _ => rfl) g
      · replace g := g.2 hc
        exact xW.ret (v0 := some (vi 7)) (h1 := xhp s) 2 (fun _ _ _ _ => rfl) g
noncomputable def tm_pressed_d (s : xS) (k : Int32) : Int32 × xS := (if k < 144 then (tm_pressed_49 s k) else (if 151 < k then (tm_pressed_49 s k) else (if 0 ≤ (tm_labelAt s (k - 144)) then (0, (sI (tm_start (tm_end s) (k - 144)) 230 9 1)) else (7, s))))
noncomputable def tm_pressed : xS → Int32 → Int32 × xS := Classical.choose (⟨tm_pressed_d, rfl⟩ : ∃ f, f = tm_pressed_d)
set_option maxRecDepth 100000 in
theorem tm_pressed_eq : tm_pressed = tm_pressed_d := Classical.choose_spec (⟨tm_pressed_d, rfl⟩ : ∃ f, f = tm_pressed_d)
def tm_pressed_ok (s : xS) (k : Int32) : Prop := ((k < 144 → (tm_pressed_49_ok s k)) ∧ (¬ (k < 144) → ((151 < k → (tm_pressed_49_ok s k)) ∧ (¬ (151 < k) → ((tm_labelAt_ok s (k - 144)) ∧ (0 ≤ (tm_labelAt s (k - 144)) → (tm_start_ok (tm_end s) (k - 144))))))))
set_option maxRecDepth 100000 in
theorem m70 {xs : Nat → Int32} {Ls : Nat} {Ψ : xO → xH → Prop} (s : xS) (k : Int32) (gq : tm_pressed_ok s k) (h : Ψ (.inl (some (vi (tm_pressed s k).1))) (xhp (tm_pressed s k).2)) : xM (xX0 xs Ls) 70 [vr 12 230, vi k] (xhp s) Ψ := by
  rw [tm_pressed_eq] at h
  unfold tm_pressed_d at h
  unfold tm_pressed_ok at gq
  exact xM.of (P := p70) rfl rfl rfl (b70_0 s k (⟨fun hc => by rw [if_pos hc] at h; replace gq := gq.1 hc; exact n70_49 _ _ gq h, fun hc => by rw [if_neg hc] at h; replace gq := gq.2 hc; exact ⟨fun hc => by rw [if_pos hc] at h; replace gq := gq.1 hc; exact n70_49 _ _ gq h, fun hc => by rw [if_neg hc] at h; replace gq := gq.2 hc; exact ⟨gq.1, by replace gq := gq.2; exact ⟨fun hc => by rw [if_pos hc] at h; replace gq := gq hc; exact ⟨gq, (by (try dsimp only at h); exact h)⟩, fun hc => by rw [if_neg hc] at h; exact (by (try dsimp only at h); exact h)⟩⟩⟩⟩))
/-! tm_test -/
theorem b71_0 {xs : Nat → Int32} {Ls : Nat} {Φ : Option xV → xH → Prop} (s : xS) (k : Int32) (g : Φ none (xhp (sI s 230 10 (if k = 0 then ((gI s 230 10) + 2) else ((gI s 230 10) + 1))))) : xW (xX0 xs Ls) p71 0 [(0, vr 12 230), (1, vi k)] [] (xhp s) Φ := by
  refine xW.seg (pc1 := 2) (L1 := [(0, vr 12 230), (1, vi k)]) (st1 := [vi k, vr 12 230]) (h1 := xhp s) 2 (fun _ _ _ _ => rfl) ?_
  suffices J : xW (xX0 xs Ls) p71 20 [(0, vr 12 230), (1, vi k)] [vi (if k = 0 then ((gI s 230 10) + 2) else ((gI s 230 10) + 1)), vr 12 230] (xhp s) Φ by
    refine xW.br (c := k = 0) (pc1 := 14) (L1 := [(0, vr 12 230), (1, vi k)]) (st1 := [vr 12 230]) (h1 := xhp s) (pc2 := 5) (L2 := [(0, vr 12 230), (1, vi k)]) (st2 := [vr 12 230]) (h2 := xhp s) 1 (fun _ _ _ _ => rfl) (fun hc => ?_) (fun hc => ?_)
    · have hc1 : k = 0 := hc
      refine xW.seg (pc1 := 20) (L1 := [(0, vr 12 230), (1, vi k)]) (st1 := [vi ((gI s 230 10) + 2), vr 12 230]) (h1 := xhp s) 4 (fun _ _ _ _ => rfl) ?_
      refine xW.to (v := vi (if k = 0 then ((gI s 230 10) + 2) else ((gI s 230 10) + 1))) ((congrArg vi (if_pos hc1)).symm) ?_
      exact J
    · have hc1 : ¬ (k = 0) := hc
      refine xW.seg (pc1 := 20) (L1 := [(0, vr 12 230), (1, vi k)]) (st1 := [vi ((gI s 230 10) + 1), vr 12 230]) (h1 := xhp s) 5 (fun _ _ _ _ => rfl) ?_
      refine xW.to (v := vi (if k = 0 then ((gI s 230 10) + 2) else ((gI s 230 10) + 1))) ((congrArg vi (if_neg hc1)).symm) ?_
      exact J
  exact xW.ret (v0 := none) (h1 := xhp (sI s 230 10 (if k = 0 then ((gI s 230 10) + 2) else ((gI s 230 10) + 1)))) 2 (fun _ _ _ _ => rfl) g
noncomputable def tm_test_d (s : xS) (k : Int32) : xS := (sI s 230 10 (if k = 0 then ((gI s 230 10) + 2) else ((gI s 230 10) + 1)))
noncomputable def tm_test : xS → Int32 → xS := Classical.choose (⟨tm_test_d, rfl⟩ : ∃ f, f = tm_test_d)
set_option maxRecDepth 100000 in
theorem tm_test_eq : tm_test = tm_test_d := Classical.choose_spec (⟨tm_test_d, rfl⟩ : ∃ f, f = tm_test_d)
set_option maxRecDepth 100000 in
theorem m71 {xs : Nat → Int32} {Ls : Nat} {Ψ : xO → xH → Prop} (s : xS) (k : Int32) (h : Ψ (.inl none) (xhp (tm_test s k))) : xM (xX0 xs Ls) 71 [vr 12 230, vi k] (xhp s) Ψ := by
  rw [tm_test_eq] at h
  unfold tm_test_d at h
  exact xM.of (P := p71) rfl rfl rfl (b71_0 s k (h))
/-! tm_go -/
theorem b72_57 {xs : Nat → Int32} {Ls : Nat} {Φ : Option xV → xH → Prop} (s : xS) (x2 : Int32) (g : Φ (some (vi 0)) (xhp (sI (tm_end s) 230 10 (x2 + 1)))) : xW (xX0 xs Ls) p72 57 [(0, vr 12 230), (2, vi x2)] [] (xhp s) Φ := by
  refine xW.call (y := 54) (as := [vr 12 230]) (h0 := xhp s) (pc0 := 58) (len := 3) (L0 := [(0, vr 12 230), (2, vi x2)]) (rest := []) 2 (fun _ _ _ _ => rfl) (m54 _ ?_)
  show xW (xX0 xs Ls) p72 61 [(0, vr 12 230), (2, vi x2)] [] (xhp (tm_end s)) Φ
  exact xW.ret (v0 := some (vi 0)) (h1 := xhp (sI (tm_end s) 230 10 (x2 + 1))) 7 (fun _ _ _ _ => rfl) g
noncomputable def tm_go_57_d (s : xS) (x2 : Int32) : Int32 × xS := (0, (sI (tm_end s) 230 10 (x2 + 1)))
noncomputable def tm_go_57 : xS → Int32 → Int32 × xS := Classical.choose (⟨tm_go_57_d, rfl⟩ : ∃ f, f = tm_go_57_d)
set_option maxRecDepth 100000 in
theorem tm_go_57_eq : tm_go_57 = tm_go_57_d := Classical.choose_spec (⟨tm_go_57_d, rfl⟩ : ∃ f, f = tm_go_57_d)
set_option maxRecDepth 100000 in
theorem n72_57 {xs : Nat → Int32} {Ls : Nat} {Φ : Option xV → xH → Prop} (s : xS) (x2 : Int32) (h : Φ (some (vi (tm_go_57 s x2).1)) (xhp (tm_go_57 s x2).2)) : xW (xX0 xs Ls) p72 57 [(0, vr 12 230), (2, vi x2)] [] (xhp s) Φ := by
  rw [tm_go_57_eq] at h
  unfold tm_go_57_d at h
  exact b72_57 s x2 ((by (try dsimp only at h); exact h))
set_option maxRecDepth 100000 in
theorem b72_0 {xs : Nat → Int32} {Ls : Nat} {Φ : Option xV → xH → Prop} (s : xS) (k : Int32) (g : ((tm_labelAt_ok s (k &&& 7)) ∧ ((0 ≤ (tm_labelAt s (k &&& 7)) → ((k < 144 → xW (xX0 xs Ls) p72 57 [(0, vr 12 230), (2, vi (tm_labelAt s (k &&& 7)))] [] (xhp s) Φ) ∧ (¬ (k < 144) → ((¬ (gI s 230 8) = 4 → ((vp_in (gI s 230 8) 4) ∧ xW (xX0 xs Ls) p72 57 [(0, vr 12 230), (2, vi (tm_labelAt s (k &&& 7)))] [] (xhp (sI (sI s 234 ((gI s 230 8).toNatClampNeg) (gI s 230 10)) 230 8 ((gI s 230 8) + 1))) Φ)) ∧ ((gI s 230 8) = 4 → Φ (some (vi 8)) (xhp s)))))) ∧ (¬ (0 ≤ (tm_labelAt s (k &&& 7))) → Φ (some (vi 7)) (xhp s))))) : xW (xX0 xs Ls) p72 0 [(0, vr 12 230), (1, vi k)] [] (xhp s) Φ := by
  refine xW.call (y := 68) (as := [vr 12 230, vi (k &&& 7)]) (h0 := xhp s) (pc0 := 5) (len := 3) (L0 := [(0, vr 12 230), (1, vi k)]) (rest := []) 5 (fun _ _ _ _ => rfl) (m68 _ _ g.1 ?_)
  show xW (xX0 xs Ls) p72 8 [(0, vr 12 230), (1, vi k)] [vi (tm_labelAt s (k &&& 7))] (xhp s) Φ
  replace g := g.2
  refine xW.br (c := 0 ≤ (tm_labelAt s (k &&& 7))) (pc1 := 16) (L1 := [(2, vi (tm_labelAt s (k &&& 7))), (0, vr 12 230), (1, vi k)]) (st1 := []) (h1 := xhp s) (pc2 := 13) (L2 := [(2, vi (tm_labelAt s (k &&& 7))), (0, vr 12 230), (1, vi k)]) (st2 := []) (h2 := xhp s) 3 (fun _ _ _ _ => rfl) (fun hc => ?_) (fun hc => ?_)
  · replace g := g.1 hc
    refine xW.br (c := k < 144) (pc1 := 57) (L1 := [(2, vi (tm_labelAt s (k &&& 7))), (0, vr 12 230), (1, vi k)]) (st1 := []) (h1 := xhp s) (pc2 := 23) (L2 := [(2, vi (tm_labelAt s (k &&& 7))), (0, vr 12 230), (1, vi k)]) (st2 := []) (h2 := xhp s) 3 (fun _ _ _ _ => rfl) (fun hc => ?_) (fun hc => ?_)
    · replace g := g.1 hc
      exact xW.locs (L := [(0, vr 12 230), (2, vi (tm_labelAt s (k &&& 7)))]) ⟨rfl, rfl, trivial⟩ rfl g
    · replace g := g.2 hc
      refine xW.br (c := ¬ (gI s 230 8) = 4) (pc1 := 34) (L1 := [(2, vi (tm_labelAt s (k &&& 7))), (0, vr 12 230), (1, vi k)]) (st1 := []) (h1 := xhp s) (pc2 := 31) (L2 := [(2, vi (tm_labelAt s (k &&& 7))), (0, vr 12 230), (1, vi k)]) (st2 := []) (h2 := xhp s) 4 (fun _ _ _ _ => rfl) (fun hc => ?_) (fun hc => ?_)
      · replace g := g.1 hc
        refine xW.side (c := vp_in (gI s 230 8) 4) (pc1 := 47) (L1 := [(2, vi (tm_labelAt s (k &&& 7))), (0, vr 12 230), (1, vi k)]) (st1 := []) (h1 := xhp (sI s 234 ((gI s 230 8).toNatClampNeg) (gI s 230 10))) 7 (fun _ _ _ _ => rfl) g.1 ?_
        replace g := g.2
        refine xW.seg (pc1 := 57) (L1 := [(2, vi (tm_labelAt s (k &&& 7))), (0, vr 12 230), (1, vi k)]) (st1 := []) (h1 := xhp (sI (sI s 234 ((gI s 230 8).toNatClampNeg) (gI s 230 10)) 230 8 ((gI s 230 8) + 1))) 6 (fun _ _ _ _ => rfl) ?_
        exact xW.locs (L := [(0, vr 12 230), (2, vi (tm_labelAt s (k &&& 7)))]) ⟨rfl, rfl, trivial⟩ rfl g
      · replace g := g.2 (Decidable.not_not.mp hc)
        exact xW.ret (v0 := some (vi 8)) (h1 := xhp s) 2 (fun _ _ _ _ => rfl) g
  · replace g := g.2 hc
    exact xW.ret (v0 := some (vi 7)) (h1 := xhp s) 2 (fun _ _ _ _ => rfl) g
noncomputable def tm_go_d (s : xS) (k : Int32) : Int32 × xS := (if 0 ≤ (tm_labelAt s (k &&& 7)) then (if k < 144 then (tm_go_57 s (tm_labelAt s (k &&& 7))) else (if ¬ (gI s 230 8) = 4 then (tm_go_57 (sI (sI s 234 ((gI s 230 8).toNatClampNeg) (gI s 230 10)) 230 8 ((gI s 230 8) + 1)) (tm_labelAt s (k &&& 7))) else (8, s))) else (7, s))
noncomputable def tm_go : xS → Int32 → Int32 × xS := Classical.choose (⟨tm_go_d, rfl⟩ : ∃ f, f = tm_go_d)
set_option maxRecDepth 100000 in
theorem tm_go_eq : tm_go = tm_go_d := Classical.choose_spec (⟨tm_go_d, rfl⟩ : ∃ f, f = tm_go_d)
def tm_go_ok (s : xS) (k : Int32) : Prop := ((tm_labelAt_ok s (k &&& 7)) ∧ (0 ≤ (tm_labelAt s (k &&& 7)) → (¬ (k < 144) → (¬ (gI s 230 8) = 4 → (vp_in (gI s 230 8) 4)))))
set_option maxRecDepth 100000 in
theorem m72 {xs : Nat → Int32} {Ls : Nat} {Ψ : xO → xH → Prop} (s : xS) (k : Int32) (gq : tm_go_ok s k) (h : Ψ (.inl (some (vi (tm_go s k).1))) (xhp (tm_go s k).2)) : xM (xX0 xs Ls) 72 [vr 12 230, vi k] (xhp s) Ψ := by
  rw [tm_go_eq] at h
  unfold tm_go_d at h
  unfold tm_go_ok at gq
  exact xM.of (P := p72) rfl rfl rfl (b72_0 s k (⟨gq.1, by replace gq := gq.2; exact ⟨fun hc => by rw [if_pos hc] at h; replace gq := gq hc; exact ⟨fun hc => by rw [if_pos hc] at h; exact n72_57 _ _ h, fun hc => by rw [if_neg hc] at h; replace gq := gq hc; exact ⟨fun hc => by rw [if_pos hc] at h; replace gq := gq hc; exact ⟨gq, n72_57 _ _ h⟩, fun hc => by rw [if_neg (fun z => z hc)] at h; exact (by (try dsimp only at h); exact h)⟩⟩, fun hc => by rw [if_neg hc] at h; exact (by (try dsimp only at h); exact h)⟩⟩))
/-! tm_deed -/
theorem b73_119 {xs : Nat → Int32} {Ls : Nat} {Φ : Option xV → xH → Prop} (s : xS) (x1 : Int32) (g : ((¬ x1 = 154 → Φ (some (vi 0)) (xhp (tm_test s (zb (!decide (0 ≤ (gI s 231 10))))))) ∧ (x1 = 154 → Φ (some (vi 0)) (xhp (tm_test s (zb (decide ((gI s 231 10) = 0)))))))) : xW (xX0 xs Ls) p73 119 [(0, vr 12 230), (1, vi x1)] [] (xhp s) Φ := by
  refine xW.br (c := ¬ x1 = 154) (pc1 := 145) (L1 := [(0, vr 12 230), (1, vi x1)]) (st1 := [vr 12 230]) (h1 := xhp s) (pc2 := 127) (L2 := [(0, vr 12 230), (1, vi x1)]) (st2 := [vr 12 230]) (h2 := xhp s) 4 (fun _ _ _ _ => rfl) (fun hc => ?_) (fun hc => ?_)
  · replace g := g.1 hc
    refine xW.side (c := vp_in 10 640) (pc1 := 152) (L1 := [(0, vr 12 230), (1, vi x1)]) (st1 := [vi (gI s 231 10), vr 12 230]) (h1 := xhp s) 4 (fun _ _ _ _ => rfl) (vp_lit rfl) ?_
    suffices J : xW (xX0 xs Ls) p73 160 [(0, vr 12 230), (1, vi x1)] [vi (zb (!decide (0 ≤ (gI s 231 10)))), vr 12 230] (xhp s) Φ by
      refine xW.br (c := 0 ≤ (gI s 231 10)) (pc1 := 159) (L1 := [(0, vr 12 230), (1, vi x1)]) (st1 := [vr 12 230]) (h1 := xhp s) (pc2 := 155) (L2 := [(0, vr 12 230), (1, vi x1)]) (st2 := [vr 12 230]) (h2 := xhp s) 1 (fun _ _ _ _ => rfl) (fun hc => ?_) (fun hc => ?_)
      · have hc1 : 0 ≤ (gI s 231 10) := hc
        refine xW.seg (pc1 := 160) (L1 := [(0, vr 12 230), (1, vi x1)]) (st1 := [vi 0, vr 12 230]) (h1 := xhp s) 1 (fun _ _ _ _ => rfl) ?_
        refine xW.to (v := vi (zb (!decide (0 ≤ (gI s 231 10))))) (zb_f (by simp only [decide_eq_true hc1, Bool.true_or, Bool.or_true, Bool.false_or, Bool.or_false, Bool.true_and, Bool.and_true, Bool.false_and, Bool.and_false, Bool.not_true, Bool.not_false, cond_true, cond_false])) ?_
        exact J
      · have hc1 : ¬ (0 ≤ (gI s 231 10)) := hc
        refine xW.seg (pc1 := 160) (L1 := [(0, vr 12 230), (1, vi x1)]) (st1 := [vi 1, vr 12 230]) (h1 := xhp s) 2 (fun _ _ _ _ => rfl) ?_
        refine xW.to (v := vi (zb (!decide (0 ≤ (gI s 231 10))))) (zb_t (by simp only [decide_eq_false hc1, Bool.true_or, Bool.or_true, Bool.false_or, Bool.or_false, Bool.true_and, Bool.and_true, Bool.false_and, Bool.and_false, Bool.not_true, Bool.not_false, cond_true, cond_false])) ?_
        exact J
    refine xW.call (y := 71) (as := [vr 12 230, vi (zb (!decide (0 ≤ (gI s 231 10))))]) (h0 := xhp s) (pc0 := 160) (len := 3) (L0 := [(0, vr 12 230), (1, vi x1)]) (rest := []) 1 (fun _ _ _ _ => rfl) (m71 _ _ ?_)
    show xW (xX0 xs Ls) p73 163 [(0, vr 12 230), (1, vi x1)] [] (xhp (tm_test s (zb (!decide (0 ≤ (gI s 231 10)))))) Φ
    exact xW.ret (v0 := some (vi 0)) (h1 := xhp (tm_test s (zb (!decide (0 ≤ (gI s 231 10)))))) 3 (fun _ _ _ _ => rfl) g
  · replace g := g.2 (Decidable.not_not.mp hc)
    refine xW.side (c := vp_in 10 640) (pc1 := 134) (L1 := [(0, vr 12 230), (1, vi x1)]) (st1 := [vi (gI s 231 10), vr 12 230]) (h1 := xhp s) 4 (fun _ _ _ _ => rfl) (vp_lit rfl) ?_
    suffices J : xW (xX0 xs Ls) p73 160 [(0, vr 12 230), (1, vi x1)] [vi (zb (decide ((gI s 231 10) = 0))), vr 12 230] (xhp s) Φ by
      refine xW.br (c := ¬ (gI s 231 10) = 0) (pc1 := 141) (L1 := [(0, vr 12 230), (1, vi x1)]) (st1 := [vr 12 230]) (h1 := xhp s) (pc2 := 137) (L2 := [(0, vr 12 230), (1, vi x1)]) (st2 := [vr 12 230]) (h2 := xhp s) 1 (fun _ _ _ _ => rfl) (fun hc => ?_) (fun hc => ?_)
      · have hc2 : ¬ (gI s 231 10) = 0 := hc
        refine xW.seg (pc1 := 160) (L1 := [(0, vr 12 230), (1, vi x1)]) (st1 := [vi 0, vr 12 230]) (h1 := xhp s) 2 (fun _ _ _ _ => rfl) ?_
        refine xW.to (v := vi (zb (decide ((gI s 231 10) = 0)))) (zb_f (by simp only [decide_eq_false hc2, Bool.true_or, Bool.or_true, Bool.false_or, Bool.or_false, Bool.true_and, Bool.and_true, Bool.false_and, Bool.and_false, Bool.not_true, Bool.not_false, cond_true, cond_false])) ?_
        exact J
      · have hc2 : (gI s 231 10) = 0 := (Decidable.not_not.mp hc)
        refine xW.seg (pc1 := 160) (L1 := [(0, vr 12 230), (1, vi x1)]) (st1 := [vi 1, vr 12 230]) (h1 := xhp s) 2 (fun _ _ _ _ => rfl) ?_
        refine xW.to (v := vi (zb (decide ((gI s 231 10) = 0)))) (zb_t (by simp only [decide_eq_true hc2, Bool.true_or, Bool.or_true, Bool.false_or, Bool.or_false, Bool.true_and, Bool.and_true, Bool.false_and, Bool.and_false, Bool.not_true, Bool.not_false, cond_true, cond_false])) ?_
        exact J
    refine xW.call (y := 71) (as := [vr 12 230, vi (zb (decide ((gI s 231 10) = 0)))]) (h0 := xhp s) (pc0 := 160) (len := 3) (L0 := [(0, vr 12 230), (1, vi x1)]) (rest := []) 1 (fun _ _ _ _ => rfl) (m71 _ _ ?_)
    show xW (xX0 xs Ls) p73 163 [(0, vr 12 230), (1, vi x1)] [] (xhp (tm_test s (zb (decide ((gI s 231 10) = 0))))) Φ
    exact xW.ret (v0 := some (vi 0)) (h1 := xhp (tm_test s (zb (decide ((gI s 231 10) = 0))))) 3 (fun _ _ _ _ => rfl) g
noncomputable def tm_deed_119_d (s : xS) (x1 : Int32) : Int32 × xS := (if ¬ x1 = 154 then (0, (tm_test s (zb (!decide (0 ≤ (gI s 231 10)))))) else (0, (tm_test s (zb (decide ((gI s 231 10) = 0))))))
noncomputable def tm_deed_119 : xS → Int32 → Int32 × xS := Classical.choose (⟨tm_deed_119_d, rfl⟩ : ∃ f, f = tm_deed_119_d)
set_option maxRecDepth 100000 in
theorem tm_deed_119_eq : tm_deed_119 = tm_deed_119_d := Classical.choose_spec (⟨tm_deed_119_d, rfl⟩ : ∃ f, f = tm_deed_119_d)
set_option maxRecDepth 100000 in
theorem n73_119 {xs : Nat → Int32} {Ls : Nat} {Φ : Option xV → xH → Prop} (s : xS) (x1 : Int32) (h : Φ (some (vi (tm_deed_119 s x1).1)) (xhp (tm_deed_119 s x1).2)) : xW (xX0 xs Ls) p73 119 [(0, vr 12 230), (1, vi x1)] [] (xhp s) Φ := by
  rw [tm_deed_119_eq] at h
  unfold tm_deed_119_d at h
  exact b73_119 s x1 (⟨fun hc => by rw [if_pos hc] at h; exact (by (try dsimp only at h); exact h), fun hc => by rw [if_neg (fun z => z hc)] at h; exact (by (try dsimp only at h); exact h)⟩)
set_option maxRecDepth 100000 in
theorem b73_0 {xs : Nat → Int32} {Ls : Nat} {Φ : Option xV → xH → Prop} (s : xS) (k : Int32) (g : ((128 ≤ k → ((136 ≤ k → ((152 ≤ k → ((k ≤ 165 → ((¬ k = 152 → ((k = 154 → xW (xX0 xs Ls) p73 119 [(0, vr 12 230), (1, vi k)] [] (xhp (tm_end s)) Φ) ∧ (¬ (k = 154) → ((¬ k = 155 → ((vp_in (k - 156) 640) ∧ ((vp_in (k - 156) 192) ∧ ((vp_in (23 + (k - 156)) 640) ∧ ((tm_add_ok (tm_end s) (gI (tm_end s) 231 ((k - 156).toNatClampNeg)) (gJ (tm_end s) 232 ((k - 156).toNatClampNeg)) (gI (tm_end s) 231 ((23 + (k - 156)).toNatClampNeg)) (-1) 100000000000 0) ∧ ((tm_put_ok ((tm_add (tm_end s) (gI (tm_end s) 231 ((k - 156).toNatClampNeg)) (gJ (tm_end s) 232 ((k - 156).toNatClampNeg)) (gI (tm_end s) 231 ((23 + (k - 156)).toNatClampNeg)) (-1) 100000000000 0).2) ((tm_add (tm_end s) (gI (tm_end s) 231 ((k - 156).toNatClampNeg)) (gJ (tm_end s) 232 ((k - 156).toNatClampNeg)) (gI (tm_end s) 231 ((23 + (k - 156)).toNatClampNeg)) (-1) 100000000000 0).1) (k - 156)) ∧ (((tm_put ((tm_add (tm_end s) (gI (tm_end s) 231 ((k - 156).toNatClampNeg)) (gJ (tm_end s) 232 ((k - 156).toNatClampNeg)) (gI (tm_end s) 231 ((23 + (k - 156)).toNatClampNeg)) (-1) 100000000000 0).2) ((tm_add (tm_end s) (gI (tm_end s) 231 ((k - 156).toNatClampNeg)) (gJ (tm_end s) 232 ((k - 156).toNatClampNeg)) (gI (tm_end s) 231 ((23 + (k - 156)).toNatClampNeg)) (-1) 100000000000 0).1) (k - 156)).1 ≤ 0 → ((vp_in (k - 156) 640) ∧ Φ (some (vi 0)) (xhp (tm_test ((tm_put ((tm_add (tm_end s) (gI (tm_end s) 231 ((k - 156).toNatClampNeg)) (gJ (tm_end s) 232 ((k - 156).toNatClampNeg)) (gI (tm_end s) 231 ((23 + (k - 156)).toNatClampNeg)) (-1) 100000000000 0).2) ((tm_add (tm_end s) (gI (tm_end s) 231 ((k - 156).toNatClampNeg)) (gJ (tm_end s) 232 ((k - 156).toNatClampNeg)) (gI (tm_end s) 231 ((23 + (k - 156)).toNatClampNeg)) (-1) 100000000000 0).1) (k - 156)).2) (zb (!decide ((gI ((tm_put ((tm_add (tm_end s) (gI (tm_end s) 231 ((k - 156).toNatClampNeg)) (gJ (tm_end s) 232 ((k - 156).toNatClampNeg)) (gI (tm_end s) 231 ((23 + (k - 156)).toNatClampNeg)) (-1) 100000000000 0).2) ((tm_add (tm_end s) (gI (tm_end s) 231 ((k - 156).toNatClampNeg)) (gJ (tm_end s) 232 ((k - 156).toNatClampNeg)) (gI (tm_end s) 231 ((23 + (k - 156)).toNatClampNeg)) (-1) 100000000000 0).1) (k - 156)).2) 231 ((k - 156).toNatClampNeg)) ≤ 0))))))) ∧ (¬ ((tm_put ((tm_add (tm_end s) (gI (tm_end s) 231 ((k - 156).toNatClampNeg)) (gJ (tm_end s) 232 ((k - 156).toNatClampNeg)) (gI (tm_end s) 231 ((23 + (k - 156)).toNatClampNeg)) (-1) 100000000000 0).2) ((tm_add (tm_end s) (gI (tm_end s) 231 ((k - 156).toNatClampNeg)) (gJ (tm_end s) 232 ((k - 156).toNatClampNeg)) (gI (tm_end s) 231 ((23 + (k - 156)).toNatClampNeg)) (-1) 100000000000 0).1) (k - 156)).1 ≤ 0) → Φ (some (vi ((tm_put ((tm_add (tm_end s) (gI (tm_end s) 231 ((k - 156).toNatClampNeg)) (gJ (tm_end s) 232 ((k - 156).toNatClampNeg)) (gI (tm_end s) 231 ((23 + (k - 156)).toNatClampNeg)) (-1) 100000000000 0).2) ((tm_add (tm_end s) (gI (tm_end s) 231 ((k - 156).toNatClampNeg)) (gJ (tm_end s) 232 ((k - 156).toNatClampNeg)) (gI (tm_end s) 231 ((23 + (k - 156)).toNatClampNeg)) (-1) 100000000000 0).1) (k - 156)).1))) (xhp ((tm_put ((tm_add (tm_end s) (gI (tm_end s) 231 ((k - 156).toNatClampNeg)) (gJ (tm_end s) 232 ((k - 156).toNatClampNeg)) (gI (tm_end s) 231 ((23 + (k - 156)).toNatClampNeg)) (-1) 100000000000 0).2) ((tm_add (tm_end s) (gI (tm_end s) 231 ((k - 156).toNatClampNeg)) (gJ (tm_end s) 232 ((k - 156).toNatClampNeg)) (gI (tm_end s) 231 ((23 + (k - 156)).toNatClampNeg)) (-1) 100000000000 0).1) (k - 156)).2)))))))))) ∧ (k = 155 → xW (xX0 xs Ls) p73 119 [(0, vr 12 230), (1, vi k)] [] (xhp (tm_end s)) Φ))))) ∧ (k = 152 → ((vp_in ((gI (tm_end s) 230 8) - 1) 4) ∧ Φ (some (vi 0)) (xhp (sI (sI (tm_end s) 230 8 ((gI (tm_end s) 230 8) - 1)) 230 10 ((gI (tm_end s) 234 (((gI (tm_end s) 230 8) - 1).toNatClampNeg)) + 1))))))) ∧ (¬ (k ≤ 165) → Φ (some (vi 1)) (xhp s)))) ∧ (¬ (152 ≤ k) → ((tm_go_ok s k) ∧ Φ (some (vi ((tm_go s k).1))) (xhp ((tm_go s k).2)))))) ∧ (¬ (136 ≤ k) → Φ (some (vi 0)) (xhp (sI s 230 10 ((gI s 230 10) + 1)))))) ∧ (¬ (128 ≤ k) → ((tm_key_ok s k) ∧ Φ (some (vi ((tm_key s k).1))) (xhp (sI ((tm_key s k).2) 230 10 ((gI ((tm_key s k).2) 230 10) + 1))))))) : xW (xX0 xs Ls) p73 0 [(0, vr 12 230), (1, vi k)] [] (xhp s) Φ := by
  refine xW.br (c := 128 ≤ k) (pc1 := 25) (L1 := [(0, vr 12 230), (1, vi k)]) (st1 := []) (h1 := xhp s) (pc2 := 7) (L2 := [(0, vr 12 230), (1, vi k)]) (st2 := []) (h2 := xhp s) 3 (fun _ _ _ _ => rfl) (fun hc => ?_) (fun hc => ?_)
  · replace g := g.1 hc
    refine xW.br (c := 136 ≤ k) (pc1 := 44) (L1 := [(0, vr 12 230), (1, vi k)]) (st1 := []) (h1 := xhp s) (pc2 := 32) (L2 := [(0, vr 12 230), (1, vi k)]) (st2 := []) (h2 := xhp s) 3 (fun _ _ _ _ => rfl) (fun hc => ?_) (fun hc => ?_)
    · replace g := g.1 hc
      refine xW.br (c := 152 ≤ k) (pc1 := 57) (L1 := [(0, vr 12 230), (1, vi k)]) (st1 := []) (h1 := xhp s) (pc2 := 51) (L2 := [(0, vr 12 230), (1, vi k)]) (st2 := []) (h2 := xhp s) 3 (fun _ _ _ _ => rfl) (fun hc => ?_) (fun hc => ?_)
      · replace g := g.1 hc
        refine xW.br (c := k ≤ 165) (pc1 := 66) (L1 := [(0, vr 12 230), (1, vi k)]) (st1 := []) (h1 := xhp s) (pc2 := 64) (L2 := [(0, vr 12 230), (1, vi k)]) (st2 := []) (h2 := xhp s) 3 (fun _ _ _ _ => rfl) (fun hc => ?_) (fun hc => ?_)
        · replace g := g.1 hc
          refine xW.call (y := 54) (as := [vr 12 230]) (h0 := xhp s) (pc0 := 67) (len := 3) (L0 := [(0, vr 12 230), (1, vi k)]) (rest := []) 2 (fun _ _ _ _ => rfl) (m54 _ ?_)
          show xW (xX0 xs Ls) p73 70 [(0, vr 12 230), (1, vi k)] [] (xhp (tm_end s)) Φ
          refine xW.br (c := ¬ k = 152) (pc1 := 105) (L1 := [(0, vr 12 230), (1, vi k)]) (st1 := []) (h1 := xhp (tm_end s)) (pc2 := 77) (L2 := [(0, vr 12 230), (1, vi k)]) (st2 := []) (h2 := xhp (tm_end s)) 3 (fun _ _ _ _ => rfl) (fun hc => ?_) (fun hc => ?_)
          · replace g := g.1 hc
            refine xW.br (c := k = 154) (pc1 := 119) (L1 := [(0, vr 12 230), (1, vi k)]) (st1 := []) (h1 := xhp (tm_end s)) (pc2 := 112) (L2 := [(0, vr 12 230), (1, vi k)]) (st2 := []) (h2 := xhp (tm_end s)) 3 (fun _ _ _ _ => rfl) (fun hc => ?_) (fun hc => ?_)
            · replace g := g.1 hc
              exact g
            · replace g := g.2 hc
              refine xW.br (c := ¬ k = 155) (pc1 := 166) (L1 := [(0, vr 12 230), (1, vi k)]) (st1 := []) (h1 := xhp (tm_end s)) (pc2 := 119) (L2 := [(0, vr 12 230), (1, vi k)]) (st2 := []) (h2 := xhp (tm_end s)) 3 (fun _ _ _ _ => rfl) (fun hc => ?_) (fun hc => ?_)
              · replace g := g.1 hc
                refine xW.side (c := vp_in (k - 156) 640) (pc1 := 180) (L1 := [(2, vi (k - 156)), (0, vr 12 230), (1, vi k)]) (st1 := [vi (gI (tm_end s) 231 ((k - 156).toNatClampNeg)), vr 12 230, vr 12 230]) (h1 := xhp (tm_end s)) 10 (fun _ _ _ _ => rfl) g.1 ?_
                replace g := g.2
                refine xW.side (c := vp_in (k - 156) 192) (pc1 := 186) (L1 := [(2, vi (k - 156)), (0, vr 12 230), (1, vi k)]) (st1 := [vl (gJ (tm_end s) 232 ((k - 156).toNatClampNeg)), vi (gI (tm_end s) 231 ((k - 156).toNatClampNeg)), vr 12 230, vr 12 230]) (h1 := xhp (tm_end s)) 4 (fun _ _ _ _ => rfl) g.1 ?_
                replace g := g.2
                refine xW.side (c := vp_in (23 + (k - 156)) 640) (pc1 := 195) (L1 := [(2, vi (k - 156)), (0, vr 12 230), (1, vi k)]) (st1 := [vi (gI (tm_end s) 231 ((23 + (k - 156)).toNatClampNeg)), vl (gJ (tm_end s) 232 ((k - 156).toNatClampNeg)), vi (gI (tm_end s) 231 ((k - 156).toNatClampNeg)), vr 12 230, vr 12 230]) (h1 := xhp (tm_end s)) 6 (fun _ _ _ _ => rfl) g.1 ?_
                replace g := g.2
                refine xW.call (y := 38) (as := [vr 12 230, vi (gI (tm_end s) 231 ((k - 156).toNatClampNeg)), vl (gJ (tm_end s) 232 ((k - 156).toNatClampNeg)), vi (gI (tm_end s) 231 ((23 + (k - 156)).toNatClampNeg)), vi (-1), vl 100000000000, vi 0]) (h0 := xhp (tm_end s)) (pc0 := 200) (len := 3) (L0 := [(2, vi (k - 156)), (0, vr 12 230), (1, vi k)]) (rest := [vr 12 230]) 4 (fun _ _ _ _ => rfl) (m38 _ _ _ _ _ _ _ g.1 ?_)
                show xW (xX0 xs Ls) p73 203 [(2, vi (k - 156)), (0, vr 12 230), (1, vi k)] [vi ((tm_add (tm_end s) (gI (tm_end s) 231 ((k - 156).toNatClampNeg)) (gJ (tm_end s) 232 ((k - 156).toNatClampNeg)) (gI (tm_end s) 231 ((23 + (k - 156)).toNatClampNeg)) (-1) 100000000000 0).1), vr 12 230] (xhp ((tm_add (tm_end s) (gI (tm_end s) 231 ((k - 156).toNatClampNeg)) (gJ (tm_end s) 232 ((k - 156).toNatClampNeg)) (gI (tm_end s) 231 ((23 + (k - 156)).toNatClampNeg)) (-1) 100000000000 0).2)) Φ
                replace g := g.2
                refine xW.call (y := 43) (as := [vr 12 230, vi ((tm_add (tm_end s) (gI (tm_end s) 231 ((k - 156).toNatClampNeg)) (gJ (tm_end s) 232 ((k - 156).toNatClampNeg)) (gI (tm_end s) 231 ((23 + (k - 156)).toNatClampNeg)) (-1) 100000000000 0).1), vi (k - 156)]) (h0 := xhp ((tm_add (tm_end s) (gI (tm_end s) 231 ((k - 156).toNatClampNeg)) (gJ (tm_end s) 232 ((k - 156).toNatClampNeg)) (gI (tm_end s) 231 ((23 + (k - 156)).toNatClampNeg)) (-1) 100000000000 0).2)) (pc0 := 204) (len := 3) (L0 := [(2, vi (k - 156)), (0, vr 12 230), (1, vi k)]) (rest := []) 2 (fun _ _ _ _ => rfl) (m43 _ _ _ g.1 ?_)
                show xW (xX0 xs Ls) p73 207 [(2, vi (k - 156)), (0, vr 12 230), (1, vi k)] [vi ((tm_put ((tm_add (tm_end s) (gI (tm_end s) 231 ((k - 156).toNatClampNeg)) (gJ (tm_end s) 232 ((k - 156).toNatClampNeg)) (gI (tm_end s) 231 ((23 + (k - 156)).toNatClampNeg)) (-1) 100000000000 0).2) ((tm_add (tm_end s) (gI (tm_end s) 231 ((k - 156).toNatClampNeg)) (gJ (tm_end s) 232 ((k - 156).toNatClampNeg)) (gI (tm_end s) 231 ((23 + (k - 156)).toNatClampNeg)) (-1) 100000000000 0).1) (k - 156)).1)] (xhp ((tm_put ((tm_add (tm_end s) (gI (tm_end s) 231 ((k - 156).toNatClampNeg)) (gJ (tm_end s) 232 ((k - 156).toNatClampNeg)) (gI (tm_end s) 231 ((23 + (k - 156)).toNatClampNeg)) (-1) 100000000000 0).2) ((tm_add (tm_end s) (gI (tm_end s) 231 ((k - 156).toNatClampNeg)) (gJ (tm_end s) 232 ((k - 156).toNatClampNeg)) (gI (tm_end s) 231 ((23 + (k - 156)).toNatClampNeg)) (-1) 100000000000 0).1) (k - 156)).2)) Φ
                replace g := g.2
                refine xW.br (c := (tm_put ((tm_add (tm_end s) (gI (tm_end s) 231 ((k - 156).toNatClampNeg)) (gJ (tm_end s) 232 ((k - 156).toNatClampNeg)) (gI (tm_end s) 231 ((23 + (k - 156)).toNatClampNeg)) (-1) 100000000000 0).2) ((tm_add (tm_end s) (gI (tm_end s) 231 ((k - 156).toNatClampNeg)) (gJ (tm_end s) 232 ((k - 156).toNatClampNeg)) (gI (tm_end s) 231 ((23 + (k - 156)).toNatClampNeg)) (-1) 100000000000 0).1) (k - 156)).1 ≤ 0) (pc1 := 214) (L1 := [(3, vi ((tm_put ((tm_add (tm_end s) (gI (tm_end s) 231 ((k - 156).toNatClampNeg)) (gJ (tm_end s) 232 ((k - 156).toNatClampNeg)) (gI (tm_end s) 231 ((23 + (k - 156)).toNatClampNeg)) (-1) 100000000000 0).2) ((tm_add (tm_end s) (gI (tm_end s) 231 ((k - 156).toNatClampNeg)) (gJ (tm_end s) 232 ((k - 156).toNatClampNeg)) (gI (tm_end s) 231 ((23 + (k - 156)).toNatClampNeg)) (-1) 100000000000 0).1) (k - 156)).1)), (2, vi (k - 156)), (0, vr 12 230), (1, vi k)]) (st1 := []) (h1 := xhp ((tm_put ((tm_add (tm_end s) (gI (tm_end s) 231 ((k - 156).toNatClampNeg)) (gJ (tm_end s) 232 ((k - 156).toNatClampNeg)) (gI (tm_end s) 231 ((23 + (k - 156)).toNatClampNeg)) (-1) 100000000000 0).2) ((tm_add (tm_end s) (gI (tm_end s) 231 ((k - 156).toNatClampNeg)) (gJ (tm_end s) 232 ((k - 156).toNatClampNeg)) (gI (tm_end s) 231 ((23 + (k - 156)).toNatClampNeg)) (-1) 100000000000 0).1) (k - 156)).2)) (pc2 := 212) (L2 := [(3, vi ((tm_put ((tm_add (tm_end s) (gI (tm_end s) 231 ((k - 156).toNatClampNeg)) (gJ (tm_end s) 232 ((k - 156).toNatClampNeg)) (gI (tm_end s) 231 ((23 + (k - 156)).toNatClampNeg)) (-1) 100000000000 0).2) ((tm_add (tm_end s) (gI (tm_end s) 231 ((k - 156).toNatClampNeg)) (gJ (tm_end s) 232 ((k - 156).toNatClampNeg)) (gI (tm_end s) 231 ((23 + (k - 156)).toNatClampNeg)) (-1) 100000000000 0).1) (k - 156)).1)), (2, vi (k - 156)), (0, vr 12 230), (1, vi k)]) (st2 := []) (h2 := xhp ((tm_put ((tm_add (tm_end s) (gI (tm_end s) 231 ((k - 156).toNatClampNeg)) (gJ (tm_end s) 232 ((k - 156).toNatClampNeg)) (gI (tm_end s) 231 ((23 + (k - 156)).toNatClampNeg)) (-1) 100000000000 0).2) ((tm_add (tm_end s) (gI (tm_end s) 231 ((k - 156).toNatClampNeg)) (gJ (tm_end s) 232 ((k - 156).toNatClampNeg)) (gI (tm_end s) 231 ((23 + (k - 156)).toNatClampNeg)) (-1) 100000000000 0).1) (k - 156)).2)) 3 (fun _ _ _ _ => rfl) (fun hc => ?_) (fun hc => ?_)
                · replace g := g.1 hc
                  refine xW.side (c := vp_in (k - 156) 640) (pc1 := 221) (L1 := [(3, vi ((tm_put ((tm_add (tm_end s) (gI (tm_end s) 231 ((k - 156).toNatClampNeg)) (gJ (tm_end s) 232 ((k - 156).toNatClampNeg)) (gI (tm_end s) 231 ((23 + (k - 156)).toNatClampNeg)) (-1) 100000000000 0).2) ((tm_add (tm_end s) (gI (tm_end s) 231 ((k - 156).toNatClampNeg)) (gJ (tm_end s) 232 ((k - 156).toNatClampNeg)) (gI (tm_end s) 231 ((23 + (k - 156)).toNatClampNeg)) (-1) 100000000000 0).1) (k - 156)).1)), (2, vi (k - 156)), (0, vr 12 230), (1, vi k)]) (st1 := [vi (gI ((tm_put ((tm_add (tm_end s) (gI (tm_end s) 231 ((k - 156).toNatClampNeg)) (gJ (tm_end s) 232 ((k - 156).toNatClampNeg)) (gI (tm_end s) 231 ((23 + (k - 156)).toNatClampNeg)) (-1) 100000000000 0).2) ((tm_add (tm_end s) (gI (tm_end s) 231 ((k - 156).toNatClampNeg)) (gJ (tm_end s) 232 ((k - 156).toNatClampNeg)) (gI (tm_end s) 231 ((23 + (k - 156)).toNatClampNeg)) (-1) 100000000000 0).1) (k - 156)).2) 231 ((k - 156).toNatClampNeg)), vr 12 230]) (h1 := xhp ((tm_put ((tm_add (tm_end s) (gI (tm_end s) 231 ((k - 156).toNatClampNeg)) (gJ (tm_end s) 232 ((k - 156).toNatClampNeg)) (gI (tm_end s) 231 ((23 + (k - 156)).toNatClampNeg)) (-1) 100000000000 0).2) ((tm_add (tm_end s) (gI (tm_end s) 231 ((k - 156).toNatClampNeg)) (gJ (tm_end s) 232 ((k - 156).toNatClampNeg)) (gI (tm_end s) 231 ((23 + (k - 156)).toNatClampNeg)) (-1) 100000000000 0).1) (k - 156)).2)) 5 (fun _ _ _ _ => rfl) g.1 ?_
                  replace g := g.2
                  suffices J : xW (xX0 xs Ls) p73 229 [(3, vi ((tm_put ((tm_add (tm_end s) (gI (tm_end s) 231 ((k - 156).toNatClampNeg)) (gJ (tm_end s) 232 ((k - 156).toNatClampNeg)) (gI (tm_end s) 231 ((23 + (k - 156)).toNatClampNeg)) (-1) 100000000000 0).2) ((tm_add (tm_end s) (gI (tm_end s) 231 ((k - 156).toNatClampNeg)) (gJ (tm_end s) 232 ((k - 156).toNatClampNeg)) (gI (tm_end s) 231 ((23 + (k - 156)).toNatClampNeg)) (-1) 100000000000 0).1) (k - 156)).1)), (2, vi (k - 156)), (0, vr 12 230), (1, vi k)] [vi (zb (!decide ((gI ((tm_put ((tm_add (tm_end s) (gI (tm_end s) 231 ((k - 156).toNatClampNeg)) (gJ (tm_end s) 232 ((k - 156).toNatClampNeg)) (gI (tm_end s) 231 ((23 + (k - 156)).toNatClampNeg)) (-1) 100000000000 0).2) ((tm_add (tm_end s) (gI (tm_end s) 231 ((k - 156).toNatClampNeg)) (gJ (tm_end s) 232 ((k - 156).toNatClampNeg)) (gI (tm_end s) 231 ((23 + (k - 156)).toNatClampNeg)) (-1) 100000000000 0).1) (k - 156)).2) 231 ((k - 156).toNatClampNeg)) ≤ 0))), vr 12 230] (xhp ((tm_put ((tm_add (tm_end s) (gI (tm_end s) 231 ((k - 156).toNatClampNeg)) (gJ (tm_end s) 232 ((k - 156).toNatClampNeg)) (gI (tm_end s) 231 ((23 + (k - 156)).toNatClampNeg)) (-1) 100000000000 0).2) ((tm_add (tm_end s) (gI (tm_end s) 231 ((k - 156).toNatClampNeg)) (gJ (tm_end s) 232 ((k - 156).toNatClampNeg)) (gI (tm_end s) 231 ((23 + (k - 156)).toNatClampNeg)) (-1) 100000000000 0).1) (k - 156)).2)) Φ by
                    refine xW.br (c := (gI ((tm_put ((tm_add (tm_end s) (gI (tm_end s) 231 ((k - 156).toNatClampNeg)) (gJ (tm_end s) 232 ((k - 156).toNatClampNeg)) (gI (tm_end s) 231 ((23 + (k - 156)).toNatClampNeg)) (-1) 100000000000 0).2) ((tm_add (tm_end s) (gI (tm_end s) 231 ((k - 156).toNatClampNeg)) (gJ (tm_end s) 232 ((k - 156).toNatClampNeg)) (gI (tm_end s) 231 ((23 + (k - 156)).toNatClampNeg)) (-1) 100000000000 0).1) (k - 156)).2) 231 ((k - 156).toNatClampNeg)) ≤ 0) (pc1 := 228) (L1 := [(3, vi ((tm_put ((tm_add (tm_end s) (gI (tm_end s) 231 ((k - 156).toNatClampNeg)) (gJ (tm_end s) 232 ((k - 156).toNatClampNeg)) (gI (tm_end s) 231 ((23 + (k - 156)).toNatClampNeg)) (-1) 100000000000 0).2) ((tm_add (tm_end s) (gI (tm_end s) 231 ((k - 156).toNatClampNeg)) (gJ (tm_end s) 232 ((k - 156).toNatClampNeg)) (gI (tm_end s) 231 ((23 + (k - 156)).toNatClampNeg)) (-1) 100000000000 0).1) (k - 156)).1)), (2, vi (k - 156)), (0, vr 12 230), (1, vi k)]) (st1 := [vr 12 230]) (h1 := xhp ((tm_put ((tm_add (tm_end s) (gI (tm_end s) 231 ((k - 156).toNatClampNeg)) (gJ (tm_end s) 232 ((k - 156).toNatClampNeg)) (gI (tm_end s) 231 ((23 + (k - 156)).toNatClampNeg)) (-1) 100000000000 0).2) ((tm_add (tm_end s) (gI (tm_end s) 231 ((k - 156).toNatClampNeg)) (gJ (tm_end s) 232 ((k - 156).toNatClampNeg)) (gI (tm_end s) 231 ((23 + (k - 156)).toNatClampNeg)) (-1) 100000000000 0).1) (k - 156)).2)) (pc2 := 224) (L2 := [(3, vi ((tm_put ((tm_add (tm_end s) (gI (tm_end s) 231 ((k - 156).toNatClampNeg)) (gJ (tm_end s) 232 ((k - 156).toNatClampNeg)) (gI (tm_end s) 231 ((23 + (k - 156)).toNatClampNeg)) (-1) 100000000000 0).2) ((tm_add (tm_end s) (gI (tm_end s) 231 ((k - 156).toNatClampNeg)) (gJ (tm_end s) 232 ((k - 156).toNatClampNeg)) (gI (tm_end s) 231 ((23 + (k - 156)).toNatClampNeg)) (-1) 100000000000 0).1) (k - 156)).1)), (2, vi (k - 156)), (0, vr 12 230), (1, vi k)]) (st2 := [vr 12 230]) (h2 := xhp ((tm_put ((tm_add (tm_end s) (gI (tm_end s) 231 ((k - 156).toNatClampNeg)) (gJ (tm_end s) 232 ((k - 156).toNatClampNeg)) (gI (tm_end s) 231 ((23 + (k - 156)).toNatClampNeg)) (-1) 100000000000 0).2) ((tm_add (tm_end s) (gI (tm_end s) 231 ((k - 156).toNatClampNeg)) (gJ (tm_end s) 232 ((k - 156).toNatClampNeg)) (gI (tm_end s) 231 ((23 + (k - 156)).toNatClampNeg)) (-1) 100000000000 0).1) (k - 156)).2)) 1 (fun _ _ _ _ => rfl) (fun hc => ?_) (fun hc => ?_)
                    · have hc1 : (gI ((tm_put ((tm_add (tm_end s) (gI (tm_end s) 231 ((k - 156).toNatClampNeg)) (gJ (tm_end s) 232 ((k - 156).toNatClampNeg)) (gI (tm_end s) 231 ((23 + (k - 156)).toNatClampNeg)) (-1) 100000000000 0).2) ((tm_add (tm_end s) (gI (tm_end s) 231 ((k - 156).toNatClampNeg)) (gJ (tm_end s) 232 ((k - 156).toNatClampNeg)) (gI (tm_end s) 231 ((23 + (k - 156)).toNatClampNeg)) (-1) 100000000000 0).1) (k - 156)).2) 231 ((k - 156).toNatClampNeg)) ≤ 0 := hc
                      refine xW.seg (pc1 := 229) (L1 := [(3, vi ((tm_put ((tm_add (tm_end s) (gI (tm_end s) 231 ((k - 156).toNatClampNeg)) (gJ (tm_end s) 232 ((k - 156).toNatClampNeg)) (gI (tm_end s) 231 ((23 + (k - 156)).toNatClampNeg)) (-1) 100000000000 0).2) ((tm_add (tm_end s) (gI (tm_end s) 231 ((k - 156).toNatClampNeg)) (gJ (tm_end s) 232 ((k - 156).toNatClampNeg)) (gI (tm_end s) 231 ((23 + (k - 156)).toNatClampNeg)) (-1) 100000000000 0).1) (k - 156)).1)), (2, vi (k - 156)), (0, vr 12 230), (1, vi k)]) (st1 := [vi 0, vr 12 230]) (h1 := xhp ((tm_put ((tm_add (tm_end s) (gI (tm_end s) 231 ((k - 156).toNatClampNeg)) (gJ (tm_end s) 232 ((k - 156).toNatClampNeg)) (gI (tm_end s) 231 ((23 + (k - 156)).toNatClampNeg)) (-1) 100000000000 0).2) ((tm_add (tm_end s) (gI (tm_end s) 231 ((k - 156).toNatClampNeg)) (gJ (tm_end s) 232 ((k - 156).toNatClampNeg)) (gI (tm_end s) 231 ((23 + (k - 156)).toNatClampNeg)) (-1) 100000000000 0).1) (k - 156)).2)) 1 (fun _ _ _ _ => rfl) ?_
                      refine xW.to (v := vi (zb (!decide ((gI ((tm_put ((tm_add (tm_end s) (gI (tm_end s) 231 ((k - 156).toNatClampNeg)) (gJ (tm_end s) 232 ((k - 156).toNatClampNeg)) (gI (tm_end s) 231 ((23 + (k - 156)).toNatClampNeg)) (-1) 100000000000 0).2) ((tm_add (tm_end s) (gI (tm_end s) 231 ((k - 156).toNatClampNeg)) (gJ (tm_end s) 232 ((k - 156).toNatClampNeg)) (gI (tm_end s) 231 ((23 + (k - 156)).toNatClampNeg)) (-1) 100000000000 0).1) (k - 156)).2) 231 ((k - 156).toNatClampNeg)) ≤ 0)))) (zb_f (by simp only [decide_eq_true hc1, Bool.true_or, Bool.or_true, Bool.false_or, Bool.or_false, Bool.true_and, Bool.and_true, Bool.false_and, Bool.and_false, Bool.not_true, Bool.not_false, cond_true, cond_false])) ?_
                      exact J
                    · have hc1 : ¬ ((gI ((tm_put ((tm_add (tm_end s) (gI (tm_end s) 231 ((k - 156).toNatClampNeg)) (gJ (tm_end s) 232 ((k - 156).toNatClampNeg)) (gI (tm_end s) 231 ((23 + (k - 156)).toNatClampNeg)) (-1) 100000000000 0).2) ((tm_add (tm_end s) (gI (tm_end s) 231 ((k - 156).toNatClampNeg)) (gJ (tm_end s) 232 ((k - 156).toNatClampNeg)) (gI (tm_end s) 231 ((23 + (k - 156)).toNatClampNeg)) (-1) 100000000000 0).1) (k - 156)).2) 231 ((k - 156).toNatClampNeg)) ≤ 0) := hc
                      refine xW.seg (pc1 := 229) (L1 := [(3, vi ((tm_put ((tm_add (tm_end s) (gI (tm_end s) 231 ((k - 156).toNatClampNeg)) (gJ (tm_end s) 232 ((k - 156).toNatClampNeg)) (gI (tm_end s) 231 ((23 + (k - 156)).toNatClampNeg)) (-1) 100000000000 0).2) ((tm_add (tm_end s) (gI (tm_end s) 231 ((k - 156).toNatClampNeg)) (gJ (tm_end s) 232 ((k - 156).toNatClampNeg)) (gI (tm_end s) 231 ((23 + (k - 156)).toNatClampNeg)) (-1) 100000000000 0).1) (k - 156)).1)), (2, vi (k - 156)), (0, vr 12 230), (1, vi k)]) (st1 := [vi 1, vr 12 230]) (h1 := xhp ((tm_put ((tm_add (tm_end s) (gI (tm_end s) 231 ((k - 156).toNatClampNeg)) (gJ (tm_end s) 232 ((k - 156).toNatClampNeg)) (gI (tm_end s) 231 ((23 + (k - 156)).toNatClampNeg)) (-1) 100000000000 0).2) ((tm_add (tm_end s) (gI (tm_end s) 231 ((k - 156).toNatClampNeg)) (gJ (tm_end s) 232 ((k - 156).toNatClampNeg)) (gI (tm_end s) 231 ((23 + (k - 156)).toNatClampNeg)) (-1) 100000000000 0).1) (k - 156)).2)) 2 (fun _ _ _ _ => rfl) ?_
                      refine xW.to (v := vi (zb (!decide ((gI ((tm_put ((tm_add (tm_end s) (gI (tm_end s) 231 ((k - 156).toNatClampNeg)) (gJ (tm_end s) 232 ((k - 156).toNatClampNeg)) (gI (tm_end s) 231 ((23 + (k - 156)).toNatClampNeg)) (-1) 100000000000 0).2) ((tm_add (tm_end s) (gI (tm_end s) 231 ((k - 156).toNatClampNeg)) (gJ (tm_end s) 232 ((k - 156).toNatClampNeg)) (gI (tm_end s) 231 ((23 + (k - 156)).toNatClampNeg)) (-1) 100000000000 0).1) (k - 156)).2) 231 ((k - 156).toNatClampNeg)) ≤ 0)))) (zb_t (by simp only [decide_eq_false hc1, Bool.true_or, Bool.or_true, Bool.false_or, Bool.or_false, Bool.true_and, Bool.and_true, Bool.false_and, Bool.and_false, Bool.not_true, Bool.not_false, cond_true, cond_false])) ?_
                      exact J
                  refine xW.call (y := 71) (as := [vr 12 230, vi (zb (!decide ((gI ((tm_put ((tm_add (tm_end s) (gI (tm_end s) 231 ((k - 156).toNatClampNeg)) (gJ (tm_end s) 232 ((k - 156).toNatClampNeg)) (gI (tm_end s) 231 ((23 + (k - 156)).toNatClampNeg)) (-1) 100000000000 0).2) ((tm_add (tm_end s) (gI (tm_end s) 231 ((k - 156).toNatClampNeg)) (gJ (tm_end s) 232 ((k - 156).toNatClampNeg)) (gI (tm_end s) 231 ((23 + (k - 156)).toNatClampNeg)) (-1) 100000000000 0).1) (k - 156)).2) 231 ((k - 156).toNatClampNeg)) ≤ 0)))]) (h0 := xhp ((tm_put ((tm_add (tm_end s) (gI (tm_end s) 231 ((k - 156).toNatClampNeg)) (gJ (tm_end s) 232 ((k - 156).toNatClampNeg)) (gI (tm_end s) 231 ((23 + (k - 156)).toNatClampNeg)) (-1) 100000000000 0).2) ((tm_add (tm_end s) (gI (tm_end s) 231 ((k - 156).toNatClampNeg)) (gJ (tm_end s) 232 ((k - 156).toNatClampNeg)) (gI (tm_end s) 231 ((23 + (k - 156)).toNatClampNeg)) (-1) 100000000000 0).1) (k - 156)).2)) (pc0 := 229) (len := 3) (L0 := [(3, vi ((tm_put ((tm_add (tm_end s) (gI (tm_end s) 231 ((k - 156).toNatClampNeg)) (gJ (tm_end s) 232 ((k - 156).toNatClampNeg)) (gI (tm_end s) 231 ((23 + (k - 156)).toNatClampNeg)) (-1) 100000000000 0).2) ((tm_add (tm_end s) (gI (tm_end s) 231 ((k - 156).toNatClampNeg)) (gJ (tm_end s) 232 ((k - 156).toNatClampNeg)) (gI (tm_end s) 231 ((23 + (k - 156)).toNatClampNeg)) (-1) 100000000000 0).1) (k - 156)).1)), (2, vi (k - 156)), (0, vr 12 230), (1, vi k)]) (rest := []) 1 (fun _ _ _ _ => rfl) (m71 _ _ ?_)
                  show xW (xX0 xs Ls) p73 232 [(3, vi ((tm_put ((tm_add (tm_end s) (gI (tm_end s) 231 ((k - 156).toNatClampNeg)) (gJ (tm_end s) 232 ((k - 156).toNatClampNeg)) (gI (tm_end s) 231 ((23 + (k - 156)).toNatClampNeg)) (-1) 100000000000 0).2) ((tm_add (tm_end s) (gI (tm_end s) 231 ((k - 156).toNatClampNeg)) (gJ (tm_end s) 232 ((k - 156).toNatClampNeg)) (gI (tm_end s) 231 ((23 + (k - 156)).toNatClampNeg)) (-1) 100000000000 0).1) (k - 156)).1)), (2, vi (k - 156)), (0, vr 12 230), (1, vi k)] [] (xhp (tm_test ((tm_put ((tm_add (tm_end s) (gI (tm_end s) 231 ((k - 156).toNatClampNeg)) (gJ (tm_end s) 232 ((k - 156).toNatClampNeg)) (gI (tm_end s) 231 ((23 + (k - 156)).toNatClampNeg)) (-1) 100000000000 0).2) ((tm_add (tm_end s) (gI (tm_end s) 231 ((k - 156).toNatClampNeg)) (gJ (tm_end s) 232 ((k - 156).toNatClampNeg)) (gI (tm_end s) 231 ((23 + (k - 156)).toNatClampNeg)) (-1) 100000000000 0).1) (k - 156)).2) (zb (!decide ((gI ((tm_put ((tm_add (tm_end s) (gI (tm_end s) 231 ((k - 156).toNatClampNeg)) (gJ (tm_end s) 232 ((k - 156).toNatClampNeg)) (gI (tm_end s) 231 ((23 + (k - 156)).toNatClampNeg)) (-1) 100000000000 0).2) ((tm_add (tm_end s) (gI (tm_end s) 231 ((k - 156).toNatClampNeg)) (gJ (tm_end s) 232 ((k - 156).toNatClampNeg)) (gI (tm_end s) 231 ((23 + (k - 156)).toNatClampNeg)) (-1) 100000000000 0).1) (k - 156)).2) 231 ((k - 156).toNatClampNeg)) ≤ 0))))) Φ
                  exact xW.ret (v0 := some (vi 0)) (h1 := xhp (tm_test ((tm_put ((tm_add (tm_end s) (gI (tm_end s) 231 ((k - 156).toNatClampNeg)) (gJ (tm_end s) 232 ((k - 156).toNatClampNeg)) (gI (tm_end s) 231 ((23 + (k - 156)).toNatClampNeg)) (-1) 100000000000 0).2) ((tm_add (tm_end s) (gI (tm_end s) 231 ((k - 156).toNatClampNeg)) (gJ (tm_end s) 232 ((k - 156).toNatClampNeg)) (gI (tm_end s) 231 ((23 + (k - 156)).toNatClampNeg)) (-1) 100000000000 0).1) (k - 156)).2) (zb (!decide ((gI ((tm_put ((tm_add (tm_end s) (gI (tm_end s) 231 ((k - 156).toNatClampNeg)) (gJ (tm_end s) 232 ((k - 156).toNatClampNeg)) (gI (tm_end s) 231 ((23 + (k - 156)).toNatClampNeg)) (-1) 100000000000 0).2) ((tm_add (tm_end s) (gI (tm_end s) 231 ((k - 156).toNatClampNeg)) (gJ (tm_end s) 232 ((k - 156).toNatClampNeg)) (gI (tm_end s) 231 ((23 + (k - 156)).toNatClampNeg)) (-1) 100000000000 0).1) (k - 156)).2) 231 ((k - 156).toNatClampNeg)) ≤ 0))))) 2 (fun _ _ _ _ => rfl) g
                · replace g := g.2 hc
                  exact xW.ret (v0 := some (vi ((tm_put ((tm_add (tm_end s) (gI (tm_end s) 231 ((k - 156).toNatClampNeg)) (gJ (tm_end s) 232 ((k - 156).toNatClampNeg)) (gI (tm_end s) 231 ((23 + (k - 156)).toNatClampNeg)) (-1) 100000000000 0).2) ((tm_add (tm_end s) (gI (tm_end s) 231 ((k - 156).toNatClampNeg)) (gJ (tm_end s) 232 ((k - 156).toNatClampNeg)) (gI (tm_end s) 231 ((23 + (k - 156)).toNatClampNeg)) (-1) 100000000000 0).1) (k - 156)).1))) (h1 := xhp ((tm_put ((tm_add (tm_end s) (gI (tm_end s) 231 ((k - 156).toNatClampNeg)) (gJ (tm_end s) 232 ((k - 156).toNatClampNeg)) (gI (tm_end s) 231 ((23 + (k - 156)).toNatClampNeg)) (-1) 100000000000 0).2) ((tm_add (tm_end s) (gI (tm_end s) 231 ((k - 156).toNatClampNeg)) (gJ (tm_end s) 232 ((k - 156).toNatClampNeg)) (gI (tm_end s) 231 ((23 + (k - 156)).toNatClampNeg)) (-1) 100000000000 0).1) (k - 156)).2)) 2 (fun _ _ _ _ => rfl) g
              · replace g := g.2 (Decidable.not_not.mp hc)
                exact g
          · replace g := g.2 (Decidable.not_not.mp hc)
            refine xW.side (c := vp_in ((gI (tm_end s) 230 8) - 1) 4) (pc1 := 97) (L1 := [(0, vr 12 230), (1, vi k)]) (st1 := [vi (gI (tm_end s) 234 (((gI (tm_end s) 230 8) - 1).toNatClampNeg)), vr 12 230]) (h1 := xhp (sI (tm_end s) 230 8 ((gI (tm_end s) 230 8) - 1))) 12 (fun _ _ _ _ => rfl) g.1 ?_
            replace g := g.2
            exact xW.ret (v0 := some (vi 0)) (h1 := xhp (sI (sI (tm_end s) 230 8 ((gI (tm_end s) 230 8) - 1)) 230 10 ((gI (tm_end s) 234 (((gI (tm_end s) 230 8) - 1).toNatClampNeg)) + 1))) 6 (fun _ _ _ _ => rfl) g
        · replace g := g.2 hc
          exact xW.ret (v0 := some (vi 1)) (h1 := xhp s) 2 (fun _ _ _ _ => rfl) g
      · replace g := g.2 hc
        refine xW.call (y := 72) (as := [vr 12 230, vi k]) (h0 := xhp s) (pc0 := 53) (len := 3) (L0 := [(0, vr 12 230), (1, vi k)]) (rest := []) 3 (fun _ _ _ _ => rfl) (m72 _ _ g.1 ?_)
        show xW (xX0 xs Ls) p73 56 [(0, vr 12 230), (1, vi k)] [vi ((tm_go s k).1)] (xhp ((tm_go s k).2)) Φ
        replace g := g.2
        exact xW.ret (v0 := some (vi ((tm_go s k).1))) (h1 := xhp ((tm_go s k).2)) 1 (fun _ _ _ _ => rfl) g
    · replace g := g.2 hc
      exact xW.ret (v0 := some (vi 0)) (h1 := xhp (sI s 230 10 ((gI s 230 10) + 1))) 8 (fun _ _ _ _ => rfl) g
  · replace g := g.2 hc
    refine xW.call (y := 61) (as := [vr 12 230, vi k]) (h0 := xhp s) (pc0 := 9) (len := 3) (L0 := [(0, vr 12 230), (1, vi k)]) (rest := []) 3 (fun _ _ _ _ => rfl) (m61 _ _ g.1 ?_)
    show xW (xX0 xs Ls) p73 12 [(0, vr 12 230), (1, vi k)] [vi ((tm_key s k).1)] (xhp ((tm_key s k).2)) Φ
    replace g := g.2
    exact xW.ret (v0 := some (vi ((tm_key s k).1))) (h1 := xhp (sI ((tm_key s k).2) 230 10 ((gI ((tm_key s k).2) 230 10) + 1))) 9 (fun _ _ _ _ => rfl) g
noncomputable def tm_deed_d (s : xS) (k : Int32) : Int32 × xS := (if 128 ≤ k then (if 136 ≤ k then (if 152 ≤ k then (if k ≤ 165 then (if ¬ k = 152 then (if k = 154 then (tm_deed_119 (tm_end s) k) else (if ¬ k = 155 then (if (tm_put ((tm_add (tm_end s) (gI (tm_end s) 231 ((k - 156).toNatClampNeg)) (gJ (tm_end s) 232 ((k - 156).toNatClampNeg)) (gI (tm_end s) 231 ((23 + (k - 156)).toNatClampNeg)) (-1) 100000000000 0).2) ((tm_add (tm_end s) (gI (tm_end s) 231 ((k - 156).toNatClampNeg)) (gJ (tm_end s) 232 ((k - 156).toNatClampNeg)) (gI (tm_end s) 231 ((23 + (k - 156)).toNatClampNeg)) (-1) 100000000000 0).1) (k - 156)).1 ≤ 0 then (0, (tm_test ((tm_put ((tm_add (tm_end s) (gI (tm_end s) 231 ((k - 156).toNatClampNeg)) (gJ (tm_end s) 232 ((k - 156).toNatClampNeg)) (gI (tm_end s) 231 ((23 + (k - 156)).toNatClampNeg)) (-1) 100000000000 0).2) ((tm_add (tm_end s) (gI (tm_end s) 231 ((k - 156).toNatClampNeg)) (gJ (tm_end s) 232 ((k - 156).toNatClampNeg)) (gI (tm_end s) 231 ((23 + (k - 156)).toNatClampNeg)) (-1) 100000000000 0).1) (k - 156)).2) (zb (!decide ((gI ((tm_put ((tm_add (tm_end s) (gI (tm_end s) 231 ((k - 156).toNatClampNeg)) (gJ (tm_end s) 232 ((k - 156).toNatClampNeg)) (gI (tm_end s) 231 ((23 + (k - 156)).toNatClampNeg)) (-1) 100000000000 0).2) ((tm_add (tm_end s) (gI (tm_end s) 231 ((k - 156).toNatClampNeg)) (gJ (tm_end s) 232 ((k - 156).toNatClampNeg)) (gI (tm_end s) 231 ((23 + (k - 156)).toNatClampNeg)) (-1) 100000000000 0).1) (k - 156)).2) 231 ((k - 156).toNatClampNeg)) ≤ 0))))) else (tm_put ((tm_add (tm_end s) (gI (tm_end s) 231 ((k - 156).toNatClampNeg)) (gJ (tm_end s) 232 ((k - 156).toNatClampNeg)) (gI (tm_end s) 231 ((23 + (k - 156)).toNatClampNeg)) (-1) 100000000000 0).2) ((tm_add (tm_end s) (gI (tm_end s) 231 ((k - 156).toNatClampNeg)) (gJ (tm_end s) 232 ((k - 156).toNatClampNeg)) (gI (tm_end s) 231 ((23 + (k - 156)).toNatClampNeg)) (-1) 100000000000 0).1) (k - 156))) else (tm_deed_119 (tm_end s) k))) else (0, (sI (sI (tm_end s) 230 8 ((gI (tm_end s) 230 8) - 1)) 230 10 ((gI (tm_end s) 234 (((gI (tm_end s) 230 8) - 1).toNatClampNeg)) + 1)))) else (1, s)) else (tm_go s k)) else (0, (sI s 230 10 ((gI s 230 10) + 1)))) else ((tm_key s k).1, (sI ((tm_key s k).2) 230 10 ((gI ((tm_key s k).2) 230 10) + 1))))
noncomputable def tm_deed : xS → Int32 → Int32 × xS := Classical.choose (⟨tm_deed_d, rfl⟩ : ∃ f, f = tm_deed_d)
set_option maxRecDepth 100000 in
theorem tm_deed_eq : tm_deed = tm_deed_d := Classical.choose_spec (⟨tm_deed_d, rfl⟩ : ∃ f, f = tm_deed_d)
def tm_deed_ok (s : xS) (k : Int32) : Prop := ((128 ≤ k → (136 ≤ k → ((152 ≤ k → (k ≤ 165 → ((¬ k = 152 → (¬ (k = 154) → (¬ k = 155 → ((vp_in (k - 156) 640) ∧ ((vp_in (k - 156) 192) ∧ ((vp_in (23 + (k - 156)) 640) ∧ ((tm_add_ok (tm_end s) (gI (tm_end s) 231 ((k - 156).toNatClampNeg)) (gJ (tm_end s) 232 ((k - 156).toNatClampNeg)) (gI (tm_end s) 231 ((23 + (k - 156)).toNatClampNeg)) (-1) 100000000000 0) ∧ ((tm_put_ok ((tm_add (tm_end s) (gI (tm_end s) 231 ((k - 156).toNatClampNeg)) (gJ (tm_end s) 232 ((k - 156).toNatClampNeg)) (gI (tm_end s) 231 ((23 + (k - 156)).toNatClampNeg)) (-1) 100000000000 0).2) ((tm_add (tm_end s) (gI (tm_end s) 231 ((k - 156).toNatClampNeg)) (gJ (tm_end s) 232 ((k - 156).toNatClampNeg)) (gI (tm_end s) 231 ((23 + (k - 156)).toNatClampNeg)) (-1) 100000000000 0).1) (k - 156)) ∧ ((tm_put ((tm_add (tm_end s) (gI (tm_end s) 231 ((k - 156).toNatClampNeg)) (gJ (tm_end s) 232 ((k - 156).toNatClampNeg)) (gI (tm_end s) 231 ((23 + (k - 156)).toNatClampNeg)) (-1) 100000000000 0).2) ((tm_add (tm_end s) (gI (tm_end s) 231 ((k - 156).toNatClampNeg)) (gJ (tm_end s) 232 ((k - 156).toNatClampNeg)) (gI (tm_end s) 231 ((23 + (k - 156)).toNatClampNeg)) (-1) 100000000000 0).1) (k - 156)).1 ≤ 0 → (vp_in (k - 156) 640)))))))))) ∧ (k = 152 → (vp_in ((gI (tm_end s) 230 8) - 1) 4))))) ∧ (¬ (152 ≤ k) → (tm_go_ok s k))))) ∧ (¬ (128 ≤ k) → (tm_key_ok s k)))
set_option maxRecDepth 100000 in
theorem m73 {xs : Nat → Int32} {Ls : Nat} {Ψ : xO → xH → Prop} (s : xS) (k : Int32) (gq : tm_deed_ok s k) (h : Ψ (.inl (some (vi (tm_deed s k).1))) (xhp (tm_deed s k).2)) : xM (xX0 xs Ls) 73 [vr 12 230, vi k] (xhp s) Ψ := by
  rw [tm_deed_eq] at h
  unfold tm_deed_d at h
  unfold tm_deed_ok at gq
  exact xM.of (P := p73) rfl rfl rfl (b73_0 s k (⟨fun hc => by rw [if_pos hc] at h; replace gq := gq.1 hc; exact ⟨fun hc => by rw [if_pos hc] at h; replace gq := gq hc; exact ⟨fun hc => by rw [if_pos hc] at h; replace gq := gq.1 hc; exact ⟨fun hc => by rw [if_pos hc] at h; replace gq := gq hc; exact ⟨fun hc => by rw [if_pos hc] at h; replace gq := gq.1 hc; exact ⟨fun hc => by rw [if_pos hc] at h; exact n73_119 _ _ h, fun hc => by rw [if_neg hc] at h; replace gq := gq hc; exact ⟨fun hc => by rw [if_pos hc] at h; replace gq := gq hc; exact ⟨gq.1, by replace gq := gq.2; exact ⟨gq.1, by replace gq := gq.2; exact ⟨gq.1, by replace gq := gq.2; exact ⟨gq.1, by replace gq := gq.2; exact ⟨gq.1, by replace gq := gq.2; exact ⟨fun hc => by rw [if_pos hc] at h; replace gq := gq hc; exact ⟨gq, (by (try dsimp only at h); exact h)⟩, fun hc => by rw [if_neg hc] at h; exact (by (try dsimp only at h); exact h)⟩⟩⟩⟩⟩⟩, fun hc => by rw [if_neg (fun z => z hc)] at h; exact n73_119 _ _ h⟩⟩, fun hc => by rw [if_neg (fun z => z hc)] at h; replace gq := gq.2 hc; exact ⟨gq, (by (try dsimp only at h); exact h)⟩⟩, fun hc => by rw [if_neg hc] at h; exact (by (try dsimp only at h); exact h)⟩, fun hc => by rw [if_neg hc] at h; replace gq := gq.2 hc; exact ⟨gq, (by (try dsimp only at h); exact h)⟩⟩, fun hc => by rw [if_neg hc] at h; exact (by (try dsimp only at h); exact h)⟩, fun hc => by rw [if_neg hc] at h; replace gq := gq.2 hc; exact ⟨gq, (by (try dsimp only at h); exact h)⟩⟩))
/-! tm_fail -/
theorem b75_0 {xs : Nat → Int32} {Ls : Nat} {Φ : Option xV → xH → Prop} (s : xS) (b : Int32) (g : ((¬ (gI s 230 9) = 2 → Φ none (xhp (sI (sI s 230 9 0) 230 5 b))) ∧ ((gI s 230 9) = 2 → ((tm_copy_ok s 7 0) ∧ Φ none (xhp (sI (sI (tm_copy s 7 0) 230 9 0) 230 5 b)))))) : xW (xX0 xs Ls) p75 0 [(0, vr 12 230), (1, vi b)] [] (xhp s) Φ := by
  refine xW.br (c := ¬ (gI s 230 9) = 2) (pc1 := 15) (L1 := [(0, vr 12 230), (1, vi b)]) (st1 := []) (h1 := xhp s) (pc2 := 8) (L2 := [(0, vr 12 230), (1, vi b)]) (st2 := []) (h2 := xhp s) 4 (fun _ _ _ _ => rfl) (fun hc => ?_) (fun hc => ?_)
  · replace g := g.1 hc
    exact xW.ret (v0 := none) (h1 := xhp (sI (sI s 230 9 0) 230 5 b)) 7 (fun _ _ _ _ => rfl) g
  · replace g := g.2 (Decidable.not_not.mp hc)
    refine xW.call (y := 44) (as := [vr 12 230, vi 7, vi 0]) (h0 := xhp s) (pc0 := 12) (len := 3) (L0 := [(0, vr 12 230), (1, vi b)]) (rest := []) 4 (fun _ _ _ _ => rfl) (m44 _ _ _ g.1 ?_)
    show xW (xX0 xs Ls) p75 15 [(0, vr 12 230), (1, vi b)] [] (xhp (tm_copy s 7 0)) Φ
    replace g := g.2
    exact xW.ret (v0 := none) (h1 := xhp (sI (sI (tm_copy s 7 0) 230 9 0) 230 5 b)) 7 (fun _ _ _ _ => rfl) g
noncomputable def tm_fail_d (s : xS) (b : Int32) : xS := (if ¬ (gI s 230 9) = 2 then (sI (sI s 230 9 0) 230 5 b) else (sI (sI (tm_copy s 7 0) 230 9 0) 230 5 b))
noncomputable def tm_fail : xS → Int32 → xS := Classical.choose (⟨tm_fail_d, rfl⟩ : ∃ f, f = tm_fail_d)
set_option maxRecDepth 100000 in
theorem tm_fail_eq : tm_fail = tm_fail_d := Classical.choose_spec (⟨tm_fail_d, rfl⟩ : ∃ f, f = tm_fail_d)
def tm_fail_ok (s : xS) (b : Int32) : Prop := ((gI s 230 9) = 2 → (tm_copy_ok s 7 0))
set_option maxRecDepth 100000 in
theorem m75 {xs : Nat → Int32} {Ls : Nat} {Ψ : xO → xH → Prop} (s : xS) (b : Int32) (gq : tm_fail_ok s b) (h : Ψ (.inl none) (xhp (tm_fail s b))) : xM (xX0 xs Ls) 75 [vr 12 230, vi b] (xhp s) Ψ := by
  rw [tm_fail_eq] at h
  unfold tm_fail_d at h
  unfold tm_fail_ok at gq
  exact xM.of (P := p75) rfl rfl rfl (b75_0 s b (⟨fun hc => by rw [if_pos hc] at h; exact h, fun hc => by rw [if_neg (fun z => z hc)] at h; replace gq := gq hc; exact ⟨gq, h⟩⟩))
/-! tm_note -/
theorem b76_0 {xs : Nat → Int32} {Ls : Nat} {Φ : Option xV → xH → Prop} (s : xS) (i : Int32) (k : Int32) (g : ((vp_in i 640) ∧ ((vp_in k 5) ∧ ((vp_in i 192) ∧ ((vp_in k 5) ∧ ((vp_in (23 + i) 640) ∧ ((vp_in k 5) ∧ Φ none (xhp (sI (sJ (sI s 235 k.toNatClampNeg (gI s 231 i.toNatClampNeg)) 236 k.toNatClampNeg (gJ s 232 i.toNatClampNeg)) 237 k.toNatClampNeg (gI s 231 ((23 + i).toNatClampNeg))))))))))) : xW (xX0 xs Ls) p76 0 [(0, vr 12 230), (1, vi i), (2, vi k)] [] (xhp s) Φ := by
  refine xW.side (c := vp_in i 640) (pc1 := 11) (L1 := [(0, vr 12 230), (1, vi i), (2, vi k)]) (st1 := [vi (gI s 231 i.toNatClampNeg), vi k, vr 40 235]) (h1 := xhp s) 7 (fun _ _ _ _ => rfl) g.1 ?_
  replace g := g.2
  refine xW.side (c := vp_in k 5) (pc1 := 12) (L1 := [(0, vr 12 230), (1, vi i), (2, vi k)]) (st1 := []) (h1 := xhp (sI s 235 k.toNatClampNeg (gI s 231 i.toNatClampNeg))) 1 (fun _ _ _ _ => rfl) g.1 ?_
  replace g := g.2
  refine xW.side (c := vp_in i 192) (pc1 := 23) (L1 := [(0, vr 12 230), (1, vi i), (2, vi k)]) (st1 := [vl (gJ s 232 i.toNatClampNeg), vi k, vr 41 236]) (h1 := xhp (sI s 235 k.toNatClampNeg (gI s 231 i.toNatClampNeg))) 7 (fun _ _ _ _ => rfl) g.1 ?_
  replace g := g.2
  refine xW.side (c := vp_in k 5) (pc1 := 24) (L1 := [(0, vr 12 230), (1, vi i), (2, vi k)]) (st1 := []) (h1 := xhp (sJ (sI s 235 k.toNatClampNeg (gI s 231 i.toNatClampNeg)) 236 k.toNatClampNeg (gJ s 232 i.toNatClampNeg))) 1 (fun _ _ _ _ => rfl) g.1 ?_
  replace g := g.2
  refine xW.side (c := vp_in (23 + i) 640) (pc1 := 38) (L1 := [(0, vr 12 230), (1, vi i), (2, vi k)]) (st1 := [vi (gI s 231 ((23 + i).toNatClampNeg)), vi k, vr 40 237]) (h1 := xhp (sJ (sI s 235 k.toNatClampNeg (gI s 231 i.toNatClampNeg)) 236 k.toNatClampNeg (gJ s 232 i.toNatClampNeg))) 9 (fun _ _ _ _ => rfl) g.1 ?_
  replace g := g.2
  refine xW.side (c := vp_in k 5) (pc1 := 39) (L1 := [(0, vr 12 230), (1, vi i), (2, vi k)]) (st1 := []) (h1 := xhp (sI (sJ (sI s 235 k.toNatClampNeg (gI s 231 i.toNatClampNeg)) 236 k.toNatClampNeg (gJ s 232 i.toNatClampNeg)) 237 k.toNatClampNeg (gI s 231 ((23 + i).toNatClampNeg)))) 1 (fun _ _ _ _ => rfl) g.1 ?_
  replace g := g.2
  exact xW.ret (v0 := none) (h1 := xhp (sI (sJ (sI s 235 k.toNatClampNeg (gI s 231 i.toNatClampNeg)) 236 k.toNatClampNeg (gJ s 232 i.toNatClampNeg)) 237 k.toNatClampNeg (gI s 231 ((23 + i).toNatClampNeg)))) 1 (fun _ _ _ _ => rfl) g
noncomputable def tm_note_d (s : xS) (i : Int32) (k : Int32) : xS := (sI (sJ (sI s 235 k.toNatClampNeg (gI s 231 i.toNatClampNeg)) 236 k.toNatClampNeg (gJ s 232 i.toNatClampNeg)) 237 k.toNatClampNeg (gI s 231 ((23 + i).toNatClampNeg)))
noncomputable def tm_note : xS → Int32 → Int32 → xS := Classical.choose (⟨tm_note_d, rfl⟩ : ∃ f, f = tm_note_d)
set_option maxRecDepth 100000 in
theorem tm_note_eq : tm_note = tm_note_d := Classical.choose_spec (⟨tm_note_d, rfl⟩ : ∃ f, f = tm_note_d)
def tm_note_ok (s : xS) (i : Int32) (k : Int32) : Prop := ((vp_in i 640) ∧ ((vp_in k 5) ∧ ((vp_in i 192) ∧ ((vp_in k 5) ∧ ((vp_in (23 + i) 640) ∧ (vp_in k 5))))))
set_option maxRecDepth 100000 in
theorem m76 {xs : Nat → Int32} {Ls : Nat} {Ψ : xO → xH → Prop} (s : xS) (i : Int32) (k : Int32) (gq : tm_note_ok s i k) (h : Ψ (.inl none) (xhp (tm_note s i k))) : xM (xX0 xs Ls) 76 [vr 12 230, vi i, vi k] (xhp s) Ψ := by
  rw [tm_note_eq] at h
  unfold tm_note_d at h
  unfold tm_note_ok at gq
  exact xM.of (P := p76) rfl rfl rfl (b76_0 s i k (⟨gq.1, by replace gq := gq.2; exact ⟨gq.1, by replace gq := gq.2; exact ⟨gq.1, by replace gq := gq.2; exact ⟨gq.1, by replace gq := gq.2; exact ⟨gq.1, by replace gq := gq.2; exact ⟨gq, h⟩⟩⟩⟩⟩⟩))
/-! tm_tell -/
theorem b77_0 {xs : Nat → Int32} {Ls : Nat} {Φ : Option xV → xH → Prop} (s : xS) (k : Int32) (i : Int32) (g : ((vp_in k 5) ∧ ((vp_in k 5) ∧ ((vp_in k 5) ∧ ((tm_set_ok s i (gI s 235 k.toNatClampNeg) (gJ s 236 k.toNatClampNeg) (gI s 237 k.toNatClampNeg)) ∧ Φ none (xhp (tm_set s i (gI s 235 k.toNatClampNeg) (gJ s 236 k.toNatClampNeg) (gI s 237 k.toNatClampNeg)))))))) : xW (xX0 xs Ls) p77 0 [(0, vr 12 230), (1, vi k), (2, vi i)] [] (xhp s) Φ := by
  refine xW.side (c := vp_in k 5) (pc1 := 8) (L1 := [(0, vr 12 230), (1, vi k), (2, vi i)]) (st1 := [vi (gI s 235 k.toNatClampNeg), vi i, vr 12 230]) (h1 := xhp s) 6 (fun _ _ _ _ => rfl) g.1 ?_
  replace g := g.2
  refine xW.side (c := vp_in k 5) (pc1 := 14) (L1 := [(0, vr 12 230), (1, vi k), (2, vi i)]) (st1 := [vl (gJ s 236 k.toNatClampNeg), vi (gI s 235 k.toNatClampNeg), vi i, vr 12 230]) (h1 := xhp s) 4 (fun _ _ _ _ => rfl) g.1 ?_
  replace g := g.2
  refine xW.side (c := vp_in k 5) (pc1 := 20) (L1 := [(0, vr 12 230), (1, vi k), (2, vi i)]) (st1 := [vi (gI s 237 k.toNatClampNeg), vl (gJ s 236 k.toNatClampNeg), vi (gI s 235 k.toNatClampNeg), vi i, vr 12 230]) (h1 := xhp s) 4 (fun _ _ _ _ => rfl) g.1 ?_
  replace g := g.2
  refine xW.call (y := 32) (as := [vr 12 230, vi i, vi (gI s 235 k.toNatClampNeg), vl (gJ s 236 k.toNatClampNeg), vi (gI s 237 k.toNatClampNeg)]) (h0 := xhp s) (pc0 := 20) (len := 3) (L0 := [(0, vr 12 230), (1, vi k), (2, vi i)]) (rest := []) 1 (fun _ _ _ _ => rfl) (m32 _ _ _ _ _ g.1 ?_)
  show xW (xX0 xs Ls) p77 23 [(0, vr 12 230), (1, vi k), (2, vi i)] [] (xhp (tm_set s i (gI s 235 k.toNatClampNeg) (gJ s 236 k.toNatClampNeg) (gI s 237 k.toNatClampNeg))) Φ
  replace g := g.2
  exact xW.ret (v0 := none) (h1 := xhp (tm_set s i (gI s 235 k.toNatClampNeg) (gJ s 236 k.toNatClampNeg) (gI s 237 k.toNatClampNeg))) 1 (fun _ _ _ _ => rfl) g
noncomputable def tm_tell_d (s : xS) (k : Int32) (i : Int32) : xS := (tm_set s i (gI s 235 k.toNatClampNeg) (gJ s 236 k.toNatClampNeg) (gI s 237 k.toNatClampNeg))
noncomputable def tm_tell : xS → Int32 → Int32 → xS := Classical.choose (⟨tm_tell_d, rfl⟩ : ∃ f, f = tm_tell_d)
set_option maxRecDepth 100000 in
theorem tm_tell_eq : tm_tell = tm_tell_d := Classical.choose_spec (⟨tm_tell_d, rfl⟩ : ∃ f, f = tm_tell_d)
def tm_tell_ok (s : xS) (k : Int32) (i : Int32) : Prop := ((vp_in k 5) ∧ ((vp_in k 5) ∧ ((vp_in k 5) ∧ (tm_set_ok s i (gI s 235 k.toNatClampNeg) (gJ s 236 k.toNatClampNeg) (gI s 237 k.toNatClampNeg)))))
set_option maxRecDepth 100000 in
theorem m77 {xs : Nat → Int32} {Ls : Nat} {Ψ : xO → xH → Prop} (s : xS) (k : Int32) (i : Int32) (gq : tm_tell_ok s k i) (h : Ψ (.inl none) (xhp (tm_tell s k i))) : xM (xX0 xs Ls) 77 [vr 12 230, vi k, vi i] (xhp s) Ψ := by
  rw [tm_tell_eq] at h
  unfold tm_tell_d at h
  unfold tm_tell_ok at gq
  exact xM.of (P := p77) rfl rfl rfl (b77_0 s k i (⟨gq.1, by replace gq := gq.2; exact ⟨gq.1, by replace gq := gq.2; exact ⟨gq.1, by replace gq := gq.2; exact ⟨gq, h⟩⟩⟩⟩))
/-! tm_take -/
theorem b78_18 {xs : Nat → Int32} {Ls : Nat} {Φ : Option xV → xH → Prop} (s : xS) (x1 : Int32) (x2 : Int32) (g : ((13 < x2 → ((tm_start_ok (sI (sI s 231 56 1) 231 57 0) (gI s 230 11)) ∧ Φ none (xhp (tm_start (sI (sI s 231 56 1) 231 57 0) (gI s 230 11))))) ∧ (¬ (13 < x2) → ((tm_tell_ok s x1 x2) ∧ xW (xX0 xs Ls) p78 18 [(0, vr 12 230), (1, vi x1), (2, vi (x2 + 1))] [] (xhp (tm_tell s x1 x2)) Φ)))) : xW (xX0 xs Ls) p78 18 [(0, vr 12 230), (1, vi x1), (2, vi x2)] [] (xhp s) Φ := by
  refine xW.br (c := 13 < x2) (pc1 := 36) (L1 := [(0, vr 12 230), (1, vi x1), (2, vi x2)]) (st1 := []) (h1 := xhp s) (pc2 := 24) (L2 := [(0, vr 12 230), (1, vi x1), (2, vi x2)]) (st2 := []) (h2 := xhp s) 3 (fun _ _ _ _ => rfl) (fun hc => ?_) (fun hc => ?_)
  · replace g := g.1 hc
    refine xW.side (c := vp_in 56 640) (pc1 := 44) (L1 := [(0, vr 12 230), (1, vi x1), (2, vi x2)]) (st1 := []) (h1 := xhp (sI s 231 56 1)) 5 (fun _ _ _ _ => rfl) (vp_lit rfl) ?_
    refine xW.side (c := vp_in 57 640) (pc1 := 52) (L1 := [(0, vr 12 230), (1, vi x1), (2, vi x2)]) (st1 := []) (h1 := xhp (sI (sI s 231 56 1) 231 57 0)) 5 (fun _ _ _ _ => rfl) (vp_lit rfl) ?_
    refine xW.call (y := 69) (as := [vr 12 230, vi (gI s 230 11)]) (h0 := xhp (sI (sI s 231 56 1) 231 57 0)) (pc0 := 57) (len := 3) (L0 := [(0, vr 12 230), (1, vi x1), (2, vi x2)]) (rest := []) 4 (fun _ _ _ _ => rfl) (m69 _ _ g.1 ?_)
    show xW (xX0 xs Ls) p78 60 [(0, vr 12 230), (1, vi x1), (2, vi x2)] [] (xhp (tm_start (sI (sI s 231 56 1) 231 57 0) (gI s 230 11))) Φ
    replace g := g.2
    exact xW.ret (v0 := none) (h1 := xhp (tm_start (sI (sI s 231 56 1) 231 57 0) (gI s 230 11))) 1 (fun _ _ _ _ => rfl) g
  · replace g := g.2 hc
    refine xW.call (y := 77) (as := [vr 12 230, vi x1, vi x2]) (h0 := xhp s) (pc0 := 27) (len := 3) (L0 := [(0, vr 12 230), (1, vi x1), (2, vi x2)]) (rest := []) 4 (fun _ _ _ _ => rfl) (m77 _ _ _ g.1 ?_)
    show xW (xX0 xs Ls) p78 30 [(0, vr 12 230), (1, vi x1), (2, vi x2)] [] (xhp (tm_tell s x1 x2)) Φ
    replace g := g.2
    refine xW.seg (pc1 := 18) (L1 := [(2, vi (x2 + 1)), (0, vr 12 230), (1, vi x1)]) (st1 := []) (h1 := xhp (tm_tell s x1 x2)) 2 (fun _ _ _ _ => rfl) ?_
    exact xW.locs (L := [(0, vr 12 230), (1, vi x1), (2, vi (x2 + 1))]) ⟨rfl, rfl, rfl, trivial⟩ rfl g
noncomputable def tm_take_18 : Nat → xS → Int32 → Int32 → xS
  | 0, s, _, _ => s
  | n + 1, s, x1, x2 => (if 13 < x2 then (tm_start (sI (sI s 231 56 1) 231 57 0) (gI s 230 11)) else (tm_take_18 n (tm_tell s x1 x2) x1 (x2 + 1)))
def tm_take_18_ok : Nat → xS → Int32 → Int32 → Prop
  | 0, _, _, _ => False
  | n + 1, s, x1, x2 => ((13 < x2 → (tm_start_ok (sI (sI s 231 56 1) 231 57 0) (gI s 230 11))) ∧ (¬ (13 < x2) → ((tm_tell_ok s x1 x2) ∧ (tm_take_18_ok n (tm_tell s x1 x2) x1 (x2 + 1)))))
set_option maxRecDepth 100000 in
theorem n78_18 {xs : Nat → Int32} {Ls : Nat} {Φ : Option xV → xH → Prop} : ∀ (n : Nat) (s : xS) (x1 : Int32) (x2 : Int32), tm_take_18_ok n s x1 x2 → Φ none (xhp (tm_take_18 n s x1 x2)) → xW (xX0 xs Ls) p78 18 [(0, vr 12 230), (1, vi x1), (2, vi x2)] [] (xhp s) Φ := by
  intro n
  induction n with
  | zero => intro s _ _ gq; exact gq.elim
  | succ n ih =>
    intro s x1 x2 gq h
    unfold tm_take_18_ok at gq
    unfold tm_take_18 at h
    exact b78_18 s x1 x2 (⟨fun hc => by rw [if_pos hc] at h; replace gq := gq.1 hc; exact ⟨gq, h⟩, fun hc => by rw [if_neg hc] at h; replace gq := gq.2 hc; exact ⟨gq.1, by replace gq := gq.2; exact ih _ _ _ gq h⟩⟩)
set_option maxRecDepth 100000 in
theorem b78_0 {xs : Nat → Int32} {Ls : Nat} {Φ : Option xV → xH → Prop} (s : xS) (k : Int32) (g : xW (xX0 xs Ls) p78 18 [(0, vr 12 230), (1, vi k), (2, vi 10)] [] (xhp (sI (sI s 230 12 k) 230 13 ((gI s 230 13) + 1))) Φ) : xW (xX0 xs Ls) p78 0 [(0, vr 12 230), (1, vi k)] [] (xhp s) Φ := by
  refine xW.seg (pc1 := 18) (L1 := [(2, vi 10), (0, vr 12 230), (1, vi k)]) (st1 := []) (h1 := xhp (sI (sI s 230 12 k) 230 13 ((gI s 230 13) + 1))) 11 (fun _ _ _ _ => rfl) ?_
  exact xW.locs (L := [(0, vr 12 230), (1, vi k), (2, vi 10)]) ⟨rfl, rfl, rfl, trivial⟩ rfl g
noncomputable def tm_take_d (s : xS) (k : Int32) : xS := (tm_take_18 xfu (sI (sI s 230 12 k) 230 13 ((gI s 230 13) + 1)) k 10)
noncomputable def tm_take : xS → Int32 → xS := Classical.choose (⟨tm_take_d, rfl⟩ : ∃ f, f = tm_take_d)
set_option maxRecDepth 100000 in
theorem tm_take_eq : tm_take = tm_take_d := Classical.choose_spec (⟨tm_take_d, rfl⟩ : ∃ f, f = tm_take_d)
def tm_take_ok (s : xS) (k : Int32) : Prop := (tm_take_18_ok xfu (sI (sI s 230 12 k) 230 13 ((gI s 230 13) + 1)) k 10)
set_option maxRecDepth 100000 in
theorem m78 {xs : Nat → Int32} {Ls : Nat} {Ψ : xO → xH → Prop} (s : xS) (k : Int32) (gq : tm_take_ok s k) (h : Ψ (.inl none) (xhp (tm_take s k))) : xM (xX0 xs Ls) 78 [vr 12 230, vi k] (xhp s) Ψ := by
  rw [tm_take_eq] at h
  unfold tm_take_d at h
  unfold tm_take_ok at gq
  exact xM.of (P := p78) rfl rfl rfl (b78_0 s k (n78_18 _ _ _ _ gq h))
/-! tm_find -/
theorem b79_0 {xs : Nat → Int32} {Ls : Nat} {Φ : Option xV → xH → Prop} (s : xS) (k : Int32) (b : Int32) (c : Int32) (g : ((tm_move_ok s 10 11) ∧ ((tm_tell_ok (tm_move s 10 11) k 10) ∧ ((tm_tell_ok (tm_tell (tm_move s 10 11) k 10) b 12) ∧ ((tm_tell_ok (tm_tell (tm_tell (tm_move s 10 11) k 10) b 12) c 13) ∧ ((tm_keep_ok (sI (sI (sI (tm_tell (tm_tell (tm_tell (tm_move s 10 11) k 10) b 12) c 13) 231 56 1) 231 57 0) 230 9 0) 7) ∧ Φ none (xhp (tm_keep (sI (sI (sI (tm_tell (tm_tell (tm_tell (tm_move s 10 11) k 10) b 12) c 13) 231 56 1) 231 57 0) 230 9 0) 7)))))))) : xW (xX0 xs Ls) p79 0 [(0, vr 12 230), (1, vi k), (2, vi b), (3, vi c)] [] (xhp s) Φ := by
  refine xW.call (y := 33) (as := [vr 12 230, vi 10, vi 11]) (h0 := xhp s) (pc0 := 5) (len := 3) (L0 := [(0, vr 12 230), (1, vi k), (2, vi b), (3, vi c)]) (rest := []) 4 (fun _ _ _ _ => rfl) (m33 _ _ _ g.1 ?_)
  show xW (xX0 xs Ls) p79 8 [(0, vr 12 230), (1, vi k), (2, vi b), (3, vi c)] [] (xhp (tm_move s 10 11)) Φ
  replace g := g.2
  refine xW.call (y := 77) (as := [vr 12 230, vi k, vi 10]) (h0 := xhp (tm_move s 10 11)) (pc0 := 12) (len := 3) (L0 := [(0, vr 12 230), (1, vi k), (2, vi b), (3, vi c)]) (rest := []) 4 (fun _ _ _ _ => rfl) (m77 _ _ _ g.1 ?_)
  show xW (xX0 xs Ls) p79 15 [(0, vr 12 230), (1, vi k), (2, vi b), (3, vi c)] [] (xhp (tm_tell (tm_move s 10 11) k 10)) Φ
  replace g := g.2
  refine xW.call (y := 77) (as := [vr 12 230, vi b, vi 12]) (h0 := xhp (tm_tell (tm_move s 10 11) k 10)) (pc0 := 19) (len := 3) (L0 := [(0, vr 12 230), (1, vi k), (2, vi b), (3, vi c)]) (rest := []) 4 (fun _ _ _ _ => rfl) (m77 _ _ _ g.1 ?_)
  show xW (xX0 xs Ls) p79 22 [(0, vr 12 230), (1, vi k), (2, vi b), (3, vi c)] [] (xhp (tm_tell (tm_tell (tm_move s 10 11) k 10) b 12)) Φ
  replace g := g.2
  refine xW.call (y := 77) (as := [vr 12 230, vi c, vi 13]) (h0 := xhp (tm_tell (tm_tell (tm_move s 10 11) k 10) b 12)) (pc0 := 26) (len := 3) (L0 := [(0, vr 12 230), (1, vi k), (2, vi b), (3, vi c)]) (rest := []) 4 (fun _ _ _ _ => rfl) (m77 _ _ _ g.1 ?_)
  show xW (xX0 xs Ls) p79 29 [(0, vr 12 230), (1, vi k), (2, vi b), (3, vi c)] [] (xhp (tm_tell (tm_tell (tm_tell (tm_move s 10 11) k 10) b 12) c 13)) Φ
  replace g := g.2
  refine xW.side (c := vp_in 56 640) (pc1 := 37) (L1 := [(0, vr 12 230), (1, vi k), (2, vi b), (3, vi c)]) (st1 := []) (h1 := xhp (sI (tm_tell (tm_tell (tm_tell (tm_move s 10 11) k 10) b 12) c 13) 231 56 1)) 5 (fun _ _ _ _ => rfl) (vp_lit rfl) ?_
  refine xW.side (c := vp_in 57 640) (pc1 := 45) (L1 := [(0, vr 12 230), (1, vi k), (2, vi b), (3, vi c)]) (st1 := []) (h1 := xhp (sI (sI (tm_tell (tm_tell (tm_tell (tm_move s 10 11) k 10) b 12) c 13) 231 56 1) 231 57 0)) 5 (fun _ _ _ _ => rfl) (vp_lit rfl) ?_
  refine xW.call (y := 45) (as := [vr 12 230, vi 7]) (h0 := xhp (sI (sI (sI (tm_tell (tm_tell (tm_tell (tm_move s 10 11) k 10) b 12) c 13) 231 56 1) 231 57 0) 230 9 0)) (pc0 := 53) (len := 3) (L0 := [(0, vr 12 230), (1, vi k), (2, vi b), (3, vi c)]) (rest := []) 6 (fun _ _ _ _ => rfl) (m45 _ _ g.1 ?_)
  show xW (xX0 xs Ls) p79 56 [(0, vr 12 230), (1, vi k), (2, vi b), (3, vi c)] [] (xhp (tm_keep (sI (sI (sI (tm_tell (tm_tell (tm_tell (tm_move s 10 11) k 10) b 12) c 13) 231 56 1) 231 57 0) 230 9 0) 7)) Φ
  replace g := g.2
  exact xW.ret (v0 := none) (h1 := xhp (tm_keep (sI (sI (sI (tm_tell (tm_tell (tm_tell (tm_move s 10 11) k 10) b 12) c 13) 231 56 1) 231 57 0) 230 9 0) 7)) 1 (fun _ _ _ _ => rfl) g
noncomputable def tm_find_d (s : xS) (k : Int32) (b : Int32) (c : Int32) : xS := (tm_keep (sI (sI (sI (tm_tell (tm_tell (tm_tell (tm_move s 10 11) k 10) b 12) c 13) 231 56 1) 231 57 0) 230 9 0) 7)
noncomputable def tm_find : xS → Int32 → Int32 → Int32 → xS := Classical.choose (⟨tm_find_d, rfl⟩ : ∃ f, f = tm_find_d)
set_option maxRecDepth 100000 in
theorem tm_find_eq : tm_find = tm_find_d := Classical.choose_spec (⟨tm_find_d, rfl⟩ : ∃ f, f = tm_find_d)
def tm_find_ok (s : xS) (k : Int32) (b : Int32) (c : Int32) : Prop := ((tm_move_ok s 10 11) ∧ ((tm_tell_ok (tm_move s 10 11) k 10) ∧ ((tm_tell_ok (tm_tell (tm_move s 10 11) k 10) b 12) ∧ ((tm_tell_ok (tm_tell (tm_tell (tm_move s 10 11) k 10) b 12) c 13) ∧ (tm_keep_ok (sI (sI (sI (tm_tell (tm_tell (tm_tell (tm_move s 10 11) k 10) b 12) c 13) 231 56 1) 231 57 0) 230 9 0) 7)))))
set_option maxRecDepth 100000 in
theorem m79 {xs : Nat → Int32} {Ls : Nat} {Ψ : xO → xH → Prop} (s : xS) (k : Int32) (b : Int32) (c : Int32) (gq : tm_find_ok s k b c) (h : Ψ (.inl none) (xhp (tm_find s k b c))) : xM (xX0 xs Ls) 79 [vr 12 230, vi k, vi b, vi c] (xhp s) Ψ := by
  rw [tm_find_eq] at h
  unfold tm_find_d at h
  unfold tm_find_ok at gq
  exact xM.of (P := p79) rfl rfl rfl (b79_0 s k b c (⟨gq.1, by replace gq := gq.2; exact ⟨gq.1, by replace gq := gq.2; exact ⟨gq.1, by replace gq := gq.2; exact ⟨gq.1, by replace gq := gq.2; exact ⟨gq, h⟩⟩⟩⟩⟩))
/-! tm_isSame -/
theorem b80_0 {xs : Nat → Int32} {Ls : Nat} {Φ : Option xV → xH → Prop} (s : xS) (j : Int32) (k : Int32) (g : ((vp_in j 5) ∧ ((vp_in k 5) ∧ ((¬ (gI s 235 j.toNatClampNeg) = (gI s 235 k.toNatClampNeg) → Φ (some (vi 0)) (xhp s)) ∧ ((gI s 235 j.toNatClampNeg) = (gI s 235 k.toNatClampNeg) → ((vp_in j 5) ∧ ((vp_in k 5) ∧ ((¬ (gJ s 236 j.toNatClampNeg) = (gJ s 236 k.toNatClampNeg) → Φ (some (vi 0)) (xhp s)) ∧ ((gJ s 236 j.toNatClampNeg) = (gJ s 236 k.toNatClampNeg) → ((vp_in j 5) ∧ ((vp_in k 5) ∧ Φ (some (vi (zb (decide ((gI s 237 j.toNatClampNeg) = (gI s 237 k.toNatClampNeg)))))) (xhp s)))))))))))) : xW (xX0 xs Ls) p80 0 [(0, vr 12 230), (1, vi j), (2, vi k)] [] (xhp s) Φ := by
  refine xW.side (c := vp_in j 5) (pc1 := 6) (L1 := [(0, vr 12 230), (1, vi j), (2, vi k)]) (st1 := [vi (gI s 235 j.toNatClampNeg)]) (h1 := xhp s) 4 (fun _ _ _ _ => rfl) g.1 ?_
  replace g := g.2
  refine xW.side (c := vp_in k 5) (pc1 := 12) (L1 := [(0, vr 12 230), (1, vi j), (2, vi k)]) (st1 := [vi (gI s 235 k.toNatClampNeg), vi (gI s 235 j.toNatClampNeg)]) (h1 := xhp s) 4 (fun _ _ _ _ => rfl) g.1 ?_
  replace g := g.2
  refine xW.br (c := ¬ (gI s 235 j.toNatClampNeg) = (gI s 235 k.toNatClampNeg)) (pc1 := 50) (L1 := [(0, vr 12 230), (1, vi j), (2, vi k)]) (st1 := []) (h1 := xhp s) (pc2 := 15) (L2 := [(0, vr 12 230), (1, vi j), (2, vi k)]) (st2 := []) (h2 := xhp s) 1 (fun _ _ _ _ => rfl) (fun hc => ?_) (fun hc => ?_)
  · replace g := g.1 hc
    exact xW.retz (v0 := some (vi 0)) (h1 := xhp s) (c := (0 : Int32) = 0 ∨ (0 : Int32) = 1) 2 (fun _ _ _ _ => rfl) (Or.inl rfl) g
  · replace g := g.2 (Decidable.not_not.mp hc)
    refine xW.side (c := vp_in j 5) (pc1 := 21) (L1 := [(0, vr 12 230), (1, vi j), (2, vi k)]) (st1 := [vl (gJ s 236 j.toNatClampNeg)]) (h1 := xhp s) 4 (fun _ _ _ _ => rfl) g.1 ?_
    replace g := g.2
    refine xW.side (c := vp_in k 5) (pc1 := 27) (L1 := [(0, vr 12 230), (1, vi j), (2, vi k)]) (st1 := [vl (gJ s 236 k.toNatClampNeg), vl (gJ s 236 j.toNatClampNeg)]) (h1 := xhp s) 4 (fun _ _ _ _ => rfl) g.1 ?_
    replace g := g.2
    refine xW.br (c := ¬ (lg_cmp (gJ s 236 j.toNatClampNeg) (gJ s 236 k.toNatClampNeg)) = 0) (pc1 := 50) (L1 := [(0, vr 12 230), (1, vi j), (2, vi k)]) (st1 := []) (h1 := xhp s) (pc2 := 31) (L2 := [(0, vr 12 230), (1, vi j), (2, vi k)]) (st2 := []) (h2 := xhp s) 2 (fun _ _ _ _ => rfl) (fun hc => ?_) (fun hc => ?_)
    · replace g := g.1 (fun q => hc (lc_eq.mpr q))
      exact xW.retz (v0 := some (vi 0)) (h1 := xhp s) (c := (0 : Int32) = 0 ∨ (0 : Int32) = 1) 2 (fun _ _ _ _ => rfl) (Or.inl rfl) g
    · replace g := g.2 (lc_eq.mp (Decidable.not_not.mp hc))
      refine xW.side (c := vp_in j 5) (pc1 := 37) (L1 := [(0, vr 12 230), (1, vi j), (2, vi k)]) (st1 := [vi (gI s 237 j.toNatClampNeg)]) (h1 := xhp s) 4 (fun _ _ _ _ => rfl) g.1 ?_
      replace g := g.2
      refine xW.side (c := vp_in k 5) (pc1 := 43) (L1 := [(0, vr 12 230), (1, vi j), (2, vi k)]) (st1 := [vi (gI s 237 k.toNatClampNeg), vi (gI s 237 j.toNatClampNeg)]) (h1 := xhp s) 4 (fun _ _ _ _ => rfl) g.1 ?_
      replace g := g.2
      suffices J : xW (xX0 xs Ls) p80 51 [(0, vr 12 230), (1, vi j), (2, vi k)] [vi (zb (decide ((gI s 237 j.toNatClampNeg) = (gI s 237 k.toNatClampNeg))))] (xhp s) Φ by
        refine xW.br (c := ¬ (gI s 237 j.toNatClampNeg) = (gI s 237 k.toNatClampNeg)) (pc1 := 50) (L1 := [(0, vr 12 230), (1, vi j), (2, vi k)]) (st1 := []) (h1 := xhp s) (pc2 := 46) (L2 := [(0, vr 12 230), (1, vi j), (2, vi k)]) (st2 := []) (h2 := xhp s) 1 (fun _ _ _ _ => rfl) (fun hc => ?_) (fun hc => ?_)
        · have hc1 : ¬ (gI s 237 j.toNatClampNeg) = (gI s 237 k.toNatClampNeg) := hc
          refine xW.seg (pc1 := 51) (L1 := [(0, vr 12 230), (1, vi j), (2, vi k)]) (st1 := [vi 0]) (h1 := xhp s) 1 (fun _ _ _ _ => rfl) ?_
          refine xW.to (v := vi (zb (decide ((gI s 237 j.toNatClampNeg) = (gI s 237 k.toNatClampNeg))))) (zb_f (by simp only [decide_eq_false hc1, Bool.true_or, Bool.or_true, Bool.false_or, Bool.or_false, Bool.true_and, Bool.and_true, Bool.false_and, Bool.and_false, Bool.not_true, Bool.not_false, cond_true, cond_false])) ?_
          exact J
        · have hc1 : (gI s 237 j.toNatClampNeg) = (gI s 237 k.toNatClampNeg) := (Decidable.not_not.mp hc)
          refine xW.seg (pc1 := 51) (L1 := [(0, vr 12 230), (1, vi j), (2, vi k)]) (st1 := [vi 1]) (h1 := xhp s) 2 (fun _ _ _ _ => rfl) ?_
          refine xW.to (v := vi (zb (decide ((gI s 237 j.toNatClampNeg) = (gI s 237 k.toNatClampNeg))))) (zb_t (by simp only [decide_eq_true hc1, Bool.true_or, Bool.or_true, Bool.false_or, Bool.or_false, Bool.true_and, Bool.and_true, Bool.false_and, Bool.and_false, Bool.not_true, Bool.not_false, cond_true, cond_false])) ?_
          exact J
      exact xW.retz (v0 := some (vi (zb (decide ((gI s 237 j.toNatClampNeg) = (gI s 237 k.toNatClampNeg)))))) (h1 := xhp s) (c := (zb (decide ((gI s 237 j.toNatClampNeg) = (gI s 237 k.toNatClampNeg)))) = 0 ∨ (zb (decide ((gI s 237 j.toNatClampNeg) = (gI s 237 k.toNatClampNeg)))) = 1) 1 (fun _ _ _ _ => rfl) (zb01 _) g
noncomputable def tm_isSame (s : xS) (j : Int32) (k : Int32) : Bool := (if ¬ (gI s 235 j.toNatClampNeg) = (gI s 235 k.toNatClampNeg) then false else (if ¬ (gJ s 236 j.toNatClampNeg) = (gJ s 236 k.toNatClampNeg) then false else (decide ((gI s 237 j.toNatClampNeg) = (gI s 237 k.toNatClampNeg)))))
def tm_isSame_ok (s : xS) (j : Int32) (k : Int32) : Prop := ((vp_in j 5) ∧ ((vp_in k 5) ∧ ((gI s 235 j.toNatClampNeg) = (gI s 235 k.toNatClampNeg) → ((vp_in j 5) ∧ ((vp_in k 5) ∧ ((gJ s 236 j.toNatClampNeg) = (gJ s 236 k.toNatClampNeg) → ((vp_in j 5) ∧ (vp_in k 5))))))))
set_option maxRecDepth 100000 in
theorem m80 {xs : Nat → Int32} {Ls : Nat} {Ψ : xO → xH → Prop} (s : xS) (j : Int32) (k : Int32) (gq : tm_isSame_ok s j k) (h : Ψ (.inl (some (vi (zb (tm_isSame s j k))))) (xhp s)) : xM (xX0 xs Ls) 80 [vr 12 230, vi j, vi k] (xhp s) Ψ := by
  unfold tm_isSame at h
  unfold tm_isSame_ok at gq
  exact xM.of (P := p80) rfl rfl rfl (b80_0 s j k (⟨gq.1, by replace gq := gq.2; exact ⟨gq.1, by replace gq := gq.2; exact ⟨fun hc => by rw [if_pos hc] at h; exact h, fun hc => by rw [if_neg (fun z => z hc)] at h; replace gq := gq hc; exact ⟨gq.1, by replace gq := gq.2; exact ⟨gq.1, by replace gq := gq.2; exact ⟨fun hc => by rw [if_pos hc] at h; exact h, fun hc => by rw [if_neg (fun z => z hc)] at h; replace gq := gq hc; exact ⟨gq.1, by replace gq := gq.2; exact ⟨gq, h⟩⟩⟩⟩⟩⟩⟩⟩))
/-! tm_halve -/
theorem b81_230 {xs : Nat → Int32} {Ls : Nat} {Φ : Option xV → xH → Prop} (s : xS) (y0 : Int32) (g : ((tm_tell_ok s (3 + y0) 10) ∧ ((tm_find_ok (tm_tell s (3 + y0) 10) y0 0 1) ∧ Φ none (xhp (tm_find (tm_tell s (3 + y0) 10) y0 0 1))))) : xW (xX0 xs Ls) p81 230 [(0, vr 12 230)] [vi y0] (xhp s) Φ := by
  refine xW.call (y := 77) (as := [vr 12 230, vi (3 + y0), vi 10]) (h0 := xhp s) (pc0 := 237) (len := 3) (L0 := [(2, vi y0), (0, vr 12 230)]) (rest := []) 7 (fun _ _ _ _ => rfl) (m77 _ _ _ g.1 ?_)
  show xW (xX0 xs Ls) p81 240 [(2, vi y0), (0, vr 12 230)] [] (xhp (tm_tell s (3 + y0) 10)) Φ
  replace g := g.2
  refine xW.call (y := 79) (as := [vr 12 230, vi y0, vi 0, vi 1]) (h0 := xhp (tm_tell s (3 + y0) 10)) (pc0 := 244) (len := 3) (L0 := [(2, vi y0), (0, vr 12 230)]) (rest := []) 5 (fun _ _ _ _ => rfl) (m79 _ _ _ _ g.1 ?_)
  show xW (xX0 xs Ls) p81 247 [(2, vi y0), (0, vr 12 230)] [] (xhp (tm_find (tm_tell s (3 + y0) 10) y0 0 1)) Φ
  replace g := g.2
  exact xW.ret (v0 := none) (h1 := xhp (tm_find (tm_tell s (3 + y0) 10) y0 0 1)) 2 (fun _ _ _ _ => rfl) g
noncomputable def tm_halve_230_d (s : xS) (y0 : Int32) : xS := (tm_find (tm_tell s (3 + y0) 10) y0 0 1)
noncomputable def tm_halve_230 : xS → Int32 → xS := Classical.choose (⟨tm_halve_230_d, rfl⟩ : ∃ f, f = tm_halve_230_d)
set_option maxRecDepth 100000 in
theorem tm_halve_230_eq : tm_halve_230 = tm_halve_230_d := Classical.choose_spec (⟨tm_halve_230_d, rfl⟩ : ∃ f, f = tm_halve_230_d)
def tm_halve_230_ok (s : xS) (y0 : Int32) : Prop := ((tm_tell_ok s (3 + y0) 10) ∧ (tm_find_ok (tm_tell s (3 + y0) 10) y0 0 1))
set_option maxRecDepth 100000 in
theorem n81_230 {xs : Nat → Int32} {Ls : Nat} {Φ : Option xV → xH → Prop} (s : xS) (y0 : Int32) (gq : tm_halve_230_ok s y0) (h : Φ none (xhp (tm_halve_230 s y0))) : xW (xX0 xs Ls) p81 230 [(0, vr 12 230)] [vi y0] (xhp s) Φ := by
  rw [tm_halve_230_eq] at h
  unfold tm_halve_230_d at h
  unfold tm_halve_230_ok at gq
  exact b81_230 s y0 (⟨gq.1, by replace gq := gq.2; exact ⟨gq, h⟩⟩)
set_option maxRecDepth 100000 in
theorem b81_195 {xs : Nat → Int32} {Ls : Nat} {Φ : Option xV → xH → Prop} (s : xS) (g : xW (xX0 xs Ls) p81 230 [(0, vr 12 230)] [vi (zb (!decide (0 ≤ (tm_compare (gJ s 236 4) (gI s 237 4) (gJ s 236 3) (gI s 237 3)))))] (xhp s) Φ) : xW (xX0 xs Ls) p81 195 [(0, vr 12 230)] [] (xhp s) Φ := by
  refine xW.side (c := vp_in 4 5) (pc1 := 201) (L1 := [(0, vr 12 230)]) (st1 := [vl (gJ s 236 4)]) (h1 := xhp s) 4 (fun _ _ _ _ => rfl) (vp_lit rfl) ?_
  refine xW.side (c := vp_in 4 5) (pc1 := 207) (L1 := [(0, vr 12 230)]) (st1 := [vi (gI s 237 4), vl (gJ s 236 4)]) (h1 := xhp s) 4 (fun _ _ _ _ => rfl) (vp_lit rfl) ?_
  refine xW.side (c := vp_in 3 5) (pc1 := 213) (L1 := [(0, vr 12 230)]) (st1 := [vl (gJ s 236 3), vi (gI s 237 4), vl (gJ s 236 4)]) (h1 := xhp s) 4 (fun _ _ _ _ => rfl) (vp_lit rfl) ?_
  refine xW.side (c := vp_in 3 5) (pc1 := 219) (L1 := [(0, vr 12 230)]) (st1 := [vi (gI s 237 3), vl (gJ s 236 3), vi (gI s 237 4), vl (gJ s 236 4)]) (h1 := xhp s) 4 (fun _ _ _ _ => rfl) (vp_lit rfl) ?_
  refine xW.call (y := 37) (as := [vl (gJ s 236 4), vi (gI s 237 4), vl (gJ s 236 3), vi (gI s 237 3)]) (h0 := xhp s) (pc0 := 219) (len := 3) (L0 := [(0, vr 12 230)]) (rest := []) 1 (fun _ _ _ _ => rfl) (m37 _ _ _ _ _ ?_)
  show xW (xX0 xs Ls) p81 222 [(0, vr 12 230)] [vi (tm_compare (gJ s 236 4) (gI s 237 4) (gJ s 236 3) (gI s 237 3))] (xhp s) Φ
  suffices J : xW (xX0 xs Ls) p81 230 [(0, vr 12 230)] [vi (zb (!decide (0 ≤ (tm_compare (gJ s 236 4) (gI s 237 4) (gJ s 236 3) (gI s 237 3)))))] (xhp s) Φ by
    refine xW.br (c := 0 ≤ (tm_compare (gJ s 236 4) (gI s 237 4) (gJ s 236 3) (gI s 237 3))) (pc1 := 229) (L1 := [(0, vr 12 230)]) (st1 := []) (h1 := xhp s) (pc2 := 225) (L2 := [(0, vr 12 230)]) (st2 := []) (h2 := xhp s) 1 (fun _ _ _ _ => rfl) (fun hc => ?_) (fun hc => ?_)
    · have hc1 : 0 ≤ (tm_compare (gJ s 236 4) (gI s 237 4) (gJ s 236 3) (gI s 237 3)) := hc
      refine xW.seg (pc1 := 230) (L1 := [(0, vr 12 230)]) (st1 := [vi 0]) (h1 := xhp s) 1 (fun _ _ _ _ => rfl) ?_
      refine xW.to (v := vi (zb (!decide (0 ≤ (tm_compare (gJ s 236 4) (gI s 237 4) (gJ s 236 3) (gI s 237 3)))))) (zb_f (by simp only [decide_eq_true hc1, Bool.true_or, Bool.or_true, Bool.false_or, Bool.or_false, Bool.true_and, Bool.and_true, Bool.false_and, Bool.and_false, Bool.not_true, Bool.not_false, cond_true, cond_false])) ?_
      exact J
    · have hc1 : ¬ (0 ≤ (tm_compare (gJ s 236 4) (gI s 237 4) (gJ s 236 3) (gI s 237 3))) := hc
      refine xW.seg (pc1 := 230) (L1 := [(0, vr 12 230)]) (st1 := [vi 1]) (h1 := xhp s) 2 (fun _ _ _ _ => rfl) ?_
      refine xW.to (v := vi (zb (!decide (0 ≤ (tm_compare (gJ s 236 4) (gI s 237 4) (gJ s 236 3) (gI s 237 3)))))) (zb_t (by simp only [decide_eq_false hc1, Bool.true_or, Bool.or_true, Bool.false_or, Bool.or_false, Bool.true_and, Bool.and_true, Bool.false_and, Bool.and_false, Bool.not_true, Bool.not_false, cond_true, cond_false])) ?_
      exact J
  exact g
noncomputable def tm_halve_195_d (s : xS) : xS := (tm_halve_230 s (zb (!decide (0 ≤ (tm_compare (gJ s 236 4) (gI s 237 4) (gJ s 236 3) (gI s 237 3))))))
noncomputable def tm_halve_195 : xS → xS := Classical.choose (⟨tm_halve_195_d, rfl⟩ : ∃ f, f = tm_halve_195_d)
set_option maxRecDepth 100000 in
theorem tm_halve_195_eq : tm_halve_195 = tm_halve_195_d := Classical.choose_spec (⟨tm_halve_195_d, rfl⟩ : ∃ f, f = tm_halve_195_d)
def tm_halve_195_ok (s : xS) : Prop := (tm_halve_230_ok s (zb (!decide (0 ≤ (tm_compare (gJ s 236 4) (gI s 237 4) (gJ s 236 3) (gI s 237 3))))))
set_option maxRecDepth 100000 in
theorem n81_195 {xs : Nat → Int32} {Ls : Nat} {Φ : Option xV → xH → Prop} (s : xS) (gq : tm_halve_195_ok s) (h : Φ none (xhp (tm_halve_195 s))) : xW (xX0 xs Ls) p81 195 [(0, vr 12 230)] [] (xhp s) Φ := by
  rw [tm_halve_195_eq] at h
  unfold tm_halve_195_d at h
  unfold tm_halve_195_ok at gq
  exact b81_195 s (n81_230 _ _ gq h)
set_option maxRecDepth 100000 in
theorem b81_114 {xs : Nat → Int32} {Ls : Nat} {Φ : Option xV → xH → Prop} (s : xS) (y0 : Int32) (g : ((y0 ≤ 0 → ((tm_isSame_ok (sI (sJ (sI s 235 2 (gI s 230 29)) 236 2 (if (gI s 230 29) = 0 then (0 : Int64) else (gJ s 230 30))) 237 2 (if (gI s 230 29) = 0 then (0 : Int32) else (gI s 230 31))) 2 0) ∧ (((tm_isSame (sI (sJ (sI s 235 2 (gI s 230 29)) 236 2 (if (gI s 230 29) = 0 then (0 : Int64) else (gJ s 230 30))) 237 2 (if (gI s 230 29) = 0 then (0 : Int32) else (gI s 230 31))) 2 0) = true → xW (xX0 xs Ls) p81 195 [(0, vr 12 230)] [] (xhp (sI (sJ (sI s 235 2 (gI s 230 29)) 236 2 (if (gI s 230 29) = 0 then (0 : Int64) else (gJ s 230 30))) 237 2 (if (gI s 230 29) = 0 then (0 : Int32) else (gI s 230 31)))) Φ) ∧ ((tm_isSame (sI (sJ (sI s 235 2 (gI s 230 29)) 236 2 (if (gI s 230 29) = 0 then (0 : Int64) else (gJ s 230 30))) 237 2 (if (gI s 230 29) = 0 then (0 : Int32) else (gI s 230 31))) 2 0) = false → ((tm_isSame_ok (sI (sJ (sI s 235 2 (gI s 230 29)) 236 2 (if (gI s 230 29) = 0 then (0 : Int64) else (gJ s 230 30))) 237 2 (if (gI s 230 29) = 0 then (0 : Int32) else (gI s 230 31))) 2 1) ∧ (((tm_isSame (sI (sJ (sI s 235 2 (gI s 230 29)) 236 2 (if (gI s 230 29) = 0 then (0 : Int64) else (gJ s 230 30))) 237 2 (if (gI s 230 29) = 0 then (0 : Int32) else (gI s 230 31))) 2 1) = false → ((¬ (gI s 230 13) = 100 → ((tm_take_ok (sI (sJ (sI s 235 2 (gI s 230 29)) 236 2 (if (gI s 230 29) = 0 then (0 : Int64) else (gJ s 230 30))) 237 2 (if (gI s 230 29) = 0 then (0 : Int32) else (gI s 230 31))) 2) ∧ Φ none (xhp (tm_take (sI (sJ (sI s 235 2 (gI s 230 29)) 236 2 (if (gI s 230 29) = 0 then (0 : Int64) else (gJ s 230 30))) 237 2 (if (gI s 230 29) = 0 then (0 : Int32) else (gI s 230 31))) 2)))) ∧ ((gI s 230 13) = 100 → ((tm_fail_ok (sI (sJ (sI s 235 2 (gI s 230 29)) 236 2 (if (gI s 230 29) = 0 then (0 : Int64) else (gJ s 230 30))) 237 2 (if (gI s 230 29) = 0 then (0 : Int32) else (gI s 230 31))) 9) ∧ Φ none (xhp (tm_fail (sI (sJ (sI s 235 2 (gI s 230 29)) 236 2 (if (gI s 230 29) = 0 then (0 : Int64) else (gJ s 230 30))) 237 2 (if (gI s 230 29) = 0 then (0 : Int32) else (gI s 230 31))) 9)))))) ∧ ((tm_isSame (sI (sJ (sI s 235 2 (gI s 230 29)) 236 2 (if (gI s 230 29) = 0 then (0 : Int64) else (gJ s 230 30))) 237 2 (if (gI s 230 29) = 0 then (0 : Int32) else (gI s 230 31))) 2 1) = true → xW (xX0 xs Ls) p81 195 [(0, vr 12 230)] [] (xhp (sI (sJ (sI s 235 2 (gI s 230 29)) 236 2 (if (gI s 230 29) = 0 then (0 : Int64) else (gJ s 230 30))) 237 2 (if (gI s 230 29) = 0 then (0 : Int32) else (gI s 230 31)))) Φ))))))) ∧ (¬ (y0 ≤ 0) → ((tm_fail_ok s y0) ∧ Φ none (xhp (tm_fail s y0)))))) : xW (xX0 xs Ls) p81 114 [(0, vr 12 230)] [vi y0] (xhp s) Φ := by
  refine xW.br (c := y0 ≤ 0) (pc1 := 125) (L1 := [(1, vi y0), (0, vr 12 230)]) (st1 := []) (h1 := xhp s) (pc2 := 119) (L2 := [(1, vi y0), (0, vr 12 230)]) (st2 := []) (h2 := xhp s) 3 (fun _ _ _ _ => rfl) (fun hc => ?_) (fun hc => ?_)
  · replace g := g.1 hc
    refine xW.side (c := vp_in 2 5) (pc1 := 135) (L1 := [(1, vi y0), (0, vr 12 230)]) (st1 := []) (h1 := xhp (sI s 235 2 (gI s 230 29))) 6 (fun _ _ _ _ => rfl) (vp_lit rfl) ?_
    refine xW.seg (pc1 := 144) (L1 := [(1, vi y0), (0, vr 12 230)]) (st1 := [vi (gI s 230 29), vi 2, vr 41 236]) (h1 := xhp (sI s 235 2 (gI s 230 29))) 5 (fun _ _ _ _ => rfl) ?_
    suffices J : xW (xX0 xs Ls) p81 155 [(1, vi y0), (0, vr 12 230)] [vl (if (gI s 230 29) = 0 then (0 : Int64) else (gJ s 230 30)), vi 2, vr 41 236] (xhp (sI s 235 2 (gI s 230 29))) Φ by
      refine xW.br (c := ¬ (gI s 230 29) = 0) (pc1 := 151) (L1 := [(1, vi y0), (0, vr 12 230)]) (st1 := [vi 2, vr 41 236]) (h1 := xhp (sI s 235 2 (gI s 230 29))) (pc2 := 147) (L2 := [(1, vi y0), (0, vr 12 230)]) (st2 := [vi 2, vr 41 236]) (h2 := xhp (sI s 235 2 (gI s 230 29))) 1 (fun _ _ _ _ => rfl) (fun hc => ?_) (fun hc => ?_)
      · have hc1 : ¬ (gI s 230 29) = 0 := hc
        refine xW.seg (pc1 := 155) (L1 := [(1, vi y0), (0, vr 12 230)]) (st1 := [vl (gJ s 230 30), vi 2, vr 41 236]) (h1 := xhp (sI s 235 2 (gI s 230 29))) 2 (fun _ _ _ _ => rfl) ?_
        refine xW.to (v := vl (if (gI s 230 29) = 0 then (0 : Int64) else (gJ s 230 30))) ((congrArg vl (if_neg hc1)).symm) ?_
        exact J
      · have hc1 : (gI s 230 29) = 0 := (Decidable.not_not.mp hc)
        refine xW.seg (pc1 := 155) (L1 := [(1, vi y0), (0, vr 12 230)]) (st1 := [vl 0, vi 2, vr 41 236]) (h1 := xhp (sI s 235 2 (gI s 230 29))) 2 (fun _ _ _ _ => rfl) ?_
        refine xW.to (v := vl (if (gI s 230 29) = 0 then (0 : Int64) else (gJ s 230 30))) ((congrArg vl (if_pos hc1)).symm) ?_
        exact J
    refine xW.side (c := vp_in 2 5) (pc1 := 156) (L1 := [(1, vi y0), (0, vr 12 230)]) (st1 := []) (h1 := xhp (sJ (sI s 235 2 (gI s 230 29)) 236 2 (if (gI s 230 29) = 0 then (0 : Int64) else (gJ s 230 30)))) 1 (fun _ _ _ _ => rfl) (vp_lit rfl) ?_
    refine xW.seg (pc1 := 165) (L1 := [(1, vi y0), (0, vr 12 230)]) (st1 := [vi (gI s 230 29), vi 2, vr 40 237]) (h1 := xhp (sJ (sI s 235 2 (gI s 230 29)) 236 2 (if (gI s 230 29) = 0 then (0 : Int64) else (gJ s 230 30)))) 5 (fun _ _ _ _ => rfl) ?_
    suffices J : xW (xX0 xs Ls) p81 176 [(1, vi y0), (0, vr 12 230)] [vi (if (gI s 230 29) = 0 then (0 : Int32) else (gI s 230 31)), vi 2, vr 40 237] (xhp (sJ (sI s 235 2 (gI s 230 29)) 236 2 (if (gI s 230 29) = 0 then (0 : Int64) else (gJ s 230 30)))) Φ by
      refine xW.br (c := ¬ (gI s 230 29) = 0) (pc1 := 172) (L1 := [(1, vi y0), (0, vr 12 230)]) (st1 := [vi 2, vr 40 237]) (h1 := xhp (sJ (sI s 235 2 (gI s 230 29)) 236 2 (if (gI s 230 29) = 0 then (0 : Int64) else (gJ s 230 30)))) (pc2 := 168) (L2 := [(1, vi y0), (0, vr 12 230)]) (st2 := [vi 2, vr 40 237]) (h2 := xhp (sJ (sI s 235 2 (gI s 230 29)) 236 2 (if (gI s 230 29) = 0 then (0 : Int64) else (gJ s 230 30)))) 1 (fun _ _ _ _ => rfl) (fun hc => ?_) (fun hc => ?_)
      · have hc2 : ¬ (gI s 230 29) = 0 := hc
        refine xW.seg (pc1 := 176) (L1 := [(1, vi y0), (0, vr 12 230)]) (st1 := [vi (gI s 230 31), vi 2, vr 40 237]) (h1 := xhp (sJ (sI s 235 2 (gI s 230 29)) 236 2 (if (gI s 230 29) = 0 then (0 : Int64) else (gJ s 230 30)))) 2 (fun _ _ _ _ => rfl) ?_
        refine xW.to (v := vi (if (gI s 230 29) = 0 then (0 : Int32) else (gI s 230 31))) ((congrArg vi (if_neg hc2)).symm) ?_
        exact J
      · have hc2 : (gI s 230 29) = 0 := (Decidable.not_not.mp hc)
        refine xW.seg (pc1 := 176) (L1 := [(1, vi y0), (0, vr 12 230)]) (st1 := [vi 0, vi 2, vr 40 237]) (h1 := xhp (sJ (sI s 235 2 (gI s 230 29)) 236 2 (if (gI s 230 29) = 0 then (0 : Int64) else (gJ s 230 30)))) 2 (fun _ _ _ _ => rfl) ?_
        refine xW.to (v := vi (if (gI s 230 29) = 0 then (0 : Int32) else (gI s 230 31))) ((congrArg vi (if_pos hc2)).symm) ?_
        exact J
    refine xW.side (c := vp_in 2 5) (pc1 := 177) (L1 := [(1, vi y0), (0, vr 12 230)]) (st1 := []) (h1 := xhp (sI (sJ (sI s 235 2 (gI s 230 29)) 236 2 (if (gI s 230 29) = 0 then (0 : Int64) else (gJ s 230 30))) 237 2 (if (gI s 230 29) = 0 then (0 : Int32) else (gI s 230 31)))) 1 (fun _ _ _ _ => rfl) (vp_lit rfl) ?_
    refine xW.call (y := 80) (as := [vr 12 230, vi 2, vi 0]) (h0 := xhp (sI (sJ (sI s 235 2 (gI s 230 29)) 236 2 (if (gI s 230 29) = 0 then (0 : Int64) else (gJ s 230 30))) 237 2 (if (gI s 230 29) = 0 then (0 : Int32) else (gI s 230 31)))) (pc0 := 180) (len := 3) (L0 := [(1, vi y0), (0, vr 12 230)]) (rest := []) 4 (fun _ _ _ _ => rfl) (m80 _ _ _ g.1 ?_)
    show xW (xX0 xs Ls) p81 183 [(1, vi y0), (0, vr 12 230)] [vi (zb (tm_isSame (sI (sJ (sI s 235 2 (gI s 230 29)) 236 2 (if (gI s 230 29) = 0 then (0 : Int64) else (gJ s 230 30))) 237 2 (if (gI s 230 29) = 0 then (0 : Int32) else (gI s 230 31))) 2 0))] (xhp (sI (sJ (sI s 235 2 (gI s 230 29)) 236 2 (if (gI s 230 29) = 0 then (0 : Int64) else (gJ s 230 30))) 237 2 (if (gI s 230 29) = 0 then (0 : Int32) else (gI s 230 31)))) Φ
    replace g := g.2
    refine xW.br (c := ¬ (zb (tm_isSame (sI (sJ (sI s 235 2 (gI s 230 29)) 236 2 (if (gI s 230 29) = 0 then (0 : Int64) else (gJ s 230 30))) 237 2 (if (gI s 230 29) = 0 then (0 : Int32) else (gI s 230 31))) 2 0)) = 0) (pc1 := 195) (L1 := [(1, vi y0), (0, vr 12 230)]) (st1 := []) (h1 := xhp (sI (sJ (sI s 235 2 (gI s 230 29)) 236 2 (if (gI s 230 29) = 0 then (0 : Int64) else (gJ s 230 30))) 237 2 (if (gI s 230 29) = 0 then (0 : Int32) else (gI s 230 31)))) (pc2 := 186) (L2 := [(1, vi y0), (0, vr 12 230)]) (st2 := []) (h2 := xhp (sI (sJ (sI s 235 2 (gI s 230 29)) 236 2 (if (gI s 230 29) = 0 then (0 : Int64) else (gJ s 230 30))) 237 2 (if (gI s 230 29) = 0 then (0 : Int32) else (gI s 230 31)))) 1 (fun _ _ _ _ => rfl) (fun hc => ?_) (fun hc => ?_)
    · replace g := g.1 (zb_ne0.mp hc)
      exact xW.locs (L := [(0, vr 12 230)]) ⟨rfl, trivial⟩ rfl g
    · replace g := g.2 (zb_eq0.mp (Decidable.not_not.mp hc))
      refine xW.call (y := 80) (as := [vr 12 230, vi 2, vi 1]) (h0 := xhp (sI (sJ (sI s 235 2 (gI s 230 29)) 236 2 (if (gI s 230 29) = 0 then (0 : Int64) else (gJ s 230 30))) 237 2 (if (gI s 230 29) = 0 then (0 : Int32) else (gI s 230 31)))) (pc0 := 189) (len := 3) (L0 := [(1, vi y0), (0, vr 12 230)]) (rest := []) 4 (fun _ _ _ _ => rfl) (m80 _ _ _ g.1 ?_)
      show xW (xX0 xs Ls) p81 192 [(1, vi y0), (0, vr 12 230)] [vi (zb (tm_isSame (sI (sJ (sI s 235 2 (gI s 230 29)) 236 2 (if (gI s 230 29) = 0 then (0 : Int64) else (gJ s 230 30))) 237 2 (if (gI s 230 29) = 0 then (0 : Int32) else (gI s 230 31))) 2 1))] (xhp (sI (sJ (sI s 235 2 (gI s 230 29)) 236 2 (if (gI s 230 29) = 0 then (0 : Int64) else (gJ s 230 30))) 237 2 (if (gI s 230 29) = 0 then (0 : Int32) else (gI s 230 31)))) Φ
      replace g := g.2
      refine xW.br (c := (zb (tm_isSame (sI (sJ (sI s 235 2 (gI s 230 29)) 236 2 (if (gI s 230 29) = 0 then (0 : Int64) else (gJ s 230 30))) 237 2 (if (gI s 230 29) = 0 then (0 : Int32) else (gI s 230 31))) 2 1)) = 0) (pc1 := 250) (L1 := [(1, vi y0), (0, vr 12 230)]) (st1 := []) (h1 := xhp (sI (sJ (sI s 235 2 (gI s 230 29)) 236 2 (if (gI s 230 29) = 0 then (0 : Int64) else (gJ s 230 30))) 237 2 (if (gI s 230 29) = 0 then (0 : Int32) else (gI s 230 31)))) (pc2 := 195) (L2 := [(1, vi y0), (0, vr 12 230)]) (st2 := []) (h2 := xhp (sI (sJ (sI s 235 2 (gI s 230 29)) 236 2 (if (gI s 230 29) = 0 then (0 : Int64) else (gJ s 230 30))) 237 2 (if (gI s 230 29) = 0 then (0 : Int32) else (gI s 230 31)))) 1 (fun _ _ _ _ => rfl) (fun hc => ?_) (fun hc => ?_)
      · replace g := g.1 (zb_eq0.mp hc)
        refine xW.br (c := ¬ (gI s 230 13) = 100) (pc1 := 268) (L1 := [(1, vi y0), (0, vr 12 230)]) (st1 := []) (h1 := xhp (sI (sJ (sI s 235 2 (gI s 230 29)) 236 2 (if (gI s 230 29) = 0 then (0 : Int64) else (gJ s 230 30))) 237 2 (if (gI s 230 29) = 0 then (0 : Int32) else (gI s 230 31)))) (pc2 := 259) (L2 := [(1, vi y0), (0, vr 12 230)]) (st2 := []) (h2 := xhp (sI (sJ (sI s 235 2 (gI s 230 29)) 236 2 (if (gI s 230 29) = 0 then (0 : Int64) else (gJ s 230 30))) 237 2 (if (gI s 230 29) = 0 then (0 : Int32) else (gI s 230 31)))) 4 (fun _ _ _ _ => rfl) (fun hc => ?_) (fun hc => ?_)
        · replace g := g.1 hc
          refine xW.call (y := 78) (as := [vr 12 230, vi 2]) (h0 := xhp (sI (sJ (sI s 235 2 (gI s 230 29)) 236 2 (if (gI s 230 29) = 0 then (0 : Int64) else (gJ s 230 30))) 237 2 (if (gI s 230 29) = 0 then (0 : Int32) else (gI s 230 31)))) (pc0 := 270) (len := 3) (L0 := [(1, vi y0), (0, vr 12 230)]) (rest := []) 3 (fun _ _ _ _ => rfl) (m78 _ _ g.1 ?_)
          show xW (xX0 xs Ls) p81 273 [(1, vi y0), (0, vr 12 230)] [] (xhp (tm_take (sI (sJ (sI s 235 2 (gI s 230 29)) 236 2 (if (gI s 230 29) = 0 then (0 : Int64) else (gJ s 230 30))) 237 2 (if (gI s 230 29) = 0 then (0 : Int32) else (gI s 230 31))) 2)) Φ
          replace g := g.2
          exact xW.ret (v0 := none) (h1 := xhp (tm_take (sI (sJ (sI s 235 2 (gI s 230 29)) 236 2 (if (gI s 230 29) = 0 then (0 : Int64) else (gJ s 230 30))) 237 2 (if (gI s 230 29) = 0 then (0 : Int32) else (gI s 230 31))) 2)) 1 (fun _ _ _ _ => rfl) g
        · replace g := g.2 (Decidable.not_not.mp hc)
          refine xW.call (y := 75) (as := [vr 12 230, vi 9]) (h0 := xhp (sI (sJ (sI s 235 2 (gI s 230 29)) 236 2 (if (gI s 230 29) = 0 then (0 : Int64) else (gJ s 230 30))) 237 2 (if (gI s 230 29) = 0 then (0 : Int32) else (gI s 230 31)))) (pc0 := 262) (len := 3) (L0 := [(1, vi y0), (0, vr 12 230)]) (rest := []) 3 (fun _ _ _ _ => rfl) (m75 _ _ g.1 ?_)
          show xW (xX0 xs Ls) p81 265 [(1, vi y0), (0, vr 12 230)] [] (xhp (tm_fail (sI (sJ (sI s 235 2 (gI s 230 29)) 236 2 (if (gI s 230 29) = 0 then (0 : Int64) else (gJ s 230 30))) 237 2 (if (gI s 230 29) = 0 then (0 : Int32) else (gI s 230 31))) 9)) Φ
          replace g := g.2
          exact xW.ret (v0 := none) (h1 := xhp (tm_fail (sI (sJ (sI s 235 2 (gI s 230 29)) 236 2 (if (gI s 230 29) = 0 then (0 : Int64) else (gJ s 230 30))) 237 2 (if (gI s 230 29) = 0 then (0 : Int32) else (gI s 230 31))) 9)) 2 (fun _ _ _ _ => rfl) g
      · replace g := g.2 (zb_ne0.mp hc)
        exact xW.locs (L := [(0, vr 12 230)]) ⟨rfl, trivial⟩ rfl g
  · replace g := g.2 hc
    refine xW.call (y := 75) (as := [vr 12 230, vi y0]) (h0 := xhp s) (pc0 := 121) (len := 3) (L0 := [(1, vi y0), (0, vr 12 230)]) (rest := []) 3 (fun _ _ _ _ => rfl) (m75 _ _ g.1 ?_)
    show xW (xX0 xs Ls) p81 124 [(1, vi y0), (0, vr 12 230)] [] (xhp (tm_fail s y0)) Φ
    replace g := g.2
    exact xW.ret (v0 := none) (h1 := xhp (tm_fail s y0)) 1 (fun _ _ _ _ => rfl) g
noncomputable def tm_halve_114_d (s : xS) (y0 : Int32) : xS := (if y0 ≤ 0 then (if (tm_isSame (sI (sJ (sI s 235 2 (gI s 230 29)) 236 2 (if (gI s 230 29) = 0 then (0 : Int64) else (gJ s 230 30))) 237 2 (if (gI s 230 29) = 0 then (0 : Int32) else (gI s 230 31))) 2 0) = true then (tm_halve_195 (sI (sJ (sI s 235 2 (gI s 230 29)) 236 2 (if (gI s 230 29) = 0 then (0 : Int64) else (gJ s 230 30))) 237 2 (if (gI s 230 29) = 0 then (0 : Int32) else (gI s 230 31)))) else (if (tm_isSame (sI (sJ (sI s 235 2 (gI s 230 29)) 236 2 (if (gI s 230 29) = 0 then (0 : Int64) else (gJ s 230 30))) 237 2 (if (gI s 230 29) = 0 then (0 : Int32) else (gI s 230 31))) 2 1) = false then (if ¬ (gI s 230 13) = 100 then (tm_take (sI (sJ (sI s 235 2 (gI s 230 29)) 236 2 (if (gI s 230 29) = 0 then (0 : Int64) else (gJ s 230 30))) 237 2 (if (gI s 230 29) = 0 then (0 : Int32) else (gI s 230 31))) 2) else (tm_fail (sI (sJ (sI s 235 2 (gI s 230 29)) 236 2 (if (gI s 230 29) = 0 then (0 : Int64) else (gJ s 230 30))) 237 2 (if (gI s 230 29) = 0 then (0 : Int32) else (gI s 230 31))) 9)) else (tm_halve_195 (sI (sJ (sI s 235 2 (gI s 230 29)) 236 2 (if (gI s 230 29) = 0 then (0 : Int64) else (gJ s 230 30))) 237 2 (if (gI s 230 29) = 0 then (0 : Int32) else (gI s 230 31)))))) else (tm_fail s y0))
noncomputable def tm_halve_114 : xS → Int32 → xS := Classical.choose (⟨tm_halve_114_d, rfl⟩ : ∃ f, f = tm_halve_114_d)
set_option maxRecDepth 100000 in
theorem tm_halve_114_eq : tm_halve_114 = tm_halve_114_d := Classical.choose_spec (⟨tm_halve_114_d, rfl⟩ : ∃ f, f = tm_halve_114_d)
def tm_halve_114_ok (s : xS) (y0 : Int32) : Prop := ((y0 ≤ 0 → ((tm_isSame_ok (sI (sJ (sI s 235 2 (gI s 230 29)) 236 2 (if (gI s 230 29) = 0 then (0 : Int64) else (gJ s 230 30))) 237 2 (if (gI s 230 29) = 0 then (0 : Int32) else (gI s 230 31))) 2 0) ∧ (((tm_isSame (sI (sJ (sI s 235 2 (gI s 230 29)) 236 2 (if (gI s 230 29) = 0 then (0 : Int64) else (gJ s 230 30))) 237 2 (if (gI s 230 29) = 0 then (0 : Int32) else (gI s 230 31))) 2 0) = true → (tm_halve_195_ok (sI (sJ (sI s 235 2 (gI s 230 29)) 236 2 (if (gI s 230 29) = 0 then (0 : Int64) else (gJ s 230 30))) 237 2 (if (gI s 230 29) = 0 then (0 : Int32) else (gI s 230 31))))) ∧ ((tm_isSame (sI (sJ (sI s 235 2 (gI s 230 29)) 236 2 (if (gI s 230 29) = 0 then (0 : Int64) else (gJ s 230 30))) 237 2 (if (gI s 230 29) = 0 then (0 : Int32) else (gI s 230 31))) 2 0) = false → ((tm_isSame_ok (sI (sJ (sI s 235 2 (gI s 230 29)) 236 2 (if (gI s 230 29) = 0 then (0 : Int64) else (gJ s 230 30))) 237 2 (if (gI s 230 29) = 0 then (0 : Int32) else (gI s 230 31))) 2 1) ∧ (((tm_isSame (sI (sJ (sI s 235 2 (gI s 230 29)) 236 2 (if (gI s 230 29) = 0 then (0 : Int64) else (gJ s 230 30))) 237 2 (if (gI s 230 29) = 0 then (0 : Int32) else (gI s 230 31))) 2 1) = false → ((¬ (gI s 230 13) = 100 → (tm_take_ok (sI (sJ (sI s 235 2 (gI s 230 29)) 236 2 (if (gI s 230 29) = 0 then (0 : Int64) else (gJ s 230 30))) 237 2 (if (gI s 230 29) = 0 then (0 : Int32) else (gI s 230 31))) 2)) ∧ ((gI s 230 13) = 100 → (tm_fail_ok (sI (sJ (sI s 235 2 (gI s 230 29)) 236 2 (if (gI s 230 29) = 0 then (0 : Int64) else (gJ s 230 30))) 237 2 (if (gI s 230 29) = 0 then (0 : Int32) else (gI s 230 31))) 9)))) ∧ ((tm_isSame (sI (sJ (sI s 235 2 (gI s 230 29)) 236 2 (if (gI s 230 29) = 0 then (0 : Int64) else (gJ s 230 30))) 237 2 (if (gI s 230 29) = 0 then (0 : Int32) else (gI s 230 31))) 2 1) = true → (tm_halve_195_ok (sI (sJ (sI s 235 2 (gI s 230 29)) 236 2 (if (gI s 230 29) = 0 then (0 : Int64) else (gJ s 230 30))) 237 2 (if (gI s 230 29) = 0 then (0 : Int32) else (gI s 230 31))))))))))) ∧ (¬ (y0 ≤ 0) → (tm_fail_ok s y0)))
set_option maxRecDepth 100000 in
theorem n81_114 {xs : Nat → Int32} {Ls : Nat} {Φ : Option xV → xH → Prop} (s : xS) (y0 : Int32) (gq : tm_halve_114_ok s y0) (h : Φ none (xhp (tm_halve_114 s y0))) : xW (xX0 xs Ls) p81 114 [(0, vr 12 230)] [vi y0] (xhp s) Φ := by
  rw [tm_halve_114_eq] at h
  unfold tm_halve_114_d at h
  unfold tm_halve_114_ok at gq
  exact b81_114 s y0 (⟨fun hc => by rw [if_pos hc] at h; replace gq := gq.1 hc; exact ⟨gq.1, by replace gq := gq.2; exact ⟨fun hc => by rw [if_pos hc] at h; replace gq := gq.1 hc; exact n81_195 _ gq h, fun hc => by rw [if_neg (by rw [hc]; decide)] at h; replace gq := gq.2 hc; exact ⟨gq.1, by replace gq := gq.2; exact ⟨fun hc => by rw [if_pos hc] at h; replace gq := gq.1 hc; exact ⟨fun hc => by rw [if_pos hc] at h; replace gq := gq.1 hc; exact ⟨gq, h⟩, fun hc => by rw [if_neg (fun z => z hc)] at h; replace gq := gq.2 hc; exact ⟨gq, h⟩⟩, fun hc => by rw [if_neg (by rw [hc]; decide)] at h; replace gq := gq.2 hc; exact n81_195 _ gq h⟩⟩⟩⟩, fun hc => by rw [if_neg hc] at h; replace gq := gq.2 hc; exact ⟨gq, h⟩⟩)
set_option maxRecDepth 100000 in
theorem b81_71 {xs : Nat → Int32} {Ls : Nat} {Φ : Option xV → xH → Prop} (s : xS) (y0 : Int32) (g : ((y0 ≤ 0 → ((tm_add_ok s (gI s 235 0) (gJ s 236 0) (gI s 237 0) (gI s 230 29) (gJ s 230 30) (gI s 230 31)) ∧ xW (xX0 xs Ls) p81 114 [(0, vr 12 230)] [vi ((tm_add s (gI s 235 0) (gJ s 236 0) (gI s 237 0) (gI s 230 29) (gJ s 230 30) (gI s 230 31)).1)] (xhp ((tm_add s (gI s 235 0) (gJ s 236 0) (gI s 237 0) (gI s 230 29) (gJ s 230 30) (gI s 230 31)).2)) Φ)) ∧ (¬ (y0 ≤ 0) → xW (xX0 xs Ls) p81 114 [(0, vr 12 230)] [vi y0] (xhp s) Φ))) : xW (xX0 xs Ls) p81 71 [(0, vr 12 230)] [vi y0] (xhp s) Φ := by
  refine xW.br (c := y0 ≤ 0) (pc1 := 80) (L1 := [(1, vi y0), (0, vr 12 230)]) (st1 := []) (h1 := xhp s) (pc2 := 76) (L2 := [(1, vi y0), (0, vr 12 230)]) (st2 := []) (h2 := xhp s) 3 (fun _ _ _ _ => rfl) (fun hc => ?_) (fun hc => ?_)
  · replace g := g.1 hc
    refine xW.side (c := vp_in 0 5) (pc1 := 87) (L1 := [(1, vi y0), (0, vr 12 230)]) (st1 := [vi (gI s 235 0), vr 12 230]) (h1 := xhp s) 5 (fun _ _ _ _ => rfl) (vp_lit rfl) ?_
    refine xW.side (c := vp_in 0 5) (pc1 := 93) (L1 := [(1, vi y0), (0, vr 12 230)]) (st1 := [vl (gJ s 236 0), vi (gI s 235 0), vr 12 230]) (h1 := xhp s) 4 (fun _ _ _ _ => rfl) (vp_lit rfl) ?_
    refine xW.side (c := vp_in 0 5) (pc1 := 99) (L1 := [(1, vi y0), (0, vr 12 230)]) (st1 := [vi (gI s 237 0), vl (gJ s 236 0), vi (gI s 235 0), vr 12 230]) (h1 := xhp s) 4 (fun _ _ _ _ => rfl) (vp_lit rfl) ?_
    refine xW.call (y := 38) (as := [vr 12 230, vi (gI s 235 0), vl (gJ s 236 0), vi (gI s 237 0), vi (gI s 230 29), vl (gJ s 230 30), vi (gI s 230 31)]) (h0 := xhp s) (pc0 := 111) (len := 3) (L0 := [(1, vi y0), (0, vr 12 230)]) (rest := []) 7 (fun _ _ _ _ => rfl) (m38 _ _ _ _ _ _ _ g.1 ?_)
    show xW (xX0 xs Ls) p81 114 [(1, vi y0), (0, vr 12 230)] [vi ((tm_add s (gI s 235 0) (gJ s 236 0) (gI s 237 0) (gI s 230 29) (gJ s 230 30) (gI s 230 31)).1)] (xhp ((tm_add s (gI s 235 0) (gJ s 236 0) (gI s 237 0) (gI s 230 29) (gJ s 230 30) (gI s 230 31)).2)) Φ
    replace g := g.2
    exact xW.locs (L := [(0, vr 12 230)]) ⟨rfl, trivial⟩ rfl g
  · replace g := g.2 hc
    refine xW.seg (pc1 := 114) (L1 := [(1, vi y0), (0, vr 12 230)]) (st1 := [vi y0]) (h1 := xhp s) 2 (fun _ _ _ _ => rfl) ?_
    exact xW.locs (L := [(0, vr 12 230)]) ⟨rfl, trivial⟩ rfl g
noncomputable def tm_halve_71_d (s : xS) (y0 : Int32) : xS := (if y0 ≤ 0 then (tm_halve_114 ((tm_add s (gI s 235 0) (gJ s 236 0) (gI s 237 0) (gI s 230 29) (gJ s 230 30) (gI s 230 31)).2) ((tm_add s (gI s 235 0) (gJ s 236 0) (gI s 237 0) (gI s 230 29) (gJ s 230 30) (gI s 230 31)).1)) else (tm_halve_114 s y0))
noncomputable def tm_halve_71 : xS → Int32 → xS := Classical.choose (⟨tm_halve_71_d, rfl⟩ : ∃ f, f = tm_halve_71_d)
set_option maxRecDepth 100000 in
theorem tm_halve_71_eq : tm_halve_71 = tm_halve_71_d := Classical.choose_spec (⟨tm_halve_71_d, rfl⟩ : ∃ f, f = tm_halve_71_d)
def tm_halve_71_ok (s : xS) (y0 : Int32) : Prop := ((y0 ≤ 0 → ((tm_add_ok s (gI s 235 0) (gJ s 236 0) (gI s 237 0) (gI s 230 29) (gJ s 230 30) (gI s 230 31)) ∧ (tm_halve_114_ok ((tm_add s (gI s 235 0) (gJ s 236 0) (gI s 237 0) (gI s 230 29) (gJ s 230 30) (gI s 230 31)).2) ((tm_add s (gI s 235 0) (gJ s 236 0) (gI s 237 0) (gI s 230 29) (gJ s 230 30) (gI s 230 31)).1)))) ∧ (¬ (y0 ≤ 0) → (tm_halve_114_ok s y0)))
set_option maxRecDepth 100000 in
theorem n81_71 {xs : Nat → Int32} {Ls : Nat} {Φ : Option xV → xH → Prop} (s : xS) (y0 : Int32) (gq : tm_halve_71_ok s y0) (h : Φ none (xhp (tm_halve_71 s y0))) : xW (xX0 xs Ls) p81 71 [(0, vr 12 230)] [vi y0] (xhp s) Φ := by
  rw [tm_halve_71_eq] at h
  unfold tm_halve_71_d at h
  unfold tm_halve_71_ok at gq
  exact b81_71 s y0 (⟨fun hc => by rw [if_pos hc] at h; replace gq := gq.1 hc; exact ⟨gq.1, by replace gq := gq.2; exact n81_114 _ _ gq h⟩, fun hc => by rw [if_neg hc] at h; replace gq := gq.2 hc; exact n81_114 _ _ gq h⟩)
set_option maxRecDepth 100000 in
theorem b81_0 {xs : Nat → Int32} {Ls : Nat} {Φ : Option xV → xH → Prop} (s : xS) (g : ((tm_add_ok s (gI s 235 1) (gJ s 236 1) (gI s 237 1) (-(gI s 235 0)) (gJ s 236 0) (gI s 237 0)) ∧ (((tm_add s (gI s 235 1) (gJ s 236 1) (gI s 237 1) (-(gI s 235 0)) (gJ s 236 0) (gI s 237 0)).1 ≤ 0 → ((tm_divide_ok ((tm_add s (gI s 235 1) (gJ s 236 1) (gI s 237 1) (-(gI s 235 0)) (gJ s 236 0) (gI s 237 0)).2) (gI ((tm_add s (gI s 235 1) (gJ s 236 1) (gI s 237 1) (-(gI s 235 0)) (gJ s 236 0) (gI s 237 0)).2) 230 29) (gJ ((tm_add s (gI s 235 1) (gJ s 236 1) (gI s 237 1) (-(gI s 235 0)) (gJ s 236 0) (gI s 237 0)).2) 230 30) (gI ((tm_add s (gI s 235 1) (gJ s 236 1) (gI s 237 1) (-(gI s 235 0)) (gJ s 236 0) (gI s 237 0)).2) 230 31) 1 200000000000 0) ∧ xW (xX0 xs Ls) p81 71 [(0, vr 12 230)] [vi ((tm_divide ((tm_add s (gI s 235 1) (gJ s 236 1) (gI s 237 1) (-(gI s 235 0)) (gJ s 236 0) (gI s 237 0)).2) (gI ((tm_add s (gI s 235 1) (gJ s 236 1) (gI s 237 1) (-(gI s 235 0)) (gJ s 236 0) (gI s 237 0)).2) 230 29) (gJ ((tm_add s (gI s 235 1) (gJ s 236 1) (gI s 237 1) (-(gI s 235 0)) (gJ s 236 0) (gI s 237 0)).2) 230 30) (gI ((tm_add s (gI s 235 1) (gJ s 236 1) (gI s 237 1) (-(gI s 235 0)) (gJ s 236 0) (gI s 237 0)).2) 230 31) 1 200000000000 0).1)] (xhp ((tm_divide ((tm_add s (gI s 235 1) (gJ s 236 1) (gI s 237 1) (-(gI s 235 0)) (gJ s 236 0) (gI s 237 0)).2) (gI ((tm_add s (gI s 235 1) (gJ s 236 1) (gI s 237 1) (-(gI s 235 0)) (gJ s 236 0) (gI s 237 0)).2) 230 29) (gJ ((tm_add s (gI s 235 1) (gJ s 236 1) (gI s 237 1) (-(gI s 235 0)) (gJ s 236 0) (gI s 237 0)).2) 230 30) (gI ((tm_add s (gI s 235 1) (gJ s 236 1) (gI s 237 1) (-(gI s 235 0)) (gJ s 236 0) (gI s 237 0)).2) 230 31) 1 200000000000 0).2)) Φ)) ∧ (¬ ((tm_add s (gI s 235 1) (gJ s 236 1) (gI s 237 1) (-(gI s 235 0)) (gJ s 236 0) (gI s 237 0)).1 ≤ 0) → xW (xX0 xs Ls) p81 71 [(0, vr 12 230)] [vi ((tm_add s (gI s 235 1) (gJ s 236 1) (gI s 237 1) (-(gI s 235 0)) (gJ s 236 0) (gI s 237 0)).1)] (xhp ((tm_add s (gI s 235 1) (gJ s 236 1) (gI s 237 1) (-(gI s 235 0)) (gJ s 236 0) (gI s 237 0)).2)) Φ)))) : xW (xX0 xs Ls) p81 0 [(0, vr 12 230)] [] (xhp s) Φ := by
  refine xW.side (c := vp_in 1 5) (pc1 := 7) (L1 := [(0, vr 12 230)]) (st1 := [vi (gI s 235 1), vr 12 230]) (h1 := xhp s) 5 (fun _ _ _ _ => rfl) (vp_lit rfl) ?_
  refine xW.side (c := vp_in 1 5) (pc1 := 13) (L1 := [(0, vr 12 230)]) (st1 := [vl (gJ s 236 1), vi (gI s 235 1), vr 12 230]) (h1 := xhp s) 4 (fun _ _ _ _ => rfl) (vp_lit rfl) ?_
  refine xW.side (c := vp_in 1 5) (pc1 := 19) (L1 := [(0, vr 12 230)]) (st1 := [vi (gI s 237 1), vl (gJ s 236 1), vi (gI s 235 1), vr 12 230]) (h1 := xhp s) 4 (fun _ _ _ _ => rfl) (vp_lit rfl) ?_
  refine xW.side (c := vp_in 0 5) (pc1 := 25) (L1 := [(0, vr 12 230)]) (st1 := [vi (gI s 235 0), vi (gI s 237 1), vl (gJ s 236 1), vi (gI s 235 1), vr 12 230]) (h1 := xhp s) 4 (fun _ _ _ _ => rfl) (vp_lit rfl) ?_
  refine xW.side (c := vp_in 0 5) (pc1 := 32) (L1 := [(0, vr 12 230)]) (st1 := [vl (gJ s 236 0), vi (-(gI s 235 0)), vi (gI s 237 1), vl (gJ s 236 1), vi (gI s 235 1), vr 12 230]) (h1 := xhp s) 5 (fun _ _ _ _ => rfl) (vp_lit rfl) ?_
  refine xW.side (c := vp_in 0 5) (pc1 := 38) (L1 := [(0, vr 12 230)]) (st1 := [vi (gI s 237 0), vl (gJ s 236 0), vi (-(gI s 235 0)), vi (gI s 237 1), vl (gJ s 236 1), vi (gI s 235 1), vr 12 230]) (h1 := xhp s) 4 (fun _ _ _ _ => rfl) (vp_lit rfl) ?_
  refine xW.call (y := 38) (as := [vr 12 230, vi (gI s 235 1), vl (gJ s 236 1), vi (gI s 237 1), vi (-(gI s 235 0)), vl (gJ s 236 0), vi (gI s 237 0)]) (h0 := xhp s) (pc0 := 38) (len := 3) (L0 := [(0, vr 12 230)]) (rest := []) 1 (fun _ _ _ _ => rfl) (m38 _ _ _ _ _ _ _ g.1 ?_)
  show xW (xX0 xs Ls) p81 41 [(0, vr 12 230)] [vi ((tm_add s (gI s 235 1) (gJ s 236 1) (gI s 237 1) (-(gI s 235 0)) (gJ s 236 0) (gI s 237 0)).1)] (xhp ((tm_add s (gI s 235 1) (gJ s 236 1) (gI s 237 1) (-(gI s 235 0)) (gJ s 236 0) (gI s 237 0)).2)) Φ
  replace g := g.2
  refine xW.br (c := (tm_add s (gI s 235 1) (gJ s 236 1) (gI s 237 1) (-(gI s 235 0)) (gJ s 236 0) (gI s 237 0)).1 ≤ 0) (pc1 := 50) (L1 := [(1, vi ((tm_add s (gI s 235 1) (gJ s 236 1) (gI s 237 1) (-(gI s 235 0)) (gJ s 236 0) (gI s 237 0)).1)), (0, vr 12 230)]) (st1 := []) (h1 := xhp ((tm_add s (gI s 235 1) (gJ s 236 1) (gI s 237 1) (-(gI s 235 0)) (gJ s 236 0) (gI s 237 0)).2)) (pc2 := 46) (L2 := [(1, vi ((tm_add s (gI s 235 1) (gJ s 236 1) (gI s 237 1) (-(gI s 235 0)) (gJ s 236 0) (gI s 237 0)).1)), (0, vr 12 230)]) (st2 := []) (h2 := xhp ((tm_add s (gI s 235 1) (gJ s 236 1) (gI s 237 1) (-(gI s 235 0)) (gJ s 236 0) (gI s 237 0)).2)) 3 (fun _ _ _ _ => rfl) (fun hc => ?_) (fun hc => ?_)
  · replace g := g.1 hc
    refine xW.call (y := 40) (as := [vr 12 230, vi (gI ((tm_add s (gI s 235 1) (gJ s 236 1) (gI s 237 1) (-(gI s 235 0)) (gJ s 236 0) (gI s 237 0)).2) 230 29), vl (gJ ((tm_add s (gI s 235 1) (gJ s 236 1) (gI s 237 1) (-(gI s 235 0)) (gJ s 236 0) (gI s 237 0)).2) 230 30), vi (gI ((tm_add s (gI s 235 1) (gJ s 236 1) (gI s 237 1) (-(gI s 235 0)) (gJ s 236 0) (gI s 237 0)).2) 230 31), vi 1, vl 200000000000, vi 0]) (h0 := xhp ((tm_add s (gI s 235 1) (gJ s 236 1) (gI s 237 1) (-(gI s 235 0)) (gJ s 236 0) (gI s 237 0)).2)) (pc0 := 68) (len := 3) (L0 := [(1, vi ((tm_add s (gI s 235 1) (gJ s 236 1) (gI s 237 1) (-(gI s 235 0)) (gJ s 236 0) (gI s 237 0)).1)), (0, vr 12 230)]) (rest := []) 11 (fun _ _ _ _ => rfl) (m40 _ _ _ _ _ _ _ g.1 ?_)
    show xW (xX0 xs Ls) p81 71 [(1, vi ((tm_add s (gI s 235 1) (gJ s 236 1) (gI s 237 1) (-(gI s 235 0)) (gJ s 236 0) (gI s 237 0)).1)), (0, vr 12 230)] [vi ((tm_divide ((tm_add s (gI s 235 1) (gJ s 236 1) (gI s 237 1) (-(gI s 235 0)) (gJ s 236 0) (gI s 237 0)).2) (gI ((tm_add s (gI s 235 1) (gJ s 236 1) (gI s 237 1) (-(gI s 235 0)) (gJ s 236 0) (gI s 237 0)).2) 230 29) (gJ ((tm_add s (gI s 235 1) (gJ s 236 1) (gI s 237 1) (-(gI s 235 0)) (gJ s 236 0) (gI s 237 0)).2) 230 30) (gI ((tm_add s (gI s 235 1) (gJ s 236 1) (gI s 237 1) (-(gI s 235 0)) (gJ s 236 0) (gI s 237 0)).2) 230 31) 1 200000000000 0).1)] (xhp ((tm_divide ((tm_add s (gI s 235 1) (gJ s 236 1) (gI s 237 1) (-(gI s 235 0)) (gJ s 236 0) (gI s 237 0)).2) (gI ((tm_add s (gI s 235 1) (gJ s 236 1) (gI s 237 1) (-(gI s 235 0)) (gJ s 236 0) (gI s 237 0)).2) 230 29) (gJ ((tm_add s (gI s 235 1) (gJ s 236 1) (gI s 237 1) (-(gI s 235 0)) (gJ s 236 0) (gI s 237 0)).2) 230 30) (gI ((tm_add s (gI s 235 1) (gJ s 236 1) (gI s 237 1) (-(gI s 235 0)) (gJ s 236 0) (gI s 237 0)).2) 230 31) 1 200000000000 0).2)) Φ
    replace g := g.2
    exact xW.locs (L := [(0, vr 12 230)]) ⟨rfl, trivial⟩ rfl g
  · replace g := g.2 hc
    refine xW.seg (pc1 := 71) (L1 := [(1, vi ((tm_add s (gI s 235 1) (gJ s 236 1) (gI s 237 1) (-(gI s 235 0)) (gJ s 236 0) (gI s 237 0)).1)), (0, vr 12 230)]) (st1 := [vi ((tm_add s (gI s 235 1) (gJ s 236 1) (gI s 237 1) (-(gI s 235 0)) (gJ s 236 0) (gI s 237 0)).1)]) (h1 := xhp ((tm_add s (gI s 235 1) (gJ s 236 1) (gI s 237 1) (-(gI s 235 0)) (gJ s 236 0) (gI s 237 0)).2)) 2 (fun _ _ _ _ => rfl) ?_
    exact xW.locs (L := [(0, vr 12 230)]) ⟨rfl, trivial⟩ rfl g
noncomputable def tm_halve_d (s : xS) : xS := (if (tm_add s (gI s 235 1) (gJ s 236 1) (gI s 237 1) (-(gI s 235 0)) (gJ s 236 0) (gI s 237 0)).1 ≤ 0 then (tm_halve_71 ((tm_divide ((tm_add s (gI s 235 1) (gJ s 236 1) (gI s 237 1) (-(gI s 235 0)) (gJ s 236 0) (gI s 237 0)).2) (gI ((tm_add s (gI s 235 1) (gJ s 236 1) (gI s 237 1) (-(gI s 235 0)) (gJ s 236 0) (gI s 237 0)).2) 230 29) (gJ ((tm_add s (gI s 235 1) (gJ s 236 1) (gI s 237 1) (-(gI s 235 0)) (gJ s 236 0) (gI s 237 0)).2) 230 30) (gI ((tm_add s (gI s 235 1) (gJ s 236 1) (gI s 237 1) (-(gI s 235 0)) (gJ s 236 0) (gI s 237 0)).2) 230 31) 1 200000000000 0).2) ((tm_divide ((tm_add s (gI s 235 1) (gJ s 236 1) (gI s 237 1) (-(gI s 235 0)) (gJ s 236 0) (gI s 237 0)).2) (gI ((tm_add s (gI s 235 1) (gJ s 236 1) (gI s 237 1) (-(gI s 235 0)) (gJ s 236 0) (gI s 237 0)).2) 230 29) (gJ ((tm_add s (gI s 235 1) (gJ s 236 1) (gI s 237 1) (-(gI s 235 0)) (gJ s 236 0) (gI s 237 0)).2) 230 30) (gI ((tm_add s (gI s 235 1) (gJ s 236 1) (gI s 237 1) (-(gI s 235 0)) (gJ s 236 0) (gI s 237 0)).2) 230 31) 1 200000000000 0).1)) else (tm_halve_71 ((tm_add s (gI s 235 1) (gJ s 236 1) (gI s 237 1) (-(gI s 235 0)) (gJ s 236 0) (gI s 237 0)).2) ((tm_add s (gI s 235 1) (gJ s 236 1) (gI s 237 1) (-(gI s 235 0)) (gJ s 236 0) (gI s 237 0)).1)))
noncomputable def tm_halve : xS → xS := Classical.choose (⟨tm_halve_d, rfl⟩ : ∃ f, f = tm_halve_d)
set_option maxRecDepth 100000 in
theorem tm_halve_eq : tm_halve = tm_halve_d := Classical.choose_spec (⟨tm_halve_d, rfl⟩ : ∃ f, f = tm_halve_d)
def tm_halve_ok (s : xS) : Prop := ((tm_add_ok s (gI s 235 1) (gJ s 236 1) (gI s 237 1) (-(gI s 235 0)) (gJ s 236 0) (gI s 237 0)) ∧ (((tm_add s (gI s 235 1) (gJ s 236 1) (gI s 237 1) (-(gI s 235 0)) (gJ s 236 0) (gI s 237 0)).1 ≤ 0 → ((tm_divide_ok ((tm_add s (gI s 235 1) (gJ s 236 1) (gI s 237 1) (-(gI s 235 0)) (gJ s 236 0) (gI s 237 0)).2) (gI ((tm_add s (gI s 235 1) (gJ s 236 1) (gI s 237 1) (-(gI s 235 0)) (gJ s 236 0) (gI s 237 0)).2) 230 29) (gJ ((tm_add s (gI s 235 1) (gJ s 236 1) (gI s 237 1) (-(gI s 235 0)) (gJ s 236 0) (gI s 237 0)).2) 230 30) (gI ((tm_add s (gI s 235 1) (gJ s 236 1) (gI s 237 1) (-(gI s 235 0)) (gJ s 236 0) (gI s 237 0)).2) 230 31) 1 200000000000 0) ∧ (tm_halve_71_ok ((tm_divide ((tm_add s (gI s 235 1) (gJ s 236 1) (gI s 237 1) (-(gI s 235 0)) (gJ s 236 0) (gI s 237 0)).2) (gI ((tm_add s (gI s 235 1) (gJ s 236 1) (gI s 237 1) (-(gI s 235 0)) (gJ s 236 0) (gI s 237 0)).2) 230 29) (gJ ((tm_add s (gI s 235 1) (gJ s 236 1) (gI s 237 1) (-(gI s 235 0)) (gJ s 236 0) (gI s 237 0)).2) 230 30) (gI ((tm_add s (gI s 235 1) (gJ s 236 1) (gI s 237 1) (-(gI s 235 0)) (gJ s 236 0) (gI s 237 0)).2) 230 31) 1 200000000000 0).2) ((tm_divide ((tm_add s (gI s 235 1) (gJ s 236 1) (gI s 237 1) (-(gI s 235 0)) (gJ s 236 0) (gI s 237 0)).2) (gI ((tm_add s (gI s 235 1) (gJ s 236 1) (gI s 237 1) (-(gI s 235 0)) (gJ s 236 0) (gI s 237 0)).2) 230 29) (gJ ((tm_add s (gI s 235 1) (gJ s 236 1) (gI s 237 1) (-(gI s 235 0)) (gJ s 236 0) (gI s 237 0)).2) 230 30) (gI ((tm_add s (gI s 235 1) (gJ s 236 1) (gI s 237 1) (-(gI s 235 0)) (gJ s 236 0) (gI s 237 0)).2) 230 31) 1 200000000000 0).1)))) ∧ (¬ ((tm_add s (gI s 235 1) (gJ s 236 1) (gI s 237 1) (-(gI s 235 0)) (gJ s 236 0) (gI s 237 0)).1 ≤ 0) → (tm_halve_71_ok ((tm_add s (gI s 235 1) (gJ s 236 1) (gI s 237 1) (-(gI s 235 0)) (gJ s 236 0) (gI s 237 0)).2) ((tm_add s (gI s 235 1) (gJ s 236 1) (gI s 237 1) (-(gI s 235 0)) (gJ s 236 0) (gI s 237 0)).1)))))
set_option maxRecDepth 100000 in
theorem m81 {xs : Nat → Int32} {Ls : Nat} {Ψ : xO → xH → Prop} (s : xS) (gq : tm_halve_ok s) (h : Ψ (.inl none) (xhp (tm_halve s))) : xM (xX0 xs Ls) 81 [vr 12 230] (xhp s) Ψ := by
  rw [tm_halve_eq] at h
  unfold tm_halve_d at h
  unfold tm_halve_ok at gq
  exact xM.of (P := p81) rfl rfl rfl (b81_0 s (⟨gq.1, by replace gq := gq.2; exact ⟨fun hc => by rw [if_pos hc] at h; replace gq := gq.1 hc; exact ⟨gq.1, by replace gq := gq.2; exact n81_71 _ _ gq h⟩, fun hc => by rw [if_neg hc] at h; replace gq := gq.2 hc; exact n81_71 _ _ gq h⟩⟩))
/-! tm_taken -/
theorem b82_0 {xs : Nat → Int32} {Ls : Nat} {Φ : Option xV → xH → Prop} (s : xS) (g : ((¬ (gI s 231 10) = 0 → ((¬ (gI s 230 12) = 0 → ((¬ (gI s 230 12) = 1 → ((tm_note_ok s 10 (3 + (zb (!decide ((gI s 231 10) = (gI s 235 3)))))) ∧ ((vp_in (zb (!decide ((gI s 231 10) = (gI s 235 3)))) 5) ∧ ((vp_in (zb (!decide ((gI s 231 10) = (gI s 235 3)))) 5) ∧ ((vp_in (zb (!decide ((gI s 231 10) = (gI s 235 3)))) 5) ∧ ((tm_halve_ok (sI (sJ (sI (tm_note s 10 (3 + (zb (!decide ((gI s 231 10) = (gI s 235 3)))))) 235 ((zb (!decide ((gI s 231 10) = (gI s 235 3)))).toNatClampNeg) (gI (tm_note s 10 (3 + (zb (!decide ((gI s 231 10) = (gI s 235 3)))))) 235 2)) 236 ((zb (!decide ((gI s 231 10) = (gI s 235 3)))).toNatClampNeg) (gJ (tm_note s 10 (3 + (zb (!decide ((gI s 231 10) = (gI s 235 3)))))) 236 2)) 237 ((zb (!decide ((gI s 231 10) = (gI s 235 3)))).toNatClampNeg) (gI (tm_note s 10 (3 + (zb (!decide ((gI s 231 10) = (gI s 235 3)))))) 237 2))) ∧ Φ none (xhp (tm_halve (sI (sJ (sI (tm_note s 10 (3 + (zb (!decide ((gI s 231 10) = (gI s 235 3)))))) 235 ((zb (!decide ((gI s 231 10) = (gI s 235 3)))).toNatClampNeg) (gI (tm_note s 10 (3 + (zb (!decide ((gI s 231 10) = (gI s 235 3)))))) 235 2)) 236 ((zb (!decide ((gI s 231 10) = (gI s 235 3)))).toNatClampNeg) (gJ (tm_note s 10 (3 + (zb (!decide ((gI s 231 10) = (gI s 235 3)))))) 236 2)) 237 ((zb (!decide ((gI s 231 10) = (gI s 235 3)))).toNatClampNeg) (gI (tm_note s 10 (3 + (zb (!decide ((gI s 231 10) = (gI s 235 3)))))) 237 2)))))))))) ∧ ((gI s 230 12) = 1 → ((tm_note_ok s 10 4) ∧ ((¬ (gI (tm_note s 10 4) 235 3) = (gI (tm_note s 10 4) 235 4) → ((tm_halve_ok (tm_note s 10 4)) ∧ Φ none (xhp (tm_halve (tm_note s 10 4))))) ∧ ((gI (tm_note s 10 4) 235 3) = (gI (tm_note s 10 4) 235 4) → ((tm_fail_ok (tm_note s 10 4) 9) ∧ Φ none (xhp (tm_fail (tm_note s 10 4) 9))))))))) ∧ ((gI s 230 12) = 0 → ((tm_note_ok s 10 3) ∧ ((tm_take_ok (tm_note s 10 3) 1) ∧ Φ none (xhp (tm_take (tm_note s 10 3) 1))))))) ∧ ((gI s 231 10) = 0 → ((tm_find_ok s (gI s 230 12) (gI s 230 12) (gI s 230 12)) ∧ Φ none (xhp (tm_find s (gI s 230 12) (gI s 230 12) (gI s 230 12))))))) : xW (xX0 xs Ls) p82 0 [(0, vr 12 230)] [] (xhp s) Φ := by
  refine xW.side (c := vp_in 10 640) (pc1 := 7) (L1 := [(0, vr 12 230)]) (st1 := [vi (gI s 231 10)]) (h1 := xhp s) 4 (fun _ _ _ _ => rfl) (vp_lit rfl) ?_
  refine xW.br (c := ¬ (gI s 231 10) = 0) (pc1 := 27) (L1 := [(0, vr 12 230)]) (st1 := []) (h1 := xhp s) (pc2 := 10) (L2 := [(0, vr 12 230)]) (st2 := []) (h2 := xhp s) 1 (fun _ _ _ _ => rfl) (fun hc => ?_) (fun hc => ?_)
  · replace g := g.1 hc
    refine xW.br (c := ¬ (gI s 230 12) = 0) (pc1 := 49) (L1 := [(0, vr 12 230)]) (st1 := []) (h1 := xhp s) (pc2 := 34) (L2 := [(0, vr 12 230)]) (st2 := []) (h2 := xhp s) 3 (fun _ _ _ _ => rfl) (fun hc => ?_) (fun hc => ?_)
    · replace g := g.1 hc
      refine xW.br (c := ¬ (gI s 230 12) = 1) (pc1 := 95) (L1 := [(0, vr 12 230)]) (st1 := []) (h1 := xhp s) (pc2 := 57) (L2 := [(0, vr 12 230)]) (st2 := []) (h2 := xhp s) 4 (fun _ _ _ _ => rfl) (fun hc => ?_) (fun hc => ?_)
      · replace g := g.1 hc
        refine xW.side (c := vp_in 10 640) (pc1 := 102) (L1 := [(0, vr 12 230)]) (st1 := [vi (gI s 231 10)]) (h1 := xhp s) 4 (fun _ _ _ _ => rfl) (vp_lit rfl) ?_
        refine xW.side (c := vp_in 3 5) (pc1 := 108) (L1 := [(0, vr 12 230)]) (st1 := [vi (gI s 235 3), vi (gI s 231 10)]) (h1 := xhp s) 4 (fun _ _ _ _ => rfl) (vp_lit rfl) ?_
        suffices J : xW (xX0 xs Ls) p82 116 [(0, vr 12 230)] [vi (zb (!decide ((gI s 231 10) = (gI s 235 3))))] (xhp s) Φ by
          refine xW.br (c := ¬ (gI s 231 10) = (gI s 235 3)) (pc1 := 115) (L1 := [(0, vr 12 230)]) (st1 := []) (h1 := xhp s) (pc2 := 111) (L2 := [(0, vr 12 230)]) (st2 := []) (h2 := xhp s) 1 (fun _ _ _ _ => rfl) (fun hc => ?_) (fun hc => ?_)
          · have hc1 : ¬ (gI s 231 10) = (gI s 235 3) := hc
            refine xW.seg (pc1 := 116) (L1 := [(0, vr 12 230)]) (st1 := [vi 1]) (h1 := xhp s) 1 (fun _ _ _ _ => rfl) ?_
            refine xW.to (v := vi (zb (!decide ((gI s 231 10) = (gI s 235 3))))) (zb_t (by simp only [decide_eq_false hc1, Bool.true_or, Bool.or_true, Bool.false_or, Bool.or_false, Bool.true_and, Bool.and_true, Bool.false_and, Bool.and_false, Bool.not_true, Bool.not_false, cond_true, cond_false])) ?_
            exact J
          · have hc1 : (gI s 231 10) = (gI s 235 3) := (Decidable.not_not.mp hc)
            refine xW.seg (pc1 := 116) (L1 := [(0, vr 12 230)]) (st1 := [vi 0]) (h1 := xhp s) 2 (fun _ _ _ _ => rfl) ?_
            refine xW.to (v := vi (zb (!decide ((gI s 231 10) = (gI s 235 3))))) (zb_f (by simp only [decide_eq_true hc1, Bool.true_or, Bool.or_true, Bool.false_or, Bool.or_false, Bool.true_and, Bool.and_true, Bool.false_and, Bool.and_false, Bool.not_true, Bool.not_false, cond_true, cond_false])) ?_
            exact J
        refine xW.call (y := 76) (as := [vr 12 230, vi 10, vi (3 + (zb (!decide ((gI s 231 10) = (gI s 235 3)))))]) (h0 := xhp s) (pc0 := 123) (len := 3) (L0 := [(1, vi (zb (!decide ((gI s 231 10) = (gI s 235 3))))), (0, vr 12 230)]) (rest := []) 7 (fun _ _ _ _ => rfl) (m76 _ _ _ g.1 ?_)
        show xW (xX0 xs Ls) p82 126 [(1, vi (zb (!decide ((gI s 231 10) = (gI s 235 3))))), (0, vr 12 230)] [] (xhp (tm_note s 10 (3 + (zb (!decide ((gI s 231 10) = (gI s 235 3))))))) Φ
        replace g := g.2
        refine xW.side (c := vp_in 2 5) (pc1 := 137) (L1 := [(1, vi (zb (!decide ((gI s 231 10) = (gI s 235 3))))), (0, vr 12 230)]) (st1 := [vi (gI (tm_note s 10 (3 + (zb (!decide ((gI s 231 10) = (gI s 235 3)))))) 235 2), vi (zb (!decide ((gI s 231 10) = (gI s 235 3)))), vr 40 235]) (h1 := xhp (tm_note s 10 (3 + (zb (!decide ((gI s 231 10) = (gI s 235 3))))))) 7 (fun _ _ _ _ => rfl) (vp_lit rfl) ?_
        refine xW.side (c := vp_in (zb (!decide ((gI s 231 10) = (gI s 235 3)))) 5) (pc1 := 138) (L1 := [(1, vi (zb (!decide ((gI s 231 10) = (gI s 235 3))))), (0, vr 12 230)]) (st1 := []) (h1 := xhp (sI (tm_note s 10 (3 + (zb (!decide ((gI s 231 10) = (gI s 235 3)))))) 235 ((zb (!decide ((gI s 231 10) = (gI s 235 3)))).toNatClampNeg) (gI (tm_note s 10 (3 + (zb (!decide ((gI s 231 10) = (gI s 235 3)))))) 235 2))) 1 (fun _ _ _ _ => rfl) g.1 ?_
        replace g := g.2
        refine xW.side (c := vp_in 2 5) (pc1 := 149) (L1 := [(1, vi (zb (!decide ((gI s 231 10) = (gI s 235 3))))), (0, vr 12 230)]) (st1 := [vl (gJ (tm_note s 10 (3 + (zb (!decide ((gI s 231 10) = (gI s 235 3)))))) 236 2), vi (zb (!decide ((gI s 231 10) = (gI s 235 3)))), vr 41 236]) (h1 := xhp (sI (tm_note s 10 (3 + (zb (!decide ((gI s 231 10) = (gI s 235 3)))))) 235 ((zb (!decide ((gI s 231 10) = (gI s 235 3)))).toNatClampNeg) (gI (tm_note s 10 (3 + (zb (!decide ((gI s 231 10) = (gI s 235 3)))))) 235 2))) 7 (fun _ _ _ _ => rfl) (vp_lit rfl) ?_
        refine xW.side (c := vp_in (zb (!decide ((gI s 231 10) = (gI s 235 3)))) 5) (pc1 := 150) (L1 := [(1, vi (zb (!decide ((gI s 231 10) = (gI s 235 3))))), (0, vr 12 230)]) (st1 := []) (h1 := xhp (sJ (sI (tm_note s 10 (3 + (zb (!decide ((gI s 231 10) = (gI s 235 3)))))) 235 ((zb (!decide ((gI s 231 10) = (gI s 235 3)))).toNatClampNeg) (gI (tm_note s 10 (3 + (zb (!decide ((gI s 231 10) = (gI s 235 3)))))) 235 2)) 236 ((zb (!decide ((gI s 231 10) = (gI s 235 3)))).toNatClampNeg) (gJ (tm_note s 10 (3 + (zb (!decide ((gI s 231 10) = (gI s 235 3)))))) 236 2))) 1 (fun _ _ _ _ => rfl) g.1 ?_
        replace g := g.2
        refine xW.side (c := vp_in 2 5) (pc1 := 161) (L1 := [(1, vi (zb (!decide ((gI s 231 10) = (gI s 235 3))))), (0, vr 12 230)]) (st1 := [vi (gI (tm_note s 10 (3 + (zb (!decide ((gI s 231 10) = (gI s 235 3)))))) 237 2), vi (zb (!decide ((gI s 231 10) = (gI s 235 3)))), vr 40 237]) (h1 := xhp (sJ (sI (tm_note s 10 (3 + (zb (!decide ((gI s 231 10) = (gI s 235 3)))))) 235 ((zb (!decide ((gI s 231 10) = (gI s 235 3)))).toNatClampNeg) (gI (tm_note s 10 (3 + (zb (!decide ((gI s 231 10) = (gI s 235 3)))))) 235 2)) 236 ((zb (!decide ((gI s 231 10) = (gI s 235 3)))).toNatClampNeg) (gJ (tm_note s 10 (3 + (zb (!decide ((gI s 231 10) = (gI s 235 3)))))) 236 2))) 7 (fun _ _ _ _ => rfl) (vp_lit rfl) ?_
        refine xW.side (c := vp_in (zb (!decide ((gI s 231 10) = (gI s 235 3)))) 5) (pc1 := 162) (L1 := [(1, vi (zb (!decide ((gI s 231 10) = (gI s 235 3))))), (0, vr 12 230)]) (st1 := []) (h1 := xhp (sI (sJ (sI (tm_note s 10 (3 + (zb (!decide ((gI s 231 10) = (gI s 235 3)))))) 235 ((zb (!decide ((gI s 231 10) = (gI s 235 3)))).toNatClampNeg) (gI (tm_note s 10 (3 + (zb (!decide ((gI s 231 10) = (gI s 235 3)))))) 235 2)) 236 ((zb (!decide ((gI s 231 10) = (gI s 235 3)))).toNatClampNeg) (gJ (tm_note s 10 (3 + (zb (!decide ((gI s 231 10) = (gI s 235 3)))))) 236 2)) 237 ((zb (!decide ((gI s 231 10) = (gI s 235 3)))).toNatClampNeg) (gI (tm_note s 10 (3 + (zb (!decide ((gI s 231 10) = (gI s 235 3)))))) 237 2))) 1 (fun _ _ _ _ => rfl) g.1 ?_
        replace g := g.2
        refine xW.call (y := 81) (as := [vr 12 230]) (h0 := xhp (sI (sJ (sI (tm_note s 10 (3 + (zb (!decide ((gI s 231 10) = (gI s 235 3)))))) 235 ((zb (!decide ((gI s 231 10) = (gI s 235 3)))).toNatClampNeg) (gI (tm_note s 10 (3 + (zb (!decide ((gI s 231 10) = (gI s 235 3)))))) 235 2)) 236 ((zb (!decide ((gI s 231 10) = (gI s 235 3)))).toNatClampNeg) (gJ (tm_note s 10 (3 + (zb (!decide ((gI s 231 10) = (gI s 235 3)))))) 236 2)) 237 ((zb (!decide ((gI s 231 10) = (gI s 235 3)))).toNatClampNeg) (gI (tm_note s 10 (3 + (zb (!decide ((gI s 231 10) = (gI s 235 3)))))) 237 2))) (pc0 := 163) (len := 3) (L0 := [(1, vi (zb (!decide ((gI s 231 10) = (gI s 235 3))))), (0, vr 12 230)]) (rest := []) 2 (fun _ _ _ _ => rfl) (m81 _ g.1 ?_)
        show xW (xX0 xs Ls) p82 166 [(1, vi (zb (!decide ((gI s 231 10) = (gI s 235 3))))), (0, vr 12 230)] [] (xhp (tm_halve (sI (sJ (sI (tm_note s 10 (3 + (zb (!decide ((gI s 231 10) = (gI s 235 3)))))) 235 ((zb (!decide ((gI s 231 10) = (gI s 235 3)))).toNatClampNeg) (gI (tm_note s 10 (3 + (zb (!decide ((gI s 231 10) = (gI s 235 3)))))) 235 2)) 236 ((zb (!decide ((gI s 231 10) = (gI s 235 3)))).toNatClampNeg) (gJ (tm_note s 10 (3 + (zb (!decide ((gI s 231 10) = (gI s 235 3)))))) 236 2)) 237 ((zb (!decide ((gI s 231 10) = (gI s 235 3)))).toNatClampNeg) (gI (tm_note s 10 (3 + (zb (!decide ((gI s 231 10) = (gI s 235 3)))))) 237 2)))) Φ
        replace g := g.2
        exact xW.ret (v0 := none) (h1 := xhp (tm_halve (sI (sJ (sI (tm_note s 10 (3 + (zb (!decide ((gI s 231 10) = (gI s 235 3)))))) 235 ((zb (!decide ((gI s 231 10) = (gI s 235 3)))).toNatClampNeg) (gI (tm_note s 10 (3 + (zb (!decide ((gI s 231 10) = (gI s 235 3)))))) 235 2)) 236 ((zb (!decide ((gI s 231 10) = (gI s 235 3)))).toNatClampNeg) (gJ (tm_note s 10 (3 + (zb (!decide ((gI s 231 10) = (gI s 235 3)))))) 236 2)) 237 ((zb (!decide ((gI s 231 10) = (gI s 235 3)))).toNatClampNeg) (gI (tm_note s 10 (3 + (zb (!decide ((gI s 231 10) = (gI s 235 3)))))) 237 2)))) 1 (fun _ _ _ _ => rfl) g
      · replace g := g.2 (Decidable.not_not.mp hc)
        refine xW.call (y := 76) (as := [vr 12 230, vi 10, vi 4]) (h0 := xhp s) (pc0 := 61) (len := 3) (L0 := [(0, vr 12 230)]) (rest := []) 4 (fun _ _ _ _ => rfl) (m76 _ _ _ g.1 ?_)
        show xW (xX0 xs Ls) p82 64 [(0, vr 12 230)] [] (xhp (tm_note s 10 4)) Φ
        replace g := g.2
        refine xW.side (c := vp_in 3 5) (pc1 := 70) (L1 := [(0, vr 12 230)]) (st1 := [vi (gI (tm_note s 10 4) 235 3)]) (h1 := xhp (tm_note s 10 4)) 4 (fun _ _ _ _ => rfl) (vp_lit rfl) ?_
        refine xW.side (c := vp_in 4 5) (pc1 := 76) (L1 := [(0, vr 12 230)]) (st1 := [vi (gI (tm_note s 10 4) 235 4), vi (gI (tm_note s 10 4) 235 3)]) (h1 := xhp (tm_note s 10 4)) 4 (fun _ _ _ _ => rfl) (vp_lit rfl) ?_
        refine xW.br (c := ¬ (gI (tm_note s 10 4) 235 3) = (gI (tm_note s 10 4) 235 4)) (pc1 := 88) (L1 := [(0, vr 12 230)]) (st1 := []) (h1 := xhp (tm_note s 10 4)) (pc2 := 79) (L2 := [(0, vr 12 230)]) (st2 := []) (h2 := xhp (tm_note s 10 4)) 1 (fun _ _ _ _ => rfl) (fun hc => ?_) (fun hc => ?_)
        · replace g := g.1 hc
          refine xW.call (y := 81) (as := [vr 12 230]) (h0 := xhp (tm_note s 10 4)) (pc0 := 89) (len := 3) (L0 := [(0, vr 12 230)]) (rest := []) 2 (fun _ _ _ _ => rfl) (m81 _ g.1 ?_)
          show xW (xX0 xs Ls) p82 92 [(0, vr 12 230)] [] (xhp (tm_halve (tm_note s 10 4))) Φ
          replace g := g.2
          exact xW.ret (v0 := none) (h1 := xhp (tm_halve (tm_note s 10 4))) 2 (fun _ _ _ _ => rfl) g
        · replace g := g.2 (Decidable.not_not.mp hc)
          refine xW.call (y := 75) (as := [vr 12 230, vi 9]) (h0 := xhp (tm_note s 10 4)) (pc0 := 82) (len := 3) (L0 := [(0, vr 12 230)]) (rest := []) 3 (fun _ _ _ _ => rfl) (m75 _ _ g.1 ?_)
          show xW (xX0 xs Ls) p82 85 [(0, vr 12 230)] [] (xhp (tm_fail (tm_note s 10 4) 9)) Φ
          replace g := g.2
          exact xW.ret (v0 := none) (h1 := xhp (tm_fail (tm_note s 10 4) 9)) 2 (fun _ _ _ _ => rfl) g
    · replace g := g.2 (Decidable.not_not.mp hc)
      refine xW.call (y := 76) (as := [vr 12 230, vi 10, vi 3]) (h0 := xhp s) (pc0 := 38) (len := 3) (L0 := [(0, vr 12 230)]) (rest := []) 4 (fun _ _ _ _ => rfl) (m76 _ _ _ g.1 ?_)
      show xW (xX0 xs Ls) p82 41 [(0, vr 12 230)] [] (xhp (tm_note s 10 3)) Φ
      replace g := g.2
      refine xW.call (y := 78) (as := [vr 12 230, vi 1]) (h0 := xhp (tm_note s 10 3)) (pc0 := 43) (len := 3) (L0 := [(0, vr 12 230)]) (rest := []) 3 (fun _ _ _ _ => rfl) (m78 _ _ g.1 ?_)
      show xW (xX0 xs Ls) p82 46 [(0, vr 12 230)] [] (xhp (tm_take (tm_note s 10 3) 1)) Φ
      replace g := g.2
      exact xW.ret (v0 := none) (h1 := xhp (tm_take (tm_note s 10 3) 1)) 2 (fun _ _ _ _ => rfl) g
  · replace g := g.2 (Decidable.not_not.mp hc)
    refine xW.call (y := 79) (as := [vr 12 230, vi (gI s 230 12), vi (gI s 230 12), vi (gI s 230 12)]) (h0 := xhp s) (pc0 := 23) (len := 3) (L0 := [(0, vr 12 230)]) (rest := []) 8 (fun _ _ _ _ => rfl) (m79 _ _ _ _ g.1 ?_)
    show xW (xX0 xs Ls) p82 26 [(0, vr 12 230)] [] (xhp (tm_find s (gI s 230 12) (gI s 230 12) (gI s 230 12))) Φ
    replace g := g.2
    exact xW.ret (v0 := none) (h1 := xhp (tm_find s (gI s 230 12) (gI s 230 12) (gI s 230 12))) 1 (fun _ _ _ _ => rfl) g
noncomputable def tm_taken_d (s : xS) : xS := (if ¬ (gI s 231 10) = 0 then (if ¬ (gI s 230 12) = 0 then (if ¬ (gI s 230 12) = 1 then (tm_halve (sI (sJ (sI (tm_note s 10 (3 + (zb (!decide ((gI s 231 10) = (gI s 235 3)))))) 235 ((zb (!decide ((gI s 231 10) = (gI s 235 3)))).toNatClampNeg) (gI (tm_note s 10 (3 + (zb (!decide ((gI s 231 10) = (gI s 235 3)))))) 235 2)) 236 ((zb (!decide ((gI s 231 10) = (gI s 235 3)))).toNatClampNeg) (gJ (tm_note s 10 (3 + (zb (!decide ((gI s 231 10) = (gI s 235 3)))))) 236 2)) 237 ((zb (!decide ((gI s 231 10) = (gI s 235 3)))).toNatClampNeg) (gI (tm_note s 10 (3 + (zb (!decide ((gI s 231 10) = (gI s 235 3)))))) 237 2))) else (if ¬ (gI (tm_note s 10 4) 235 3) = (gI (tm_note s 10 4) 235 4) then (tm_halve (tm_note s 10 4)) else (tm_fail (tm_note s 10 4) 9))) else (tm_take (tm_note s 10 3) 1)) else (tm_find s (gI s 230 12) (gI s 230 12) (gI s 230 12)))
noncomputable def tm_taken : xS → xS := Classical.choose (⟨tm_taken_d, rfl⟩ : ∃ f, f = tm_taken_d)
set_option maxRecDepth 100000 in
theorem tm_taken_eq : tm_taken = tm_taken_d := Classical.choose_spec (⟨tm_taken_d, rfl⟩ : ∃ f, f = tm_taken_d)
def tm_taken_ok (s : xS) : Prop := ((¬ (gI s 231 10) = 0 → ((¬ (gI s 230 12) = 0 → ((¬ (gI s 230 12) = 1 → ((tm_note_ok s 10 (3 + (zb (!decide ((gI s 231 10) = (gI s 235 3)))))) ∧ ((vp_in (zb (!decide ((gI s 231 10) = (gI s 235 3)))) 5) ∧ ((vp_in (zb (!decide ((gI s 231 10) = (gI s 235 3)))) 5) ∧ ((vp_in (zb (!decide ((gI s 231 10) = (gI s 235 3)))) 5) ∧ (tm_halve_ok (sI (sJ (sI (tm_note s 10 (3 + (zb (!decide ((gI s 231 10) = (gI s 235 3)))))) 235 ((zb (!decide ((gI s 231 10) = (gI s 235 3)))).toNatClampNeg) (gI (tm_note s 10 (3 + (zb (!decide ((gI s 231 10) = (gI s 235 3)))))) 235 2)) 236 ((zb (!decide ((gI s 231 10) = (gI s 235 3)))).toNatClampNeg) (gJ (tm_note s 10 (3 + (zb (!decide ((gI s 231 10) = (gI s 235 3)))))) 236 2)) 237 ((zb (!decide ((gI s 231 10) = (gI s 235 3)))).toNatClampNeg) (gI (tm_note s 10 (3 + (zb (!decide ((gI s 231 10) = (gI s 235 3)))))) 237 2)))))))) ∧ ((gI s 230 12) = 1 → ((tm_note_ok s 10 4) ∧ ((¬ (gI (tm_note s 10 4) 235 3) = (gI (tm_note s 10 4) 235 4) → (tm_halve_ok (tm_note s 10 4))) ∧ ((gI (tm_note s 10 4) 235 3) = (gI (tm_note s 10 4) 235 4) → (tm_fail_ok (tm_note s 10 4) 9))))))) ∧ ((gI s 230 12) = 0 → ((tm_note_ok s 10 3) ∧ (tm_take_ok (tm_note s 10 3) 1))))) ∧ ((gI s 231 10) = 0 → (tm_find_ok s (gI s 230 12) (gI s 230 12) (gI s 230 12))))
set_option maxRecDepth 100000 in
theorem m82 {xs : Nat → Int32} {Ls : Nat} {Ψ : xO → xH → Prop} (s : xS) (gq : tm_taken_ok s) (h : Ψ (.inl none) (xhp (tm_taken s))) : xM (xX0 xs Ls) 82 [vr 12 230] (xhp s) Ψ := by
  rw [tm_taken_eq] at h
  unfold tm_taken_d at h
  unfold tm_taken_ok at gq
  exact xM.of (P := p82) rfl rfl rfl (b82_0 s (⟨fun hc => by rw [if_pos hc] at h; replace gq := gq.1 hc; exact ⟨fun hc => by rw [if_pos hc] at h; replace gq := gq.1 hc; exact ⟨fun hc => by rw [if_pos hc] at h; replace gq := gq.1 hc; exact ⟨gq.1, by replace gq := gq.2; exact ⟨gq.1, by replace gq := gq.2; exact ⟨gq.1, by replace gq := gq.2; exact ⟨gq.1, by replace gq := gq.2; exact ⟨gq, h⟩⟩⟩⟩⟩, fun hc => by rw [if_neg (fun z => z hc)] at h; replace gq := gq.2 hc; exact ⟨gq.1, by replace gq := gq.2; exact ⟨fun hc => by rw [if_pos hc] at h; replace gq := gq.1 hc; exact ⟨gq, h⟩, fun hc => by rw [if_neg (fun z => z hc)] at h; replace gq := gq.2 hc; exact ⟨gq, h⟩⟩⟩⟩, fun hc => by rw [if_neg (fun z => z hc)] at h; replace gq := gq.2 hc; exact ⟨gq.1, by replace gq := gq.2; exact ⟨gq, h⟩⟩⟩, fun hc => by rw [if_neg (fun z => z hc)] at h; replace gq := gq.2 hc; exact ⟨gq, h⟩⟩))
/-! tm_step -/
theorem b74_59 {xs : Nat → Int32} {Ls : Nat} {Φ : Option xV → xH → Prop} (s : xS) (g : ((¬ (gI s 230 9) = 1 → ((tm_taken_ok s) ∧ Φ none (xhp (tm_taken s)))) ∧ ((gI s 230 9) = 1 → Φ none (xhp (sI s 230 9 0))))) : xW (xX0 xs Ls) p74 59 [(0, vr 12 230)] [] (xhp s) Φ := by
  refine xW.br (c := ¬ (gI s 230 9) = 1) (pc1 := 75) (L1 := [(0, vr 12 230)]) (st1 := []) (h1 := xhp s) (pc2 := 67) (L2 := [(0, vr 12 230)]) (st2 := []) (h2 := xhp s) 4 (fun _ _ _ _ => rfl) (fun hc => ?_) (fun hc => ?_)
  · replace g := g.1 hc
    refine xW.call (y := 82) (as := [vr 12 230]) (h0 := xhp s) (pc0 := 76) (len := 3) (L0 := [(0, vr 12 230)]) (rest := []) 2 (fun _ _ _ _ => rfl) (m82 _ g.1 ?_)
    show xW (xX0 xs Ls) p74 79 [(0, vr 12 230)] [] (xhp (tm_taken s)) Φ
    replace g := g.2
    exact xW.ret (v0 := none) (h1 := xhp (tm_taken s)) 1 (fun _ _ _ _ => rfl) g
  · replace g := g.2 (Decidable.not_not.mp hc)
    exact xW.ret (v0 := none) (h1 := xhp (sI s 230 9 0)) 5 (fun _ _ _ _ => rfl) g
noncomputable def tm_step_59_d (s : xS) : xS := (if ¬ (gI s 230 9) = 1 then (tm_taken s) else (sI s 230 9 0))
noncomputable def tm_step_59 : xS → xS := Classical.choose (⟨tm_step_59_d, rfl⟩ : ∃ f, f = tm_step_59_d)
set_option maxRecDepth 100000 in
theorem tm_step_59_eq : tm_step_59 = tm_step_59_d := Classical.choose_spec (⟨tm_step_59_d, rfl⟩ : ∃ f, f = tm_step_59_d)
def tm_step_59_ok (s : xS) : Prop := (¬ (gI s 230 9) = 1 → (tm_taken_ok s))
set_option maxRecDepth 100000 in
theorem n74_59 {xs : Nat → Int32} {Ls : Nat} {Φ : Option xV → xH → Prop} (s : xS) (gq : tm_step_59_ok s) (h : Φ none (xhp (tm_step_59 s))) : xW (xX0 xs Ls) p74 59 [(0, vr 12 230)] [] (xhp s) Φ := by
  rw [tm_step_59_eq] at h
  unfold tm_step_59_d at h
  unfold tm_step_59_ok at gq
  exact b74_59 s (⟨fun hc => by rw [if_pos hc] at h; replace gq := gq hc; exact ⟨gq, h⟩, fun hc => by rw [if_neg (fun z => z hc)] at h; exact h⟩)
set_option maxRecDepth 100000 in
theorem b74_48 {xs : Nat → Int32} {Ls : Nat} {Φ : Option xV → xH → Prop} (s : xS) (x1 : Int32) (g : ((¬ x1 = 152 → xW (xX0 xs Ls) p74 59 [(0, vr 12 230)] [] (xhp s) Φ) ∧ (x1 = 152 → xW (xX0 xs Ls) p74 59 [(0, vr 12 230)] [] (xhp (tm_end s)) Φ))) : xW (xX0 xs Ls) p74 48 [(0, vr 12 230), (1, vi x1)] [] (xhp s) Φ := by
  refine xW.br (c := ¬ x1 = 152) (pc1 := 59) (L1 := [(0, vr 12 230), (1, vi x1)]) (st1 := []) (h1 := xhp s) (pc2 := 55) (L2 := [(0, vr 12 230), (1, vi x1)]) (st2 := []) (h2 := xhp s) 3 (fun _ _ _ _ => rfl) (fun hc => ?_) (fun hc => ?_)
  · replace g := g.1 hc
    exact xW.locs (L := [(0, vr 12 230)]) ⟨rfl, trivial⟩ rfl g
  · replace g := g.2 (Decidable.not_not.mp hc)
    refine xW.call (y := 54) (as := [vr 12 230]) (h0 := xhp s) (pc0 := 56) (len := 3) (L0 := [(0, vr 12 230), (1, vi x1)]) (rest := []) 2 (fun _ _ _ _ => rfl) (m54 _ ?_)
    show xW (xX0 xs Ls) p74 59 [(0, vr 12 230), (1, vi x1)] [] (xhp (tm_end s)) Φ
    exact xW.locs (L := [(0, vr 12 230)]) ⟨rfl, trivial⟩ rfl g
noncomputable def tm_step_48_d (s : xS) (x1 : Int32) : xS := (if ¬ x1 = 152 then (tm_step_59 s) else (tm_step_59 (tm_end s)))
noncomputable def tm_step_48 : xS → Int32 → xS := Classical.choose (⟨tm_step_48_d, rfl⟩ : ∃ f, f = tm_step_48_d)
set_option maxRecDepth 100000 in
theorem tm_step_48_eq : tm_step_48 = tm_step_48_d := Classical.choose_spec (⟨tm_step_48_d, rfl⟩ : ∃ f, f = tm_step_48_d)
def tm_step_48_ok (s : xS) (x1 : Int32) : Prop := ((¬ x1 = 152 → (tm_step_59_ok s)) ∧ (x1 = 152 → (tm_step_59_ok (tm_end s))))
set_option maxRecDepth 100000 in
theorem n74_48 {xs : Nat → Int32} {Ls : Nat} {Φ : Option xV → xH → Prop} (s : xS) (x1 : Int32) (gq : tm_step_48_ok s x1) (h : Φ none (xhp (tm_step_48 s x1))) : xW (xX0 xs Ls) p74 48 [(0, vr 12 230), (1, vi x1)] [] (xhp s) Φ := by
  rw [tm_step_48_eq] at h
  unfold tm_step_48_d at h
  unfold tm_step_48_ok at gq
  exact b74_48 s x1 (⟨fun hc => by rw [if_pos hc] at h; replace gq := gq.1 hc; exact n74_59 _ gq h, fun hc => by rw [if_neg (fun z => z hc)] at h; replace gq := gq.2 hc; exact n74_59 _ gq h⟩)
set_option maxRecDepth 100000 in
theorem b74_80 {xs : Nat → Int32} {Ls : Nat} {Φ : Option xV → xH → Prop} (s : xS) (x1 : Int32) (g : ((tm_copy_ok s 0 6) ∧ ((tm_deed_ok (tm_copy s 0 6) x1) ∧ (((tm_deed (tm_copy s 0 6) x1).1 ≤ 0 → Φ none (xhp ((tm_deed (tm_copy s 0 6) x1).2))) ∧ (¬ ((tm_deed (tm_copy s 0 6) x1).1 ≤ 0) → ((tm_copy_ok ((tm_deed (tm_copy s 0 6) x1).2) 6 0) ∧ ((tm_fail_ok (tm_copy ((tm_deed (tm_copy s 0 6) x1).2) 6 0) ((tm_deed (tm_copy s 0 6) x1).1)) ∧ Φ none (xhp (tm_fail (tm_copy ((tm_deed (tm_copy s 0 6) x1).2) 6 0) ((tm_deed (tm_copy s 0 6) x1).1)))))))))) : xW (xX0 xs Ls) p74 80 [(0, vr 12 230), (1, vi x1)] [] (xhp s) Φ := by
  refine xW.call (y := 44) (as := [vr 12 230, vi 0, vi 6]) (h0 := xhp s) (pc0 := 84) (len := 3) (L0 := [(0, vr 12 230), (1, vi x1)]) (rest := []) 4 (fun _ _ _ _ => rfl) (m44 _ _ _ g.1 ?_)
  show xW (xX0 xs Ls) p74 87 [(0, vr 12 230), (1, vi x1)] [] (xhp (tm_copy s 0 6)) Φ
  replace g := g.2
  refine xW.call (y := 73) (as := [vr 12 230, vi x1]) (h0 := xhp (tm_copy s 0 6)) (pc0 := 89) (len := 3) (L0 := [(0, vr 12 230), (1, vi x1)]) (rest := []) 3 (fun _ _ _ _ => rfl) (m73 _ _ g.1 ?_)
  show xW (xX0 xs Ls) p74 92 [(0, vr 12 230), (1, vi x1)] [vi ((tm_deed (tm_copy s 0 6) x1).1)] (xhp ((tm_deed (tm_copy s 0 6) x1).2)) Φ
  replace g := g.2
  refine xW.br (c := (tm_deed (tm_copy s 0 6) x1).1 ≤ 0) (pc1 := 109) (L1 := [(2, vi ((tm_deed (tm_copy s 0 6) x1).1)), (0, vr 12 230), (1, vi x1)]) (st1 := []) (h1 := xhp ((tm_deed (tm_copy s 0 6) x1).2)) (pc2 := 97) (L2 := [(2, vi ((tm_deed (tm_copy s 0 6) x1).1)), (0, vr 12 230), (1, vi x1)]) (st2 := []) (h2 := xhp ((tm_deed (tm_copy s 0 6) x1).2)) 3 (fun _ _ _ _ => rfl) (fun hc => ?_) (fun hc => ?_)
  · replace g := g.1 hc
    exact xW.ret (v0 := none) (h1 := xhp ((tm_deed (tm_copy s 0 6) x1).2)) 1 (fun _ _ _ _ => rfl) g
  · replace g := g.2 hc
    refine xW.call (y := 44) (as := [vr 12 230, vi 6, vi 0]) (h0 := xhp ((tm_deed (tm_copy s 0 6) x1).2)) (pc0 := 101) (len := 3) (L0 := [(2, vi ((tm_deed (tm_copy s 0 6) x1).1)), (0, vr 12 230), (1, vi x1)]) (rest := []) 4 (fun _ _ _ _ => rfl) (m44 _ _ _ g.1 ?_)
    show xW (xX0 xs Ls) p74 104 [(2, vi ((tm_deed (tm_copy s 0 6) x1).1)), (0, vr 12 230), (1, vi x1)] [] (xhp (tm_copy ((tm_deed (tm_copy s 0 6) x1).2) 6 0)) Φ
    replace g := g.2
    refine xW.call (y := 75) (as := [vr 12 230, vi ((tm_deed (tm_copy s 0 6) x1).1)]) (h0 := xhp (tm_copy ((tm_deed (tm_copy s 0 6) x1).2) 6 0)) (pc0 := 106) (len := 3) (L0 := [(2, vi ((tm_deed (tm_copy s 0 6) x1).1)), (0, vr 12 230), (1, vi x1)]) (rest := []) 3 (fun _ _ _ _ => rfl) (m75 _ _ g.1 ?_)
    show xW (xX0 xs Ls) p74 109 [(2, vi ((tm_deed (tm_copy s 0 6) x1).1)), (0, vr 12 230), (1, vi x1)] [] (xhp (tm_fail (tm_copy ((tm_deed (tm_copy s 0 6) x1).2) 6 0) ((tm_deed (tm_copy s 0 6) x1).1))) Φ
    replace g := g.2
    exact xW.ret (v0 := none) (h1 := xhp (tm_fail (tm_copy ((tm_deed (tm_copy s 0 6) x1).2) 6 0) ((tm_deed (tm_copy s 0 6) x1).1))) 1 (fun _ _ _ _ => rfl) g
noncomputable def tm_step_80_d (s : xS) (x1 : Int32) : xS := (if (tm_deed (tm_copy s 0 6) x1).1 ≤ 0 then ((tm_deed (tm_copy s 0 6) x1).2) else (tm_fail (tm_copy ((tm_deed (tm_copy s 0 6) x1).2) 6 0) ((tm_deed (tm_copy s 0 6) x1).1)))
noncomputable def tm_step_80 : xS → Int32 → xS := Classical.choose (⟨tm_step_80_d, rfl⟩ : ∃ f, f = tm_step_80_d)
set_option maxRecDepth 100000 in
theorem tm_step_80_eq : tm_step_80 = tm_step_80_d := Classical.choose_spec (⟨tm_step_80_d, rfl⟩ : ∃ f, f = tm_step_80_d)
def tm_step_80_ok (s : xS) (x1 : Int32) : Prop := ((tm_copy_ok s 0 6) ∧ ((tm_deed_ok (tm_copy s 0 6) x1) ∧ (¬ ((tm_deed (tm_copy s 0 6) x1).1 ≤ 0) → ((tm_copy_ok ((tm_deed (tm_copy s 0 6) x1).2) 6 0) ∧ (tm_fail_ok (tm_copy ((tm_deed (tm_copy s 0 6) x1).2) 6 0) ((tm_deed (tm_copy s 0 6) x1).1))))))
set_option maxRecDepth 100000 in
theorem n74_80 {xs : Nat → Int32} {Ls : Nat} {Φ : Option xV → xH → Prop} (s : xS) (x1 : Int32) (gq : tm_step_80_ok s x1) (h : Φ none (xhp (tm_step_80 s x1))) : xW (xX0 xs Ls) p74 80 [(0, vr 12 230), (1, vi x1)] [] (xhp s) Φ := by
  rw [tm_step_80_eq] at h
  unfold tm_step_80_d at h
  unfold tm_step_80_ok at gq
  exact b74_80 s x1 (⟨gq.1, by replace gq := gq.2; exact ⟨gq.1, by replace gq := gq.2; exact ⟨fun hc => by rw [if_pos hc] at h; exact h, fun hc => by rw [if_neg hc] at h; replace gq := gq hc; exact ⟨gq.1, by replace gq := gq.2; exact ⟨gq, h⟩⟩⟩⟩⟩)
set_option maxRecDepth 100000 in
theorem b74_22 {xs : Nat → Int32} {Ls : Nat} {Φ : Option xV → xH → Prop} (s : xS) (y0 : Int32) (g : ((y0 = 0 → xW (xX0 xs Ls) p74 48 [(0, vr 12 230), (1, vi y0)] [] (xhp s) Φ) ∧ (¬ (y0 = 0) → ((y0 = 153 → xW (xX0 xs Ls) p74 48 [(0, vr 12 230), (1, vi y0)] [] (xhp s) Φ) ∧ (¬ (y0 = 153) → ((¬ y0 = 152 → xW (xX0 xs Ls) p74 80 [(0, vr 12 230), (1, vi y0)] [] (xhp s) Φ) ∧ (y0 = 152 → ((¬ (gI s 230 8) = 0 → xW (xX0 xs Ls) p74 80 [(0, vr 12 230), (1, vi y0)] [] (xhp s) Φ) ∧ ((gI s 230 8) = 0 → xW (xX0 xs Ls) p74 48 [(0, vr 12 230), (1, vi y0)] [] (xhp s) Φ))))))))) : xW (xX0 xs Ls) p74 22 [(0, vr 12 230)] [vi y0] (xhp s) Φ := by
  refine xW.br (c := y0 = 0) (pc1 := 48) (L1 := [(1, vi y0), (0, vr 12 230)]) (st1 := []) (h1 := xhp s) (pc2 := 27) (L2 := [(1, vi y0), (0, vr 12 230)]) (st2 := []) (h2 := xhp s) 3 (fun _ _ _ _ => rfl) (fun hc => ?_) (fun hc => ?_)
  · replace g := g.1 hc
    exact xW.locs (L := [(0, vr 12 230), (1, vi y0)]) ⟨rfl, rfl, trivial⟩ rfl g
  · replace g := g.2 hc
    refine xW.br (c := y0 = 153) (pc1 := 48) (L1 := [(1, vi y0), (0, vr 12 230)]) (st1 := []) (h1 := xhp s) (pc2 := 34) (L2 := [(1, vi y0), (0, vr 12 230)]) (st2 := []) (h2 := xhp s) 3 (fun _ _ _ _ => rfl) (fun hc => ?_) (fun hc => ?_)
    · replace g := g.1 hc
      exact xW.locs (L := [(0, vr 12 230), (1, vi y0)]) ⟨rfl, rfl, trivial⟩ rfl g
    · replace g := g.2 hc
      refine xW.br (c := ¬ y0 = 152) (pc1 := 80) (L1 := [(1, vi y0), (0, vr 12 230)]) (st1 := []) (h1 := xhp s) (pc2 := 41) (L2 := [(1, vi y0), (0, vr 12 230)]) (st2 := []) (h2 := xhp s) 3 (fun _ _ _ _ => rfl) (fun hc => ?_) (fun hc => ?_)
      · replace g := g.1 hc
        exact xW.locs (L := [(0, vr 12 230), (1, vi y0)]) ⟨rfl, rfl, trivial⟩ rfl g
      · replace g := g.2 (Decidable.not_not.mp hc)
        refine xW.br (c := ¬ (gI s 230 8) = 0) (pc1 := 80) (L1 := [(1, vi y0), (0, vr 12 230)]) (st1 := []) (h1 := xhp s) (pc2 := 48) (L2 := [(1, vi y0), (0, vr 12 230)]) (st2 := []) (h2 := xhp s) 3 (fun _ _ _ _ => rfl) (fun hc => ?_) (fun hc => ?_)
        · replace g := g.1 hc
          exact xW.locs (L := [(0, vr 12 230), (1, vi y0)]) ⟨rfl, rfl, trivial⟩ rfl g
        · replace g := g.2 (Decidable.not_not.mp hc)
          exact xW.locs (L := [(0, vr 12 230), (1, vi y0)]) ⟨rfl, rfl, trivial⟩ rfl g
noncomputable def tm_step_22_d (s : xS) (y0 : Int32) : xS := (if y0 = 0 then (tm_step_48 s y0) else (if y0 = 153 then (tm_step_48 s y0) else (if ¬ y0 = 152 then (tm_step_80 s y0) else (if ¬ (gI s 230 8) = 0 then (tm_step_80 s y0) else (tm_step_48 s y0)))))
noncomputable def tm_step_22 : xS → Int32 → xS := Classical.choose (⟨tm_step_22_d, rfl⟩ : ∃ f, f = tm_step_22_d)
set_option maxRecDepth 100000 in
theorem tm_step_22_eq : tm_step_22 = tm_step_22_d := Classical.choose_spec (⟨tm_step_22_d, rfl⟩ : ∃ f, f = tm_step_22_d)
def tm_step_22_ok (s : xS) (y0 : Int32) : Prop := ((y0 = 0 → (tm_step_48_ok s y0)) ∧ (¬ (y0 = 0) → ((y0 = 153 → (tm_step_48_ok s y0)) ∧ (¬ (y0 = 153) → ((¬ y0 = 152 → (tm_step_80_ok s y0)) ∧ (y0 = 152 → ((¬ (gI s 230 8) = 0 → (tm_step_80_ok s y0)) ∧ ((gI s 230 8) = 0 → (tm_step_48_ok s y0)))))))))
set_option maxRecDepth 100000 in
theorem n74_22 {xs : Nat → Int32} {Ls : Nat} {Φ : Option xV → xH → Prop} (s : xS) (y0 : Int32) (gq : tm_step_22_ok s y0) (h : Φ none (xhp (tm_step_22 s y0))) : xW (xX0 xs Ls) p74 22 [(0, vr 12 230)] [vi y0] (xhp s) Φ := by
  rw [tm_step_22_eq] at h
  unfold tm_step_22_d at h
  unfold tm_step_22_ok at gq
  exact b74_22 s y0 (⟨fun hc => by rw [if_pos hc] at h; replace gq := gq.1 hc; exact n74_48 _ _ gq h, fun hc => by rw [if_neg hc] at h; replace gq := gq.2 hc; exact ⟨fun hc => by rw [if_pos hc] at h; replace gq := gq.1 hc; exact n74_48 _ _ gq h, fun hc => by rw [if_neg hc] at h; replace gq := gq.2 hc; exact ⟨fun hc => by rw [if_pos hc] at h; replace gq := gq.1 hc; exact n74_80 _ _ gq h, fun hc => by rw [if_neg (fun z => z hc)] at h; replace gq := gq.2 hc; exact ⟨fun hc => by rw [if_pos hc] at h; replace gq := gq.1 hc; exact n74_80 _ _ gq h, fun hc => by rw [if_neg (fun z => z hc)] at h; replace gq := gq.2 hc; exact n74_48 _ _ gq h⟩⟩⟩⟩)
set_option maxRecDepth 100000 in
theorem b74_0 {xs : Nat → Int32} {Ls : Nat} {Φ : Option xV → xH → Prop} (s : xS) (g : (((gI s 230 10) ≤ 99 → ((vp_in (gI s 230 10) 100) ∧ xW (xX0 xs Ls) p74 22 [(0, vr 12 230)] [vi (gI s 233 ((gI s 230 10).toNatClampNeg))] (xhp s) Φ)) ∧ (¬ ((gI s 230 10) ≤ 99) → xW (xX0 xs Ls) p74 22 [(0, vr 12 230)] [vi 0] (xhp s) Φ))) : xW (xX0 xs Ls) p74 0 [(0, vr 12 230)] [] (xhp s) Φ := by
  refine xW.br (c := (gI s 230 10) ≤ 99) (pc1 := 13) (L1 := [(0, vr 12 230)]) (st1 := []) (h1 := xhp s) (pc2 := 9) (L2 := [(0, vr 12 230)]) (st2 := []) (h2 := xhp s) 4 (fun _ _ _ _ => rfl) (fun hc => ?_) (fun hc => ?_)
  · replace g := g.1 hc
    refine xW.side (c := vp_in (gI s 230 10) 100) (pc1 := 22) (L1 := [(0, vr 12 230)]) (st1 := [vi (gI s 233 ((gI s 230 10).toNatClampNeg))]) (h1 := xhp s) 5 (fun _ _ _ _ => rfl) g.1 ?_
    replace g := g.2
    exact g
  · replace g := g.2 hc
    refine xW.seg (pc1 := 22) (L1 := [(0, vr 12 230)]) (st1 := [vi 0]) (h1 := xhp s) 2 (fun _ _ _ _ => rfl) ?_
    exact g
noncomputable def tm_step_d (s : xS) : xS := (if (gI s 230 10) ≤ 99 then (tm_step_22 s (gI s 233 ((gI s 230 10).toNatClampNeg))) else (tm_step_22 s 0))
noncomputable def tm_step : xS → xS := Classical.choose (⟨tm_step_d, rfl⟩ : ∃ f, f = tm_step_d)
set_option maxRecDepth 100000 in
theorem tm_step_eq : tm_step = tm_step_d := Classical.choose_spec (⟨tm_step_d, rfl⟩ : ∃ f, f = tm_step_d)
def tm_step_ok (s : xS) : Prop := (((gI s 230 10) ≤ 99 → ((vp_in (gI s 230 10) 100) ∧ (tm_step_22_ok s (gI s 233 ((gI s 230 10).toNatClampNeg))))) ∧ (¬ ((gI s 230 10) ≤ 99) → (tm_step_22_ok s 0)))
set_option maxRecDepth 100000 in
theorem m74 {xs : Nat → Int32} {Ls : Nat} {Ψ : xO → xH → Prop} (s : xS) (gq : tm_step_ok s) (h : Ψ (.inl none) (xhp (tm_step s))) : xM (xX0 xs Ls) 74 [vr 12 230] (xhp s) Ψ := by
  rw [tm_step_eq] at h
  unfold tm_step_d at h
  unfold tm_step_ok at gq
  exact xM.of (P := p74) rfl rfl rfl (b74_0 s (⟨fun hc => by rw [if_pos hc] at h; replace gq := gq.1 hc; exact ⟨gq.1, by replace gq := gq.2; exact n74_22 _ _ gq h⟩, fun hc => by rw [if_neg hc] at h; replace gq := gq.2 hc; exact n74_22 _ _ gq h⟩))
