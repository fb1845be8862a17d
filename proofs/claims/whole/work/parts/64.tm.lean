/-! tm_show -/
theorem b96_0 {xs : Nat → Int32} {Ls : Nat} {Φ : Option xV → xH → Prop} (s : xS) (c : Int32) (g : ((vp_in (gI s 230 20) 24) ∧ Φ none (xhp (sI (sI s 238 ((gI s 230 20).toNatClampNeg) c) 230 20 ((gI s 230 20) + 1))))) : xW (xX0 xs Ls) p96 0 [(0, vr 12 230), (1, vi c)] [] (xhp s) Φ := by
  refine xW.side (c := vp_in (gI s 230 20) 24) (pc1 := 10) (L1 := [(0, vr 12 230), (1, vi c)]) (st1 := []) (h1 := xhp (sI s 238 ((gI s 230 20).toNatClampNeg) c)) 6 (fun _ _ _ _ => rfl) g.1 ?_
  replace g := g.2
  exact xW.ret (v0 := none) (h1 := xhp (sI (sI s 238 ((gI s 230 20).toNatClampNeg) c) 230 20 ((gI s 230 20) + 1))) 7 (fun _ _ _ _ => rfl) g
noncomputable def tm_show_d (s : xS) (c : Int32) : xS := (sI (sI s 238 ((gI s 230 20).toNatClampNeg) c) 230 20 ((gI s 230 20) + 1))
noncomputable def tm_show : xS → Int32 → xS := Classical.choose (⟨tm_show_d, rfl⟩ : ∃ f, f = tm_show_d)
set_option maxRecDepth 100000 in
theorem tm_show_eq : tm_show = tm_show_d := Classical.choose_spec (⟨tm_show_d, rfl⟩ : ∃ f, f = tm_show_d)
def tm_show_ok (s : xS) (c : Int32) : Prop := (vp_in (gI s 230 20) 24)
set_option maxRecDepth 100000 in
theorem m96 {xs : Nat → Int32} {Ls : Nat} {Ψ : xO → xH → Prop} (s : xS) (c : Int32) (gq : tm_show_ok s c) (h : Ψ (.inl none) (xhp (tm_show s c))) : xM (xX0 xs Ls) 96 [vr 12 230, vi c] (xhp s) Ψ := by
  rw [tm_show_eq] at h
  unfold tm_show_d at h
  unfold tm_show_ok at gq
  exact xM.of (P := p96) rfl rfl rfl (b96_0 s c (⟨gq, h⟩))
/-! tm_showFigures -/
theorem b97_29 {xs : Nat → Int32} {Ls : Nat} {Φ : Option xV → xH → Prop} (s : xS) (x1 : Int64) (x3 : Int32) (x4 : Int64) (x6 : Int32) (g : ((x3 ≤ x6 → Φ none (xhp s)) ∧ (¬ (x3 ≤ x6) → ((¬ x4 = 0) ∧ ((tm_show_ok s (48 + (((x1 / x4) - (x1 / x4) / 10 * 10).toInt32))) ∧ ((x4 ≤ 1 → xW (xX0 xs Ls) p97 29 [(0, vr 12 230), (1, vl x1), (3, vi x3), (4, vl 1), (6, vi (x6 + 1))] [] (xhp (tm_show s (48 + (((x1 / x4) - (x1 / x4) / 10 * 10).toInt32)))) Φ) ∧ (¬ (x4 ≤ 1) → xW (xX0 xs Ls) p97 29 [(0, vr 12 230), (1, vl x1), (3, vi x3), (4, vl (x4 / 10)), (6, vi (x6 + 1))] [] (xhp (tm_show s (48 + (((x1 / x4) - (x1 / x4) / 10 * 10).toInt32)))) Φ))))))) : xW (xX0 xs Ls) p97 29 [(0, vr 12 230), (1, vl x1), (3, vi x3), (4, vl x4), (6, vi x6)] [] (xhp s) Φ := by
  refine xW.br (c := x3 ≤ x6) (pc1 := 76) (L1 := [(0, vr 12 230), (1, vl x1), (3, vi x3), (4, vl x4), (6, vi x6)]) (st1 := []) (h1 := xhp s) (pc2 := 35) (L2 := [(0, vr 12 230), (1, vl x1), (3, vi x3), (4, vl x4), (6, vi x6)]) (st2 := []) (h2 := xhp s) 3 (fun _ _ _ _ => rfl) (fun hc => ?_) (fun hc => ?_)
  · replace g := g.1 hc
    exact xW.ret (v0 := none) (h1 := xhp s) 1 (fun _ _ _ _ => rfl) g
  · replace g := g.2 hc
    refine xW.side (c := ¬ x4 = 0) (pc1 := 42) (L1 := [(0, vr 12 230), (1, vl x1), (3, vi x3), (4, vl x4), (6, vi x6)]) (st1 := [vl (x1 / x4), vi 48, vr 12 230]) (h1 := xhp s) 5 (fun _ _ _ _ => rfl) g.1 ?_
    replace g := g.2
    refine xW.side (c := ¬ (10 : Int64) = 0) (pc1 := 46) (L1 := [(0, vr 12 230), (1, vl x1), (3, vi x3), (4, vl x4), (6, vi x6)]) (st1 := [vl ((x1 / x4) - (x1 / x4) / 10 * 10), vi 48, vr 12 230]) (h1 := xhp s) 2 (fun _ _ _ _ => rfl) (by decide) ?_
    refine xW.call (y := 96) (as := [vr 12 230, vi (48 + (((x1 / x4) - (x1 / x4) / 10 * 10).toInt32))]) (h0 := xhp s) (pc0 := 48) (len := 3) (L0 := [(0, vr 12 230), (1, vl x1), (3, vi x3), (4, vl x4), (6, vi x6)]) (rest := []) 3 (fun _ _ _ _ => rfl) (m96 _ _ g.1 ?_)
    show xW (xX0 xs Ls) p97 51 [(0, vr 12 230), (1, vl x1), (3, vi x3), (4, vl x4), (6, vi x6)] [] (xhp (tm_show s (48 + (((x1 / x4) - (x1 / x4) / 10 * 10).toInt32)))) Φ
    replace g := g.2
    refine xW.br (c := (lg_cmp x4 1) ≤ 0) (pc1 := 67) (L1 := [(0, vr 12 230), (1, vl x1), (3, vi x3), (4, vl x4), (6, vi x6)]) (st1 := []) (h1 := xhp (tm_show s (48 + (((x1 / x4) - (x1 / x4) / 10 * 10).toInt32)))) (pc2 := 58) (L2 := [(0, vr 12 230), (1, vl x1), (3, vi x3), (4, vl x4), (6, vi x6)]) (st2 := []) (h2 := xhp (tm_show s (48 + (((x1 / x4) - (x1 / x4) / 10 * 10).toInt32)))) 4 (fun _ _ _ _ => rfl) (fun hc => ?_) (fun hc => ?_)
    · replace g := g.1 (lc_le.mp hc)
      refine xW.seg (pc1 := 29) (L1 := [(6, vi (x6 + 1)), (4, vl 1), (0, vr 12 230), (1, vl x1), (3, vi x3)]) (st1 := []) (h1 := xhp (tm_show s (48 + (((x1 / x4) - (x1 / x4) / 10 * 10).toInt32)))) 4 (fun _ _ _ _ => rfl) ?_
      exact xW.locs (L := [(0, vr 12 230), (1, vl x1), (3, vi x3), (4, vl 1), (6, vi (x6 + 1))]) ⟨rfl, rfl, rfl, rfl, rfl, trivial⟩ rfl g
    · replace g := g.2 (fun q => hc (lc_le.mpr q))
      refine xW.side (c := ¬ (10 : Int64) = 0) (pc1 := 64) (L1 := [(0, vr 12 230), (1, vl x1), (3, vi x3), (4, vl x4), (6, vi x6)]) (st1 := [vl (x4 / 10)]) (h1 := xhp (tm_show s (48 + (((x1 / x4) - (x1 / x4) / 10 * 10).toInt32)))) 3 (fun _ _ _ _ => rfl) (by decide) ?_
      refine xW.seg (pc1 := 29) (L1 := [(6, vi (x6 + 1)), (4, vl (x4 / 10)), (0, vr 12 230), (1, vl x1), (3, vi x3)]) (st1 := []) (h1 := xhp (tm_show s (48 + (((x1 / x4) - (x1 / x4) / 10 * 10).toInt32)))) 4 (fun _ _ _ _ => rfl) ?_
      exact xW.locs (L := [(0, vr 12 230), (1, vl x1), (3, vi x3), (4, vl (x4 / 10)), (6, vi (x6 + 1))]) ⟨rfl, rfl, rfl, rfl, rfl, trivial⟩ rfl g
noncomputable def tm_showFigures_29 : Nat → xS → Int64 → Int32 → Int64 → Int32 → xS
  | 0, s, _, _, _, _ => s
  | n + 1, s, x1, x3, x4, x6 => (if x3 ≤ x6 then s else (if x4 ≤ 1 then (tm_showFigures_29 n (tm_show s (48 + (((x1 / x4) - (x1 / x4) / 10 * 10).toInt32))) x1 x3 1 (x6 + 1)) else (tm_showFigures_29 n (tm_show s (48 + (((x1 / x4) - (x1 / x4) / 10 * 10).toInt32))) x1 x3 (x4 / 10) (x6 + 1))))
def tm_showFigures_29_ok : Nat → xS → Int64 → Int32 → Int64 → Int32 → Prop
  | 0, _, _, _, _, _ => False
  | n + 1, s, x1, x3, x4, x6 => (¬ (x3 ≤ x6) → ((¬ x4 = 0) ∧ ((tm_show_ok s (48 + (((x1 / x4) - (x1 / x4) / 10 * 10).toInt32))) ∧ ((x4 ≤ 1 → (tm_showFigures_29_ok n (tm_show s (48 + (((x1 / x4) - (x1 / x4) / 10 * 10).toInt32))) x1 x3 1 (x6 + 1))) ∧ (¬ (x4 ≤ 1) → (tm_showFigures_29_ok n (tm_show s (48 + (((x1 / x4) - (x1 / x4) / 10 * 10).toInt32))) x1 x3 (x4 / 10) (x6 + 1)))))))
set_option maxRecDepth 100000 in
theorem n97_29 {xs : Nat → Int32} {Ls : Nat} {Φ : Option xV → xH → Prop} : ∀ (n : Nat) (s : xS) (x1 : Int64) (x3 : Int32) (x4 : Int64) (x6 : Int32), tm_showFigures_29_ok n s x1 x3 x4 x6 → Φ none (xhp (tm_showFigures_29 n s x1 x3 x4 x6)) → xW (xX0 xs Ls) p97 29 [(0, vr 12 230), (1, vl x1), (3, vi x3), (4, vl x4), (6, vi x6)] [] (xhp s) Φ := by
  intro n
  induction n with
  | zero => intro s _ _ _ _ gq; exact gq.elim
  | succ n ih =>
    intro s x1 x3 x4 x6 gq h
    unfold tm_showFigures_29_ok at gq
    unfold tm_showFigures_29 at h
    exact b97_29 s x1 x3 x4 x6 (⟨fun hc => by rw [if_pos hc] at h; exact h, fun hc => by rw [if_neg hc] at h; replace gq := gq hc; exact ⟨gq.1, by replace gq := gq.2; exact ⟨gq.1, by replace gq := gq.2; exact ⟨fun hc => by rw [if_pos hc] at h; replace gq := gq.1 hc; exact ih _ _ _ _ _ gq h, fun hc => by rw [if_neg hc] at h; replace gq := gq.2 hc; exact ih _ _ _ _ _ gq h⟩⟩⟩⟩)
set_option maxRecDepth 100000 in
theorem b97_6 {xs : Nat → Int32} {Ls : Nat} {Φ : Option xV → xH → Prop} (s : xS) (x1 : Int64) (x3 : Int32) (x4 : Int64) (x6 : Int32) (g : ((x3 ≤ x6 → xW (xX0 xs Ls) p97 29 [(0, vr 12 230), (1, vl x1), (3, vi x3), (4, vl x4), (6, vi 0)] [] (xhp s) Φ) ∧ (¬ (x3 ≤ x6) → xW (xX0 xs Ls) p97 6 [(0, vr 12 230), (1, vl x1), (3, vi x3), (4, vl (10 * x4)), (6, vi (x6 + 1))] [] (xhp s) Φ))) : xW (xX0 xs Ls) p97 6 [(0, vr 12 230), (1, vl x1), (3, vi x3), (4, vl x4), (6, vi x6)] [] (xhp s) Φ := by
  refine xW.br (c := x3 ≤ x6) (pc1 := 26) (L1 := [(0, vr 12 230), (1, vl x1), (3, vi x3), (4, vl x4), (6, vi x6)]) (st1 := []) (h1 := xhp s) (pc2 := 12) (L2 := [(0, vr 12 230), (1, vl x1), (3, vi x3), (4, vl x4), (6, vi x6)]) (st2 := []) (h2 := xhp s) 3 (fun _ _ _ _ => rfl) (fun hc => ?_) (fun hc => ?_)
  · replace g := g.1 hc
    refine xW.seg (pc1 := 29) (L1 := [(6, vi 0), (0, vr 12 230), (1, vl x1), (3, vi x3), (4, vl x4)]) (st1 := []) (h1 := xhp s) 2 (fun _ _ _ _ => rfl) ?_
    exact xW.locs (L := [(0, vr 12 230), (1, vl x1), (3, vi x3), (4, vl x4), (6, vi 0)]) ⟨rfl, rfl, rfl, rfl, rfl, trivial⟩ rfl g
  · replace g := g.2 hc
    refine xW.seg (pc1 := 6) (L1 := [(6, vi (x6 + 1)), (4, vl (10 * x4)), (0, vr 12 230), (1, vl x1), (3, vi x3)]) (st1 := []) (h1 := xhp s) 6 (fun _ _ _ _ => rfl) ?_
    exact xW.locs (L := [(0, vr 12 230), (1, vl x1), (3, vi x3), (4, vl (10 * x4)), (6, vi (x6 + 1))]) ⟨rfl, rfl, rfl, rfl, rfl, trivial⟩ rfl g
noncomputable def tm_showFigures_6 : Nat → xS → Int64 → Int32 → Int64 → Int32 → xS
  | 0, s, _, _, _, _ => s
  | n + 1, s, x1, x3, x4, x6 => (if x3 ≤ x6 then (tm_showFigures_29 xfu s x1 x3 x4 0) else (tm_showFigures_6 n s x1 x3 (10 * x4) (x6 + 1)))
def tm_showFigures_6_ok : Nat → xS → Int64 → Int32 → Int64 → Int32 → Prop
  | 0, _, _, _, _, _ => False
  | n + 1, s, x1, x3, x4, x6 => ((x3 ≤ x6 → (tm_showFigures_29_ok xfu s x1 x3 x4 0)) ∧ (¬ (x3 ≤ x6) → (tm_showFigures_6_ok n s x1 x3 (10 * x4) (x6 + 1))))
set_option maxRecDepth 100000 in
theorem n97_6 {xs : Nat → Int32} {Ls : Nat} {Φ : Option xV → xH → Prop} : ∀ (n : Nat) (s : xS) (x1 : Int64) (x3 : Int32) (x4 : Int64) (x6 : Int32), tm_showFigures_6_ok n s x1 x3 x4 x6 → Φ none (xhp (tm_showFigures_6 n s x1 x3 x4 x6)) → xW (xX0 xs Ls) p97 6 [(0, vr 12 230), (1, vl x1), (3, vi x3), (4, vl x4), (6, vi x6)] [] (xhp s) Φ := by
  intro n
  induction n with
  | zero => intro s _ _ _ _ gq; exact gq.elim
  | succ n ih =>
    intro s x1 x3 x4 x6 gq h
    unfold tm_showFigures_6_ok at gq
    unfold tm_showFigures_6 at h
    exact b97_6 s x1 x3 x4 x6 (⟨fun hc => by rw [if_pos hc] at h; replace gq := gq.1 hc; exact n97_29 _ _ _ _ _ _ gq h, fun hc => by rw [if_neg hc] at h; replace gq := gq.2 hc; exact ih _ _ _ _ _ gq h⟩)
set_option maxRecDepth 100000 in
theorem b97_0 {xs : Nat → Int32} {Ls : Nat} {Φ : Option xV → xH → Prop} (s : xS) (w : Int64) (c : Int32) (g : xW (xX0 xs Ls) p97 6 [(0, vr 12 230), (1, vl w), (3, vi c), (4, vl 1), (6, vi 1)] [] (xhp s) Φ) : xW (xX0 xs Ls) p97 0 [(0, vr 12 230), (1, vl w), (3, vi c)] [] (xhp s) Φ := by
  refine xW.seg (pc1 := 6) (L1 := [(6, vi 1), (4, vl 1), (0, vr 12 230), (1, vl w), (3, vi c)]) (st1 := []) (h1 := xhp s) 4 (fun _ _ _ _ => rfl) ?_
  exact xW.locs (L := [(0, vr 12 230), (1, vl w), (3, vi c), (4, vl 1), (6, vi 1)]) ⟨rfl, rfl, rfl, rfl, rfl, trivial⟩ rfl g
noncomputable def tm_showFigures_d (s : xS) (w : Int64) (c : Int32) : xS := (tm_showFigures_6 xfu s w c 1 1)
noncomputable def tm_showFigures : xS → Int64 → Int32 → xS := Classical.choose (⟨tm_showFigures_d, rfl⟩ : ∃ f, f = tm_showFigures_d)
set_option maxRecDepth 100000 in
theorem tm_showFigures_eq : tm_showFigures = tm_showFigures_d := Classical.choose_spec (⟨tm_showFigures_d, rfl⟩ : ∃ f, f = tm_showFigures_d)
def tm_showFigures_ok (s : xS) (w : Int64) (c : Int32) : Prop := (tm_showFigures_6_ok xfu s w c 1 1)
set_option maxRecDepth 100000 in
theorem m97 {xs : Nat → Int32} {Ls : Nat} {Ψ : xO → xH → Prop} (s : xS) (w : Int64) (c : Int32) (gq : tm_showFigures_ok s w c) (h : Ψ (.inl none) (xhp (tm_showFigures s w c))) : xM (xX0 xs Ls) 97 [vr 12 230, vl w, vi c] (xhp s) Ψ := by
  rw [tm_showFigures_eq] at h
  unfold tm_showFigures_d at h
  unfold tm_showFigures_ok at gq
  exact xM.of (P := p97) rfl rfl rfl (b97_0 s w c (n97_6 _ _ _ _ _ _ gq h))
/-! tm_ten -/
theorem b98_4 {xs : Nat → Int32} {Ls : Nat} {Φ : Option xV → xH → Prop} (s : xS) (x0 : Int32) (x1 : Int64) (x3 : Int32) (g : ((x0 ≤ x3 → Φ (some (vl x1)) (xhp s)) ∧ (¬ (x0 ≤ x3) → xW (xX0 xs Ls) p98 4 [(0, vi x0), (1, vl (10 * x1)), (3, vi (x3 + 1))] [] (xhp s) Φ))) : xW (xX0 xs Ls) p98 4 [(0, vi x0), (1, vl x1), (3, vi x3)] [] (xhp s) Φ := by
  refine xW.br (c := x0 ≤ x3) (pc1 := 21) (L1 := [(0, vi x0), (1, vl x1), (3, vi x3)]) (st1 := []) (h1 := xhp s) (pc2 := 9) (L2 := [(0, vi x0), (1, vl x1), (3, vi x3)]) (st2 := []) (h2 := xhp s) 3 (fun _ _ _ _ => rfl) (fun hc => ?_) (fun hc => ?_)
  · replace g := g.1 hc
    exact xW.ret (v0 := some (vl x1)) (h1 := xhp s) 2 (fun _ _ _ _ => rfl) g
  · replace g := g.2 hc
    refine xW.seg (pc1 := 4) (L1 := [(3, vi (x3 + 1)), (1, vl (10 * x1)), (0, vi x0)]) (st1 := []) (h1 := xhp s) 6 (fun _ _ _ _ => rfl) ?_
    exact xW.locs (L := [(0, vi x0), (1, vl (10 * x1)), (3, vi (x3 + 1))]) ⟨rfl, rfl, rfl, trivial⟩ rfl g
noncomputable def tm_ten_4 : Nat → xS → Int32 → Int64 → Int32 → Int64
  | 0, s, _, _, _ => 0
  | n + 1, s, x0, x1, x3 => (if x0 ≤ x3 then x1 else (tm_ten_4 n s x0 (10 * x1) (x3 + 1)))
def tm_ten_4_ok : Nat → xS → Int32 → Int64 → Int32 → Prop
  | 0, _, _, _, _ => False
  | n + 1, s, x0, x1, x3 => (¬ (x0 ≤ x3) → (tm_ten_4_ok n s x0 (10 * x1) (x3 + 1)))
set_option maxRecDepth 100000 in
theorem n98_4 {xs : Nat → Int32} {Ls : Nat} {Φ : Option xV → xH → Prop} : ∀ (n : Nat) (s : xS) (x0 : Int32) (x1 : Int64) (x3 : Int32), tm_ten_4_ok n s x0 x1 x3 → Φ (some (vl (tm_ten_4 n s x0 x1 x3))) (xhp s) → xW (xX0 xs Ls) p98 4 [(0, vi x0), (1, vl x1), (3, vi x3)] [] (xhp s) Φ := by
  intro n
  induction n with
  | zero => intro s _ _ _ gq; exact gq.elim
  | succ n ih =>
    intro s x0 x1 x3 gq h
    unfold tm_ten_4_ok at gq
    unfold tm_ten_4 at h
    exact b98_4 s x0 x1 x3 (⟨fun hc => by rw [if_pos hc] at h; exact h, fun hc => by rw [if_neg hc] at h; replace gq := gq hc; exact ih _ _ _ _ gq h⟩)
set_option maxRecDepth 100000 in
theorem b98_0 {xs : Nat → Int32} {Ls : Nat} {Φ : Option xV → xH → Prop} (s : xS) (c : Int32) (g : xW (xX0 xs Ls) p98 4 [(0, vi c), (1, vl 1), (3, vi 0)] [] (xhp s) Φ) : xW (xX0 xs Ls) p98 0 [(0, vi c)] [] (xhp s) Φ := by
  refine xW.seg (pc1 := 4) (L1 := [(3, vi 0), (1, vl 1), (0, vi c)]) (st1 := []) (h1 := xhp s) 4 (fun _ _ _ _ => rfl) ?_
  exact xW.locs (L := [(0, vi c), (1, vl 1), (3, vi 0)]) ⟨rfl, rfl, rfl, trivial⟩ rfl g
noncomputable def tm_ten (s : xS) (c : Int32) : Int64 := (tm_ten_4 xfu s c 1 0)
def tm_ten_ok (s : xS) (c : Int32) : Prop := (tm_ten_4_ok xfu s c 1 0)
set_option maxRecDepth 100000 in
theorem m98 {xs : Nat → Int32} {Ls : Nat} {Ψ : xO → xH → Prop} (s : xS) (c : Int32) (gq : tm_ten_ok s c) (h : Ψ (.inl (some (vl (tm_ten s c)))) (xhp s)) : xM (xX0 xs Ls) 98 [vi c] (xhp s) Ψ := by
  unfold tm_ten at h
  unfold tm_ten_ok at gq
  exact xM.of (P := p98) rfl rfl rfl (b98_0 s c (n98_4 _ _ _ _ _ gq h))
/-! tm_cut -/
theorem b99_0 {xs : Nat → Int32} {Ls : Nat} {Φ : Option xV → xH → Prop} (s : xS) (w : Int64) (c : Int32) (g : ((c ≤ 13 → ((tm_ten_ok s c) ∧ ((¬ (tm_ten s c) = 0) ∧ ((¬ (tm_ten s c) = 0) ∧ (((tm_ten s c) < (2 * (w - w / (tm_ten s c) * (tm_ten s c))) → Φ (some (vl ((w / (tm_ten s c)) + 1))) (xhp s)) ∧ (¬ ((tm_ten s c) < (2 * (w - w / (tm_ten s c) * (tm_ten s c)))) → ((¬ (2 * (w - w / (tm_ten s c) * (tm_ten s c))) = (tm_ten s c) → Φ (some (vl (w / (tm_ten s c)))) (xhp s)) ∧ ((2 * (w - w / (tm_ten s c) * (tm_ten s c))) = (tm_ten s c) → Φ (some (vl (if ((w / (tm_ten s c)) - (w / (tm_ten s c)) / 2 * 2) = 1 then ((w / (tm_ten s c)) + 1) else (w / (tm_ten s c))))) (xhp s))))))))) ∧ (¬ (c ≤ 13) → Φ (some (vl 0)) (xhp s)))) : xW (xX0 xs Ls) p99 0 [(0, vl w), (2, vi c)] [] (xhp s) Φ := by
  refine xW.br (c := c ≤ 13) (pc1 := 8) (L1 := [(0, vl w), (2, vi c)]) (st1 := []) (h1 := xhp s) (pc2 := 6) (L2 := [(0, vl w), (2, vi c)]) (st2 := []) (h2 := xhp s) 3 (fun _ _ _ _ => rfl) (fun hc => ?_) (fun hc => ?_)
  · replace g := g.1 hc
    refine xW.call (y := 98) (as := [vi c]) (h0 := xhp s) (pc0 := 9) (len := 3) (L0 := [(0, vl w), (2, vi c)]) (rest := []) 2 (fun _ _ _ _ => rfl) (m98 _ _ g.1 ?_)
    show xW (xX0 xs Ls) p99 12 [(0, vl w), (2, vi c)] [vl (tm_ten s c)] (xhp s) Φ
    replace g := g.2
    refine xW.side (c := ¬ (tm_ten s c) = 0) (pc1 := 16) (L1 := [(3, vl (tm_ten s c)), (0, vl w), (2, vi c)]) (st1 := [vl (w / (tm_ten s c))]) (h1 := xhp s) 4 (fun _ _ _ _ => rfl) g.1 ?_
    replace g := g.2
    refine xW.side (c := ¬ (tm_ten s c) = 0) (pc1 := 24) (L1 := [(5, vl (w / (tm_ten s c))), (3, vl (tm_ten s c)), (0, vl w), (2, vi c)]) (st1 := [vl (w - w / (tm_ten s c) * (tm_ten s c)), vl 2]) (h1 := xhp s) 5 (fun _ _ _ _ => rfl) g.1 ?_
    replace g := g.2
    refine xW.br (c := 0 < (lg_cmp (2 * (w - w / (tm_ten s c) * (tm_ten s c))) (tm_ten s c))) (pc1 := 52) (L1 := [(7, vl (2 * (w - w / (tm_ten s c) * (tm_ten s c)))), (5, vl (w / (tm_ten s c))), (3, vl (tm_ten s c)), (0, vl w), (2, vi c)]) (st1 := []) (h1 := xhp s) (pc2 := 34) (L2 := [(7, vl (2 * (w - w / (tm_ten s c) * (tm_ten s c)))), (5, vl (w / (tm_ten s c))), (3, vl (tm_ten s c)), (0, vl w), (2, vi c)]) (st2 := []) (h2 := xhp s) 6 (fun _ _ _ _ => rfl) (fun hc => ?_) (fun hc => ?_)
    · replace g := g.1 (lc_gt.mp hc)
      exact xW.ret (v0 := some (vl ((w / (tm_ten s c)) + 1))) (h1 := xhp s) 5 (fun _ _ _ _ => rfl) g
    · replace g := g.2 (fun q => hc (lc_gt.mpr q))
      refine xW.br (c := ¬ (lg_cmp (2 * (w - w / (tm_ten s c) * (tm_ten s c))) (tm_ten s c)) = 0) (pc1 := 59) (L1 := [(7, vl (2 * (w - w / (tm_ten s c) * (tm_ten s c)))), (5, vl (w / (tm_ten s c))), (3, vl (tm_ten s c)), (0, vl w), (2, vi c)]) (st1 := []) (h1 := xhp s) (pc2 := 41) (L2 := [(7, vl (2 * (w - w / (tm_ten s c) * (tm_ten s c)))), (5, vl (w / (tm_ten s c))), (3, vl (tm_ten s c)), (0, vl w), (2, vi c)]) (st2 := []) (h2 := xhp s) 4 (fun _ _ _ _ => rfl) (fun hc => ?_) (fun hc => ?_)
      · replace g := g.1 (fun q => hc (lc_eq.mpr q))
        exact xW.ret (v0 := some (vl (w / (tm_ten s c)))) (h1 := xhp s) 2 (fun _ _ _ _ => rfl) g
      · replace g := g.2 (lc_eq.mp (Decidable.not_not.mp hc))
        refine xW.side (c := ¬ (2 : Int64) = 0) (pc1 := 47) (L1 := [(7, vl (2 * (w - w / (tm_ten s c) * (tm_ten s c)))), (5, vl (w / (tm_ten s c))), (3, vl (tm_ten s c)), (0, vl w), (2, vi c)]) (st1 := [vl ((w / (tm_ten s c)) - (w / (tm_ten s c)) / 2 * 2)]) (h1 := xhp s) 3 (fun _ _ _ _ => rfl) (by decide) ?_
        refine xW.seg (pc1 := 49) (L1 := [(7, vl (2 * (w - w / (tm_ten s c) * (tm_ten s c)))), (5, vl (w / (tm_ten s c))), (3, vl (tm_ten s c)), (0, vl w), (2, vi c)]) (st1 := [vi (lg_cmp ((w / (tm_ten s c)) - (w / (tm_ten s c)) / 2 * 2) 1)]) (h1 := xhp s) 2 (fun _ _ _ _ => rfl) ?_
        suffices J : xW (xX0 xs Ls) p99 61 [(7, vl (2 * (w - w / (tm_ten s c) * (tm_ten s c)))), (5, vl (w / (tm_ten s c))), (3, vl (tm_ten s c)), (0, vl w), (2, vi c)] [vl (if ((w / (tm_ten s c)) - (w / (tm_ten s c)) / 2 * 2) = 1 then ((w / (tm_ten s c)) + 1) else (w / (tm_ten s c)))] (xhp s) Φ by
          refine xW.br (c := ¬ (lg_cmp ((w / (tm_ten s c)) - (w / (tm_ten s c)) / 2 * 2) 1) = 0) (pc1 := 59) (L1 := [(7, vl (2 * (w - w / (tm_ten s c) * (tm_ten s c)))), (5, vl (w / (tm_ten s c))), (3, vl (tm_ten s c)), (0, vl w), (2, vi c)]) (st1 := []) (h1 := xhp s) (pc2 := 52) (L2 := [(7, vl (2 * (w - w / (tm_ten s c) * (tm_ten s c)))), (5, vl (w / (tm_ten s c))), (3, vl (tm_ten s c)), (0, vl w), (2, vi c)]) (st2 := []) (h2 := xhp s) 1 (fun _ _ _ _ => rfl) (fun hc => ?_) (fun hc => ?_)
          · have hc1 : ¬ ((w / (tm_ten s c)) - (w / (tm_ten s c)) / 2 * 2) = 1 := (fun q => hc (lc_eq.mpr q))
            refine xW.seg (pc1 := 61) (L1 := [(7, vl (2 * (w - w / (tm_ten s c) * (tm_ten s c)))), (5, vl (w / (tm_ten s c))), (3, vl (tm_ten s c)), (0, vl w), (2, vi c)]) (st1 := [vl (w / (tm_ten s c))]) (h1 := xhp s) 1 (fun _ _ _ _ => rfl) ?_
            refine xW.to (v := vl (if ((w / (tm_ten s c)) - (w / (tm_ten s c)) / 2 * 2) = 1 then ((w / (tm_ten s c)) + 1) else (w / (tm_ten s c)))) ((congrArg vl (if_neg hc1)).symm) ?_
            exact J
          · have hc1 : ((w / (tm_ten s c)) - (w / (tm_ten s c)) / 2 * 2) = 1 := (lc_eq.mp (Decidable.not_not.mp hc))
            refine xW.seg (pc1 := 61) (L1 := [(7, vl (2 * (w - w / (tm_ten s c) * (tm_ten s c)))), (5, vl (w / (tm_ten s c))), (3, vl (tm_ten s c)), (0, vl w), (2, vi c)]) (st1 := [vl ((w / (tm_ten s c)) + 1)]) (h1 := xhp s) 4 (fun _ _ _ _ => rfl) ?_
            refine xW.to (v := vl (if ((w / (tm_ten s c)) - (w / (tm_ten s c)) / 2 * 2) = 1 then ((w / (tm_ten s c)) + 1) else (w / (tm_ten s c)))) ((congrArg vl (if_pos hc1)).symm) ?_
            exact J
        exact xW.ret (v0 := some (vl (if ((w / (tm_ten s c)) - (w / (tm_ten s c)) / 2 * 2) = 1 then ((w / (tm_ten s c)) + 1) else (w / (tm_ten s c))))) (h1 := xhp s) 1 (fun _ _ _ _ => rfl) g
  · replace g := g.2 hc
    exact xW.ret (v0 := some (vl 0)) (h1 := xhp s) 2 (fun _ _ _ _ => rfl) g
noncomputable def tm_cut (s : xS) (w : Int64) (c : Int32) : Int64 := (if c ≤ 13 then (if (tm_ten s c) < (2 * (w - w / (tm_ten s c) * (tm_ten s c))) then ((w / (tm_ten s c)) + 1) else (if ¬ (2 * (w - w / (tm_ten s c) * (tm_ten s c))) = (tm_ten s c) then (w / (tm_ten s c)) else (if ((w / (tm_ten s c)) - (w / (tm_ten s c)) / 2 * 2) = 1 then ((w / (tm_ten s c)) + 1) else (w / (tm_ten s c))))) else 0)
def tm_cut_ok (s : xS) (w : Int64) (c : Int32) : Prop := (c ≤ 13 → ((tm_ten_ok s c) ∧ ((¬ (tm_ten s c) = 0) ∧ (¬ (tm_ten s c) = 0))))
set_option maxRecDepth 100000 in
theorem m99 {xs : Nat → Int32} {Ls : Nat} {Ψ : xO → xH → Prop} (s : xS) (w : Int64) (c : Int32) (gq : tm_cut_ok s w c) (h : Ψ (.inl (some (vl (tm_cut s w c)))) (xhp s)) : xM (xX0 xs Ls) 99 [vl w, vi c] (xhp s) Ψ := by
  unfold tm_cut at h
  unfold tm_cut_ok at gq
  exact xM.of (P := p99) rfl rfl rfl (b99_0 s w c (⟨fun hc => by rw [if_pos hc] at h; replace gq := gq hc; exact ⟨gq.1, by replace gq := gq.2; exact ⟨gq.1, by replace gq := gq.2; exact ⟨gq, ⟨fun hc => by rw [if_pos hc] at h; exact h, fun hc => by rw [if_neg hc] at h; exact ⟨fun hc => by rw [if_pos hc] at h; exact h, fun hc => by rw [if_neg (fun z => z hc)] at h; exact h⟩⟩⟩⟩⟩, fun hc => by rw [if_neg hc] at h; exact h⟩))
/-! tm_showScientific -/
theorem b100_83 {xs : Nat → Int32} {Ls : Nat} {Φ : Option xV → xH → Prop} (s : xS) (x1 : Int32) (x2 : Int32) (x3 : Int64) (g : ((tm_show_ok s (if 0 ≤ (gI s 231 10) then (32 : Int32) else 45)) ∧ ((tm_ten_ok (tm_show s (if 0 ≤ (gI s 231 10) then (32 : Int32) else 45)) x2) ∧ ((¬ (tm_ten (tm_show s (if 0 ≤ (gI s 231 10) then (32 : Int32) else 45)) x2) = 0) ∧ ((tm_showFigures_ok (tm_show s (if 0 ≤ (gI s 231 10) then (32 : Int32) else 45)) (x3 / (tm_ten (tm_show s (if 0 ≤ (gI s 231 10) then (32 : Int32) else 45)) x2)) 1) ∧ ((tm_show_ok (tm_showFigures (tm_show s (if 0 ≤ (gI s 231 10) then (32 : Int32) else 45)) (x3 / (tm_ten (tm_show s (if 0 ≤ (gI s 231 10) then (32 : Int32) else 45)) x2)) 1) 46) ∧ ((tm_ten_ok (tm_show (tm_showFigures (tm_show s (if 0 ≤ (gI s 231 10) then (32 : Int32) else 45)) (x3 / (tm_ten (tm_show s (if 0 ≤ (gI s 231 10) then (32 : Int32) else 45)) x2)) 1) 46) x2) ∧ ((¬ (tm_ten (tm_show (tm_showFigures (tm_show s (if 0 ≤ (gI s 231 10) then (32 : Int32) else 45)) (x3 / (tm_ten (tm_show s (if 0 ≤ (gI s 231 10) then (32 : Int32) else 45)) x2)) 1) 46) x2) = 0) ∧ ((tm_showFigures_ok (tm_show (tm_showFigures (tm_show s (if 0 ≤ (gI s 231 10) then (32 : Int32) else 45)) (x3 / (tm_ten (tm_show s (if 0 ≤ (gI s 231 10) then (32 : Int32) else 45)) x2)) 1) 46) (x3 - x3 / (tm_ten (tm_show (tm_showFigures (tm_show s (if 0 ≤ (gI s 231 10) then (32 : Int32) else 45)) (x3 / (tm_ten (tm_show s (if 0 ≤ (gI s 231 10) then (32 : Int32) else 45)) x2)) 1) 46) x2) * (tm_ten (tm_show (tm_showFigures (tm_show s (if 0 ≤ (gI s 231 10) then (32 : Int32) else 45)) (x3 / (tm_ten (tm_show s (if 0 ≤ (gI s 231 10) then (32 : Int32) else 45)) x2)) 1) 46) x2)) x2) ∧ ((tm_show_ok (tm_showFigures (tm_show (tm_showFigures (tm_show s (if 0 ≤ (gI s 231 10) then (32 : Int32) else 45)) (x3 / (tm_ten (tm_show s (if 0 ≤ (gI s 231 10) then (32 : Int32) else 45)) x2)) 1) 46) (x3 - x3 / (tm_ten (tm_show (tm_showFigures (tm_show s (if 0 ≤ (gI s 231 10) then (32 : Int32) else 45)) (x3 / (tm_ten (tm_show s (if 0 ≤ (gI s 231 10) then (32 : Int32) else 45)) x2)) 1) 46) x2) * (tm_ten (tm_show (tm_showFigures (tm_show s (if 0 ≤ (gI s 231 10) then (32 : Int32) else 45)) (x3 / (tm_ten (tm_show s (if 0 ≤ (gI s 231 10) then (32 : Int32) else 45)) x2)) 1) 46) x2)) x2) 69) ∧ ((tm_show_ok (tm_show (tm_showFigures (tm_show (tm_showFigures (tm_show s (if 0 ≤ (gI s 231 10) then (32 : Int32) else 45)) (x3 / (tm_ten (tm_show s (if 0 ≤ (gI s 231 10) then (32 : Int32) else 45)) x2)) 1) 46) (x3 - x3 / (tm_ten (tm_show (tm_showFigures (tm_show s (if 0 ≤ (gI s 231 10) then (32 : Int32) else 45)) (x3 / (tm_ten (tm_show s (if 0 ≤ (gI s 231 10) then (32 : Int32) else 45)) x2)) 1) 46) x2) * (tm_ten (tm_show (tm_showFigures (tm_show s (if 0 ≤ (gI s 231 10) then (32 : Int32) else 45)) (x3 / (tm_ten (tm_show s (if 0 ≤ (gI s 231 10) then (32 : Int32) else 45)) x2)) 1) 46) x2)) x2) 69) (if 0 ≤ x1 then (43 : Int32) else 45)) ∧ ((tm_showFigures_ok (tm_show (tm_show (tm_showFigures (tm_show (tm_showFigures (tm_show s (if 0 ≤ (gI s 231 10) then (32 : Int32) else 45)) (x3 / (tm_ten (tm_show s (if 0 ≤ (gI s 231 10) then (32 : Int32) else 45)) x2)) 1) 46) (x3 - x3 / (tm_ten (tm_show (tm_showFigures (tm_show s (if 0 ≤ (gI s 231 10) then (32 : Int32) else 45)) (x3 / (tm_ten (tm_show s (if 0 ≤ (gI s 231 10) then (32 : Int32) else 45)) x2)) 1) 46) x2) * (tm_ten (tm_show (tm_showFigures (tm_show s (if 0 ≤ (gI s 231 10) then (32 : Int32) else 45)) (x3 / (tm_ten (tm_show s (if 0 ≤ (gI s 231 10) then (32 : Int32) else 45)) x2)) 1) 46) x2)) x2) 69) (if 0 ≤ x1 then (43 : Int32) else 45)) (if 0 ≤ x1 then (x1.toInt64) else ((-x1).toInt64)) 2) ∧ Φ none (xhp (tm_showFigures (tm_show (tm_show (tm_showFigures (tm_show (tm_showFigures (tm_show s (if 0 ≤ (gI s 231 10) then (32 : Int32) else 45)) (x3 / (tm_ten (tm_show s (if 0 ≤ (gI s 231 10) then (32 : Int32) else 45)) x2)) 1) 46) (x3 - x3 / (tm_ten (tm_show (tm_showFigures (tm_show s (if 0 ≤ (gI s 231 10) then (32 : Int32) else 45)) (x3 / (tm_ten (tm_show s (if 0 ≤ (gI s 231 10) then (32 : Int32) else 45)) x2)) 1) 46) x2) * (tm_ten (tm_show (tm_showFigures (tm_show s (if 0 ≤ (gI s 231 10) then (32 : Int32) else 45)) (x3 / (tm_ten (tm_show s (if 0 ≤ (gI s 231 10) then (32 : Int32) else 45)) x2)) 1) 46) x2)) x2) 69) (if 0 ≤ x1 then (43 : Int32) else 45)) (if 0 ≤ x1 then (x1.toInt64) else ((-x1).toInt64)) 2)))))))))))))) : xW (xX0 xs Ls) p100 83 [(0, vr 12 230), (1, vi x1), (2, vi x2), (3, vl x3)] [] (xhp s) Φ := by
  refine xW.side (c := vp_in 10 640) (pc1 := 91) (L1 := [(0, vr 12 230), (1, vi x1), (2, vi x2), (3, vl x3)]) (st1 := [vi (gI s 231 10), vr 12 230]) (h1 := xhp s) 5 (fun _ _ _ _ => rfl) (vp_lit rfl) ?_
  suffices J : xW (xX0 xs Ls) p100 101 [(0, vr 12 230), (1, vi x1), (2, vi x2), (3, vl x3)] [vi (if 0 ≤ (gI s 231 10) then (32 : Int32) else 45), vr 12 230] (xhp s) Φ by
    refine xW.br (c := 0 ≤ (gI s 231 10)) (pc1 := 99) (L1 := [(0, vr 12 230), (1, vi x1), (2, vi x2), (3, vl x3)]) (st1 := [vr 12 230]) (h1 := xhp s) (pc2 := 94) (L2 := [(0, vr 12 230), (1, vi x1), (2, vi x2), (3, vl x3)]) (st2 := [vr 12 230]) (h2 := xhp s) 1 (fun _ _ _ _ => rfl) (fun hc => ?_) (fun hc => ?_)
    · have hc1 : 0 ≤ (gI s 231 10) := hc
      refine xW.seg (pc1 := 101) (L1 := [(0, vr 12 230), (1, vi x1), (2, vi x2), (3, vl x3)]) (st1 := [vi 32, vr 12 230]) (h1 := xhp s) 1 (fun _ _ _ _ => rfl) ?_
      refine xW.to (v := vi (if 0 ≤ (gI s 231 10) then (32 : Int32) else 45)) ((congrArg vi (if_pos hc1)).symm) ?_
      exact J
    · have hc1 : ¬ (0 ≤ (gI s 231 10)) := hc
      refine xW.seg (pc1 := 101) (L1 := [(0, vr 12 230), (1, vi x1), (2, vi x2), (3, vl x3)]) (st1 := [vi 45, vr 12 230]) (h1 := xhp s) 2 (fun _ _ _ _ => rfl) ?_
      refine xW.to (v := vi (if 0 ≤ (gI s 231 10) then (32 : Int32) else 45)) ((congrArg vi (if_neg hc1)).symm) ?_
      exact J
  refine xW.call (y := 96) (as := [vr 12 230, vi (if 0 ≤ (gI s 231 10) then (32 : Int32) else 45)]) (h0 := xhp s) (pc0 := 101) (len := 3) (L0 := [(0, vr 12 230), (1, vi x1), (2, vi x2), (3, vl x3)]) (rest := []) 1 (fun _ _ _ _ => rfl) (m96 _ _ g.1 ?_)
  show xW (xX0 xs Ls) p100 104 [(0, vr 12 230), (1, vi x1), (2, vi x2), (3, vl x3)] [] (xhp (tm_show s (if 0 ≤ (gI s 231 10) then (32 : Int32) else 45))) Φ
  replace g := g.2
  refine xW.call (y := 98) (as := [vi x2]) (h0 := xhp (tm_show s (if 0 ≤ (gI s 231 10) then (32 : Int32) else 45))) (pc0 := 107) (len := 3) (L0 := [(0, vr 12 230), (1, vi x1), (2, vi x2), (3, vl x3)]) (rest := [vl x3, vr 12 230]) 4 (fun _ _ _ _ => rfl) (m98 _ _ g.1 ?_)
  show xW (xX0 xs Ls) p100 110 [(0, vr 12 230), (1, vi x1), (2, vi x2), (3, vl x3)] [vl (tm_ten (tm_show s (if 0 ≤ (gI s 231 10) then (32 : Int32) else 45)) x2), vl x3, vr 12 230] (xhp (tm_show s (if 0 ≤ (gI s 231 10) then (32 : Int32) else 45))) Φ
  replace g := g.2
  refine xW.side (c := ¬ (tm_ten (tm_show s (if 0 ≤ (gI s 231 10) then (32 : Int32) else 45)) x2) = 0) (pc1 := 111) (L1 := [(0, vr 12 230), (1, vi x1), (2, vi x2), (3, vl x3)]) (st1 := [vl (x3 / (tm_ten (tm_show s (if 0 ≤ (gI s 231 10) then (32 : Int32) else 45)) x2)), vr 12 230]) (h1 := xhp (tm_show s (if 0 ≤ (gI s 231 10) then (32 : Int32) else 45))) 1 (fun _ _ _ _ => rfl) g.1 ?_
  replace g := g.2
  refine xW.call (y := 97) (as := [vr 12 230, vl (x3 / (tm_ten (tm_show s (if 0 ≤ (gI s 231 10) then (32 : Int32) else 45)) x2)), vi 1]) (h0 := xhp (tm_show s (if 0 ≤ (gI s 231 10) then (32 : Int32) else 45))) (pc0 := 112) (len := 3) (L0 := [(0, vr 12 230), (1, vi x1), (2, vi x2), (3, vl x3)]) (rest := []) 2 (fun _ _ _ _ => rfl) (m97 _ _ _ g.1 ?_)
  show xW (xX0 xs Ls) p100 115 [(0, vr 12 230), (1, vi x1), (2, vi x2), (3, vl x3)] [] (xhp (tm_showFigures (tm_show s (if 0 ≤ (gI s 231 10) then (32 : Int32) else 45)) (x3 / (tm_ten (tm_show s (if 0 ≤ (gI s 231 10) then (32 : Int32) else 45)) x2)) 1)) Φ
  replace g := g.2
  refine xW.call (y := 96) (as := [vr 12 230, vi 46]) (h0 := xhp (tm_showFigures (tm_show s (if 0 ≤ (gI s 231 10) then (32 : Int32) else 45)) (x3 / (tm_ten (tm_show s (if 0 ≤ (gI s 231 10) then (32 : Int32) else 45)) x2)) 1)) (pc0 := 118) (len := 3) (L0 := [(0, vr 12 230), (1, vi x1), (2, vi x2), (3, vl x3)]) (rest := []) 3 (fun _ _ _ _ => rfl) (m96 _ _ g.1 ?_)
  show xW (xX0 xs Ls) p100 121 [(0, vr 12 230), (1, vi x1), (2, vi x2), (3, vl x3)] [] (xhp (tm_show (tm_showFigures (tm_show s (if 0 ≤ (gI s 231 10) then (32 : Int32) else 45)) (x3 / (tm_ten (tm_show s (if 0 ≤ (gI s 231 10) then (32 : Int32) else 45)) x2)) 1) 46)) Φ
  replace g := g.2
  refine xW.call (y := 98) (as := [vi x2]) (h0 := xhp (tm_show (tm_showFigures (tm_show s (if 0 ≤ (gI s 231 10) then (32 : Int32) else 45)) (x3 / (tm_ten (tm_show s (if 0 ≤ (gI s 231 10) then (32 : Int32) else 45)) x2)) 1) 46)) (pc0 := 124) (len := 3) (L0 := [(0, vr 12 230), (1, vi x1), (2, vi x2), (3, vl x3)]) (rest := [vl x3, vr 12 230]) 4 (fun _ _ _ _ => rfl) (m98 _ _ g.1 ?_)
  show xW (xX0 xs Ls) p100 127 [(0, vr 12 230), (1, vi x1), (2, vi x2), (3, vl x3)] [vl (tm_ten (tm_show (tm_showFigures (tm_show s (if 0 ≤ (gI s 231 10) then (32 : Int32) else 45)) (x3 / (tm_ten (tm_show s (if 0 ≤ (gI s 231 10) then (32 : Int32) else 45)) x2)) 1) 46) x2), vl x3, vr 12 230] (xhp (tm_show (tm_showFigures (tm_show s (if 0 ≤ (gI s 231 10) then (32 : Int32) else 45)) (x3 / (tm_ten (tm_show s (if 0 ≤ (gI s 231 10) then (32 : Int32) else 45)) x2)) 1) 46)) Φ
  replace g := g.2
  refine xW.side (c := ¬ (tm_ten (tm_show (tm_showFigures (tm_show s (if 0 ≤ (gI s 231 10) then (32 : Int32) else 45)) (x3 / (tm_ten (tm_show s (if 0 ≤ (gI s 231 10) then (32 : Int32) else 45)) x2)) 1) 46) x2) = 0) (pc1 := 128) (L1 := [(0, vr 12 230), (1, vi x1), (2, vi x2), (3, vl x3)]) (st1 := [vl (x3 - x3 / (tm_ten (tm_show (tm_showFigures (tm_show s (if 0 ≤ (gI s 231 10) then (32 : Int32) else 45)) (x3 / (tm_ten (tm_show s (if 0 ≤ (gI s 231 10) then (32 : Int32) else 45)) x2)) 1) 46) x2) * (tm_ten (tm_show (tm_showFigures (tm_show s (if 0 ≤ (gI s 231 10) then (32 : Int32) else 45)) (x3 / (tm_ten (tm_show s (if 0 ≤ (gI s 231 10) then (32 : Int32) else 45)) x2)) 1) 46) x2)), vr 12 230]) (h1 := xhp (tm_show (tm_showFigures (tm_show s (if 0 ≤ (gI s 231 10) then (32 : Int32) else 45)) (x3 / (tm_ten (tm_show s (if 0 ≤ (gI s 231 10) then (32 : Int32) else 45)) x2)) 1) 46)) 1 (fun _ _ _ _ => rfl) g.1 ?_
  replace g := g.2
  refine xW.call (y := 97) (as := [vr 12 230, vl (x3 - x3 / (tm_ten (tm_show (tm_showFigures (tm_show s (if 0 ≤ (gI s 231 10) then (32 : Int32) else 45)) (x3 / (tm_ten (tm_show s (if 0 ≤ (gI s 231 10) then (32 : Int32) else 45)) x2)) 1) 46) x2) * (tm_ten (tm_show (tm_showFigures (tm_show s (if 0 ≤ (gI s 231 10) then (32 : Int32) else 45)) (x3 / (tm_ten (tm_show s (if 0 ≤ (gI s 231 10) then (32 : Int32) else 45)) x2)) 1) 46) x2)), vi x2]) (h0 := xhp (tm_show (tm_showFigures (tm_show s (if 0 ≤ (gI s 231 10) then (32 : Int32) else 45)) (x3 / (tm_ten (tm_show s (if 0 ≤ (gI s 231 10) then (32 : Int32) else 45)) x2)) 1) 46)) (pc0 := 129) (len := 3) (L0 := [(0, vr 12 230), (1, vi x1), (2, vi x2), (3, vl x3)]) (rest := []) 2 (fun _ _ _ _ => rfl) (m97 _ _ _ g.1 ?_)
  show xW (xX0 xs Ls) p100 132 [(0, vr 12 230), (1, vi x1), (2, vi x2), (3, vl x3)] [] (xhp (tm_showFigures (tm_show (tm_showFigures (tm_show s (if 0 ≤ (gI s 231 10) then (32 : Int32) else 45)) (x3 / (tm_ten (tm_show s (if 0 ≤ (gI s 231 10) then (32 : Int32) else 45)) x2)) 1) 46) (x3 - x3 / (tm_ten (tm_show (tm_showFigures (tm_show s (if 0 ≤ (gI s 231 10) then (32 : Int32) else 45)) (x3 / (tm_ten (tm_show s (if 0 ≤ (gI s 231 10) then (32 : Int32) else 45)) x2)) 1) 46) x2) * (tm_ten (tm_show (tm_showFigures (tm_show s (if 0 ≤ (gI s 231 10) then (32 : Int32) else 45)) (x3 / (tm_ten (tm_show s (if 0 ≤ (gI s 231 10) then (32 : Int32) else 45)) x2)) 1) 46) x2)) x2)) Φ
  replace g := g.2
  refine xW.call (y := 96) (as := [vr 12 230, vi 69]) (h0 := xhp (tm_showFigures (tm_show (tm_showFigures (tm_show s (if 0 ≤ (gI s 231 10) then (32 : Int32) else 45)) (x3 / (tm_ten (tm_show s (if 0 ≤ (gI s 231 10) then (32 : Int32) else 45)) x2)) 1) 46) (x3 - x3 / (tm_ten (tm_show (tm_showFigures (tm_show s (if 0 ≤ (gI s 231 10) then (32 : Int32) else 45)) (x3 / (tm_ten (tm_show s (if 0 ≤ (gI s 231 10) then (32 : Int32) else 45)) x2)) 1) 46) x2) * (tm_ten (tm_show (tm_showFigures (tm_show s (if 0 ≤ (gI s 231 10) then (32 : Int32) else 45)) (x3 / (tm_ten (tm_show s (if 0 ≤ (gI s 231 10) then (32 : Int32) else 45)) x2)) 1) 46) x2)) x2)) (pc0 := 135) (len := 3) (L0 := [(0, vr 12 230), (1, vi x1), (2, vi x2), (3, vl x3)]) (rest := []) 3 (fun _ _ _ _ => rfl) (m96 _ _ g.1 ?_)
  show xW (xX0 xs Ls) p100 138 [(0, vr 12 230), (1, vi x1), (2, vi x2), (3, vl x3)] [] (xhp (tm_show (tm_showFigures (tm_show (tm_showFigures (tm_show s (if 0 ≤ (gI s 231 10) then (32 : Int32) else 45)) (x3 / (tm_ten (tm_show s (if 0 ≤ (gI s 231 10) then (32 : Int32) else 45)) x2)) 1) 46) (x3 - x3 / (tm_ten (tm_show (tm_showFigures (tm_show s (if 0 ≤ (gI s 231 10) then (32 : Int32) else 45)) (x3 / (tm_ten (tm_show s (if 0 ≤ (gI s 231 10) then (32 : Int32) else 45)) x2)) 1) 46) x2) * (tm_ten (tm_show (tm_showFigures (tm_show s (if 0 ≤ (gI s 231 10) then (32 : Int32) else 45)) (x3 / (tm_ten (tm_show s (if 0 ≤ (gI s 231 10) then (32 : Int32) else 45)) x2)) 1) 46) x2)) x2) 69)) Φ
  replace g := g.2
  refine xW.seg (pc1 := 140) (L1 := [(0, vr 12 230), (1, vi x1), (2, vi x2), (3, vl x3)]) (st1 := [vi x1, vr 12 230]) (h1 := xhp (tm_show (tm_showFigures (tm_show (tm_showFigures (tm_show s (if 0 ≤ (gI s 231 10) then (32 : Int32) else 45)) (x3 / (tm_ten (tm_show s (if 0 ≤ (gI s 231 10) then (32 : Int32) else 45)) x2)) 1) 46) (x3 - x3 / (tm_ten (tm_show (tm_showFigures (tm_show s (if 0 ≤ (gI s 231 10) then (32 : Int32) else 45)) (x3 / (tm_ten (tm_show s (if 0 ≤ (gI s 231 10) then (32 : Int32) else 45)) x2)) 1) 46) x2) * (tm_ten (tm_show (tm_showFigures (tm_show s (if 0 ≤ (gI s 231 10) then (32 : Int32) else 45)) (x3 / (tm_ten (tm_show s (if 0 ≤ (gI s 231 10) then (32 : Int32) else 45)) x2)) 1) 46) x2)) x2) 69)) 2 (fun _ _ _ _ => rfl) ?_
  suffices J : xW (xX0 xs Ls) p100 150 [(0, vr 12 230), (1, vi x1), (2, vi x2), (3, vl x3)] [vi (if 0 ≤ x1 then (43 : Int32) else 45), vr 12 230] (xhp (tm_show (tm_showFigures (tm_show (tm_showFigures (tm_show s (if 0 ≤ (gI s 231 10) then (32 : Int32) else 45)) (x3 / (tm_ten (tm_show s (if 0 ≤ (gI s 231 10) then (32 : Int32) else 45)) x2)) 1) 46) (x3 - x3 / (tm_ten (tm_show (tm_showFigures (tm_show s (if 0 ≤ (gI s 231 10) then (32 : Int32) else 45)) (x3 / (tm_ten (tm_show s (if 0 ≤ (gI s 231 10) then (32 : Int32) else 45)) x2)) 1) 46) x2) * (tm_ten (tm_show (tm_showFigures (tm_show s (if 0 ≤ (gI s 231 10) then (32 : Int32) else 45)) (x3 / (tm_ten (tm_show s (if 0 ≤ (gI s 231 10) then (32 : Int32) else 45)) x2)) 1) 46) x2)) x2) 69)) Φ by
    refine xW.br (c := 0 ≤ x1) (pc1 := 148) (L1 := [(0, vr 12 230), (1, vi x1), (2, vi x2), (3, vl x3)]) (st1 := [vr 12 230]) (h1 := xhp (tm_show (tm_showFigures (tm_show (tm_showFigures (tm_show s (if 0 ≤ (gI s 231 10) then (32 : Int32) else 45)) (x3 / (tm_ten (tm_show s (if 0 ≤ (gI s 231 10) then (32 : Int32) else 45)) x2)) 1) 46) (x3 - x3 / (tm_ten (tm_show (tm_showFigures (tm_show s (if 0 ≤ (gI s 231 10) then (32 : Int32) else 45)) (x3 / (tm_ten (tm_show s (if 0 ≤ (gI s 231 10) then (32 : Int32) else 45)) x2)) 1) 46) x2) * (tm_ten (tm_show (tm_showFigures (tm_show s (if 0 ≤ (gI s 231 10) then (32 : Int32) else 45)) (x3 / (tm_ten (tm_show s (if 0 ≤ (gI s 231 10) then (32 : Int32) else 45)) x2)) 1) 46) x2)) x2) 69)) (pc2 := 143) (L2 := [(0, vr 12 230), (1, vi x1), (2, vi x2), (3, vl x3)]) (st2 := [vr 12 230]) (h2 := xhp (tm_show (tm_showFigures (tm_show (tm_showFigures (tm_show s (if 0 ≤ (gI s 231 10) then (32 : Int32) else 45)) (x3 / (tm_ten (tm_show s (if 0 ≤ (gI s 231 10) then (32 : Int32) else 45)) x2)) 1) 46) (x3 - x3 / (tm_ten (tm_show (tm_showFigures (tm_show s (if 0 ≤ (gI s 231 10) then (32 : Int32) else 45)) (x3 / (tm_ten (tm_show s (if 0 ≤ (gI s 231 10) then (32 : Int32) else 45)) x2)) 1) 46) x2) * (tm_ten (tm_show (tm_showFigures (tm_show s (if 0 ≤ (gI s 231 10) then (32 : Int32) else 45)) (x3 / (tm_ten (tm_show s (if 0 ≤ (gI s 231 10) then (32 : Int32) else 45)) x2)) 1) 46) x2)) x2) 69)) 1 (fun _ _ _ _ => rfl) (fun hc => ?_) (fun hc => ?_)
    · have hc2 : 0 ≤ x1 := hc
      refine xW.seg (pc1 := 150) (L1 := [(0, vr 12 230), (1, vi x1), (2, vi x2), (3, vl x3)]) (st1 := [vi 43, vr 12 230]) (h1 := xhp (tm_show (tm_showFigures (tm_show (tm_showFigures (tm_show s (if 0 ≤ (gI s 231 10) then (32 : Int32) else 45)) (x3 / (tm_ten (tm_show s (if 0 ≤ (gI s 231 10) then (32 : Int32) else 45)) x2)) 1) 46) (x3 - x3 / (tm_ten (tm_show (tm_showFigures (tm_show s (if 0 ≤ (gI s 231 10) then (32 : Int32) else 45)) (x3 / (tm_ten (tm_show s (if 0 ≤ (gI s 231 10) then (32 : Int32) else 45)) x2)) 1) 46) x2) * (tm_ten (tm_show (tm_showFigures (tm_show s (if 0 ≤ (gI s 231 10) then (32 : Int32) else 45)) (x3 / (tm_ten (tm_show s (if 0 ≤ (gI s 231 10) then (32 : Int32) else 45)) x2)) 1) 46) x2)) x2) 69)) 1 (fun _ _ _ _ => rfl) ?_
      refine xW.to (v := vi (if 0 ≤ x1 then (43 : Int32) else 45)) ((congrArg vi (if_pos hc2)).symm) ?_
      exact J
    · have hc2 : ¬ (0 ≤ x1) := hc
      refine xW.seg (pc1 := 150) (L1 := [(0, vr 12 230), (1, vi x1), (2, vi x2), (3, vl x3)]) (st1 := [vi 45, vr 12 230]) (h1 := xhp (tm_show (tm_showFigures (tm_show (tm_showFigures (tm_show s (if 0 ≤ (gI s 231 10) then (32 : Int32) else 45)) (x3 / (tm_ten (tm_show s (if 0 ≤ (gI s 231 10) then (32 : Int32) else 45)) x2)) 1) 46) (x3 - x3 / (tm_ten (tm_show (tm_showFigures (tm_show s (if 0 ≤ (gI s 231 10) then (32 : Int32) else 45)) (x3 / (tm_ten (tm_show s (if 0 ≤ (gI s 231 10) then (32 : Int32) else 45)) x2)) 1) 46) x2) * (tm_ten (tm_show (tm_showFigures (tm_show s (if 0 ≤ (gI s 231 10) then (32 : Int32) else 45)) (x3 / (tm_ten (tm_show s (if 0 ≤ (gI s 231 10) then (32 : Int32) else 45)) x2)) 1) 46) x2)) x2) 69)) 2 (fun _ _ _ _ => rfl) ?_
      refine xW.to (v := vi (if 0 ≤ x1 then (43 : Int32) else 45)) ((congrArg vi (if_neg hc2)).symm) ?_
      exact J
  refine xW.call (y := 96) (as := [vr 12 230, vi (if 0 ≤ x1 then (43 : Int32) else 45)]) (h0 := xhp (tm_show (tm_showFigures (tm_show (tm_showFigures (tm_show s (if 0 ≤ (gI s 231 10) then (32 : Int32) else 45)) (x3 / (tm_ten (tm_show s (if 0 ≤ (gI s 231 10) then (32 : Int32) else 45)) x2)) 1) 46) (x3 - x3 / (tm_ten (tm_show (tm_showFigures (tm_show s (if 0 ≤ (gI s 231 10) then (32 : Int32) else 45)) (x3 / (tm_ten (tm_show s (if 0 ≤ (gI s 231 10) then (32 : Int32) else 45)) x2)) 1) 46) x2) * (tm_ten (tm_show (tm_showFigures (tm_show s (if 0 ≤ (gI s 231 10) then (32 : Int32) else 45)) (x3 / (tm_ten (tm_show s (if 0 ≤ (gI s 231 10) then (32 : Int32) else 45)) x2)) 1) 46) x2)) x2) 69)) (pc0 := 150) (len := 3) (L0 := [(0, vr 12 230), (1, vi x1), (2, vi x2), (3, vl x3)]) (rest := []) 1 (fun _ _ _ _ => rfl) (m96 _ _ g.1 ?_)
  show xW (xX0 xs Ls) p100 153 [(0, vr 12 230), (1, vi x1), (2, vi x2), (3, vl x3)] [] (xhp (tm_show (tm_show (tm_showFigures (tm_show (tm_showFigures (tm_show s (if 0 ≤ (gI s 231 10) then (32 : Int32) else 45)) (x3 / (tm_ten (tm_show s (if 0 ≤ (gI s 231 10) then (32 : Int32) else 45)) x2)) 1) 46) (x3 - x3 / (tm_ten (tm_show (tm_showFigures (tm_show s (if 0 ≤ (gI s 231 10) then (32 : Int32) else 45)) (x3 / (tm_ten (tm_show s (if 0 ≤ (gI s 231 10) then (32 : Int32) else 45)) x2)) 1) 46) x2) * (tm_ten (tm_show (tm_showFigures (tm_show s (if 0 ≤ (gI s 231 10) then (32 : Int32) else 45)) (x3 / (tm_ten (tm_show s (if 0 ≤ (gI s 231 10) then (32 : Int32) else 45)) x2)) 1) 46) x2)) x2) 69) (if 0 ≤ x1 then (43 : Int32) else 45))) Φ
  replace g := g.2
  refine xW.seg (pc1 := 155) (L1 := [(0, vr 12 230), (1, vi x1), (2, vi x2), (3, vl x3)]) (st1 := [vi x1, vr 12 230]) (h1 := xhp (tm_show (tm_show (tm_showFigures (tm_show (tm_showFigures (tm_show s (if 0 ≤ (gI s 231 10) then (32 : Int32) else 45)) (x3 / (tm_ten (tm_show s (if 0 ≤ (gI s 231 10) then (32 : Int32) else 45)) x2)) 1) 46) (x3 - x3 / (tm_ten (tm_show (tm_showFigures (tm_show s (if 0 ≤ (gI s 231 10) then (32 : Int32) else 45)) (x3 / (tm_ten (tm_show s (if 0 ≤ (gI s 231 10) then (32 : Int32) else 45)) x2)) 1) 46) x2) * (tm_ten (tm_show (tm_showFigures (tm_show s (if 0 ≤ (gI s 231 10) then (32 : Int32) else 45)) (x3 / (tm_ten (tm_show s (if 0 ≤ (gI s 231 10) then (32 : Int32) else 45)) x2)) 1) 46) x2)) x2) 69) (if 0 ≤ x1 then (43 : Int32) else 45))) 2 (fun _ _ _ _ => rfl) ?_
  suffices J : xW (xX0 xs Ls) p100 166 [(0, vr 12 230), (1, vi x1), (2, vi x2), (3, vl x3)] [vl (if 0 ≤ x1 then (x1.toInt64) else ((-x1).toInt64)), vr 12 230] (xhp (tm_show (tm_show (tm_showFigures (tm_show (tm_showFigures (tm_show s (if 0 ≤ (gI s 231 10) then (32 : Int32) else 45)) (x3 / (tm_ten (tm_show s (if 0 ≤ (gI s 231 10) then (32 : Int32) else 45)) x2)) 1) 46) (x3 - x3 / (tm_ten (tm_show (tm_showFigures (tm_show s (if 0 ≤ (gI s 231 10) then (32 : Int32) else 45)) (x3 / (tm_ten (tm_show s (if 0 ≤ (gI s 231 10) then (32 : Int32) else 45)) x2)) 1) 46) x2) * (tm_ten (tm_show (tm_showFigures (tm_show s (if 0 ≤ (gI s 231 10) then (32 : Int32) else 45)) (x3 / (tm_ten (tm_show s (if 0 ≤ (gI s 231 10) then (32 : Int32) else 45)) x2)) 1) 46) x2)) x2) 69) (if 0 ≤ x1 then (43 : Int32) else 45))) Φ by
    refine xW.br (c := 0 ≤ x1) (pc1 := 164) (L1 := [(0, vr 12 230), (1, vi x1), (2, vi x2), (3, vl x3)]) (st1 := [vr 12 230]) (h1 := xhp (tm_show (tm_show (tm_showFigures (tm_show (tm_showFigures (tm_show s (if 0 ≤ (gI s 231 10) then (32 : Int32) else 45)) (x3 / (tm_ten (tm_show s (if 0 ≤ (gI s 231 10) then (32 : Int32) else 45)) x2)) 1) 46) (x3 - x3 / (tm_ten (tm_show (tm_showFigures (tm_show s (if 0 ≤ (gI s 231 10) then (32 : Int32) else 45)) (x3 / (tm_ten (tm_show s (if 0 ≤ (gI s 231 10) then (32 : Int32) else 45)) x2)) 1) 46) x2) * (tm_ten (tm_show (tm_showFigures (tm_show s (if 0 ≤ (gI s 231 10) then (32 : Int32) else 45)) (x3 / (tm_ten (tm_show s (if 0 ≤ (gI s 231 10) then (32 : Int32) else 45)) x2)) 1) 46) x2)) x2) 69) (if 0 ≤ x1 then (43 : Int32) else 45))) (pc2 := 158) (L2 := [(0, vr 12 230), (1, vi x1), (2, vi x2), (3, vl x3)]) (st2 := [vr 12 230]) (h2 := xhp (tm_show (tm_show (tm_showFigures (tm_show (tm_showFigures (tm_show s (if 0 ≤ (gI s 231 10) then (32 : Int32) else 45)) (x3 / (tm_ten (tm_show s (if 0 ≤ (gI s 231 10) then (32 : Int32) else 45)) x2)) 1) 46) (x3 - x3 / (tm_ten (tm_show (tm_showFigures (tm_show s (if 0 ≤ (gI s 231 10) then (32 : Int32) else 45)) (x3 / (tm_ten (tm_show s (if 0 ≤ (gI s 231 10) then (32 : Int32) else 45)) x2)) 1) 46) x2) * (tm_ten (tm_show (tm_showFigures (tm_show s (if 0 ≤ (gI s 231 10) then (32 : Int32) else 45)) (x3 / (tm_ten (tm_show s (if 0 ≤ (gI s 231 10) then (32 : Int32) else 45)) x2)) 1) 46) x2)) x2) 69) (if 0 ≤ x1 then (43 : Int32) else 45))) 1 (fun _ _ _ _ => rfl) (fun hc => ?_) (fun hc => ?_)
    · have hc3 : 0 ≤ x1 := hc
      refine xW.seg (pc1 := 166) (L1 := [(0, vr 12 230), (1, vi x1), (2, vi x2), (3, vl x3)]) (st1 := [vl (x1.toInt64), vr 12 230]) (h1 := xhp (tm_show (tm_show (tm_showFigures (tm_show (tm_showFigures (tm_show s (if 0 ≤ (gI s 231 10) then (32 : Int32) else 45)) (x3 / (tm_ten (tm_show s (if 0 ≤ (gI s 231 10) then (32 : Int32) else 45)) x2)) 1) 46) (x3 - x3 / (tm_ten (tm_show (tm_showFigures (tm_show s (if 0 ≤ (gI s 231 10) then (32 : Int32) else 45)) (x3 / (tm_ten (tm_show s (if 0 ≤ (gI s 231 10) then (32 : Int32) else 45)) x2)) 1) 46) x2) * (tm_ten (tm_show (tm_showFigures (tm_show s (if 0 ≤ (gI s 231 10) then (32 : Int32) else 45)) (x3 / (tm_ten (tm_show s (if 0 ≤ (gI s 231 10) then (32 : Int32) else 45)) x2)) 1) 46) x2)) x2) 69) (if 0 ≤ x1 then (43 : Int32) else 45))) 2 (fun _ _ _ _ => rfl) ?_
      refine xW.to (v := vl (if 0 ≤ x1 then (x1.toInt64) else ((-x1).toInt64))) ((congrArg vl (if_pos hc3)).symm) ?_
      exact J
    · have hc3 : ¬ (0 ≤ x1) := hc
      refine xW.seg (pc1 := 166) (L1 := [(0, vr 12 230), (1, vi x1), (2, vi x2), (3, vl x3)]) (st1 := [vl ((-x1).toInt64), vr 12 230]) (h1 := xhp (tm_show (tm_show (tm_showFigures (tm_show (tm_showFigures (tm_show s (if 0 ≤ (gI s 231 10) then (32 : Int32) else 45)) (x3 / (tm_ten (tm_show s (if 0 ≤ (gI s 231 10) then (32 : Int32) else 45)) x2)) 1) 46) (x3 - x3 / (tm_ten (tm_show (tm_showFigures (tm_show s (if 0 ≤ (gI s 231 10) then (32 : Int32) else 45)) (x3 / (tm_ten (tm_show s (if 0 ≤ (gI s 231 10) then (32 : Int32) else 45)) x2)) 1) 46) x2) * (tm_ten (tm_show (tm_showFigures (tm_show s (if 0 ≤ (gI s 231 10) then (32 : Int32) else 45)) (x3 / (tm_ten (tm_show s (if 0 ≤ (gI s 231 10) then (32 : Int32) else 45)) x2)) 1) 46) x2)) x2) 69) (if 0 ≤ x1 then (43 : Int32) else 45))) 4 (fun _ _ _ _ => rfl) ?_
      refine xW.to (v := vl (if 0 ≤ x1 then (x1.toInt64) else ((-x1).toInt64))) ((congrArg vl (if_neg hc3)).symm) ?_
      exact J
  refine xW.call (y := 97) (as := [vr 12 230, vl (if 0 ≤ x1 then (x1.toInt64) else ((-x1).toInt64)), vi 2]) (h0 := xhp (tm_show (tm_show (tm_showFigures (tm_show (tm_showFigures (tm_show s (if 0 ≤ (gI s 231 10) then (32 : Int32) else 45)) (x3 / (tm_ten (tm_show s (if 0 ≤ (gI s 231 10) then (32 : Int32) else 45)) x2)) 1) 46) (x3 - x3 / (tm_ten (tm_show (tm_showFigures (tm_show s (if 0 ≤ (gI s 231 10) then (32 : Int32) else 45)) (x3 / (tm_ten (tm_show s (if 0 ≤ (gI s 231 10) then (32 : Int32) else 45)) x2)) 1) 46) x2) * (tm_ten (tm_show (tm_showFigures (tm_show s (if 0 ≤ (gI s 231 10) then (32 : Int32) else 45)) (x3 / (tm_ten (tm_show s (if 0 ≤ (gI s 231 10) then (32 : Int32) else 45)) x2)) 1) 46) x2)) x2) 69) (if 0 ≤ x1 then (43 : Int32) else 45))) (pc0 := 167) (len := 3) (L0 := [(0, vr 12 230), (1, vi x1), (2, vi x2), (3, vl x3)]) (rest := []) 2 (fun _ _ _ _ => rfl) (m97 _ _ _ g.1 ?_)
  show xW (xX0 xs Ls) p100 170 [(0, vr 12 230), (1, vi x1), (2, vi x2), (3, vl x3)] [] (xhp (tm_showFigures (tm_show (tm_show (tm_showFigures (tm_show (tm_showFigures (tm_show s (if 0 ≤ (gI s 231 10) then (32 : Int32) else 45)) (x3 / (tm_ten (tm_show s (if 0 ≤ (gI s 231 10) then (32 : Int32) else 45)) x2)) 1) 46) (x3 - x3 / (tm_ten (tm_show (tm_showFigures (tm_show s (if 0 ≤ (gI s 231 10) then (32 : Int32) else 45)) (x3 / (tm_ten (tm_show s (if 0 ≤ (gI s 231 10) then (32 : Int32) else 45)) x2)) 1) 46) x2) * (tm_ten (tm_show (tm_showFigures (tm_show s (if 0 ≤ (gI s 231 10) then (32 : Int32) else 45)) (x3 / (tm_ten (tm_show s (if 0 ≤ (gI s 231 10) then (32 : Int32) else 45)) x2)) 1) 46) x2)) x2) 69) (if 0 ≤ x1 then (43 : Int32) else 45)) (if 0 ≤ x1 then (x1.toInt64) else ((-x1).toInt64)) 2)) Φ
  replace g := g.2
  exact xW.ret (v0 := none) (h1 := xhp (tm_showFigures (tm_show (tm_show (tm_showFigures (tm_show (tm_showFigures (tm_show s (if 0 ≤ (gI s 231 10) then (32 : Int32) else 45)) (x3 / (tm_ten (tm_show s (if 0 ≤ (gI s 231 10) then (32 : Int32) else 45)) x2)) 1) 46) (x3 - x3 / (tm_ten (tm_show (tm_showFigures (tm_show s (if 0 ≤ (gI s 231 10) then (32 : Int32) else 45)) (x3 / (tm_ten (tm_show s (if 0 ≤ (gI s 231 10) then (32 : Int32) else 45)) x2)) 1) 46) x2) * (tm_ten (tm_show (tm_showFigures (tm_show s (if 0 ≤ (gI s 231 10) then (32 : Int32) else 45)) (x3 / (tm_ten (tm_show s (if 0 ≤ (gI s 231 10) then (32 : Int32) else 45)) x2)) 1) 46) x2)) x2) 69) (if 0 ≤ x1 then (43 : Int32) else 45)) (if 0 ≤ x1 then (x1.toInt64) else ((-x1).toInt64)) 2)) 1 (fun _ _ _ _ => rfl) g
noncomputable def tm_showScientific_83_d (s : xS) (x1 : Int32) (x2 : Int32) (x3 : Int64) : xS := (tm_showFigures (tm_show (tm_show (tm_showFigures (tm_show (tm_showFigures (tm_show s (if 0 ≤ (gI s 231 10) then (32 : Int32) else 45)) (x3 / (tm_ten (tm_show s (if 0 ≤ (gI s 231 10) then (32 : Int32) else 45)) x2)) 1) 46) (x3 - x3 / (tm_ten (tm_show (tm_showFigures (tm_show s (if 0 ≤ (gI s 231 10) then (32 : Int32) else 45)) (x3 / (tm_ten (tm_show s (if 0 ≤ (gI s 231 10) then (32 : Int32) else 45)) x2)) 1) 46) x2) * (tm_ten (tm_show (tm_showFigures (tm_show s (if 0 ≤ (gI s 231 10) then (32 : Int32) else 45)) (x3 / (tm_ten (tm_show s (if 0 ≤ (gI s 231 10) then (32 : Int32) else 45)) x2)) 1) 46) x2)) x2) 69) (if 0 ≤ x1 then (43 : Int32) else 45)) (if 0 ≤ x1 then (x1.toInt64) else ((-x1).toInt64)) 2)
noncomputable def tm_showScientific_83 : xS → Int32 → Int32 → Int64 → xS := Classical.choose (⟨tm_showScientific_83_d, rfl⟩ : ∃ f, f = tm_showScientific_83_d)
set_option maxRecDepth 100000 in
theorem tm_showScientific_83_eq : tm_showScientific_83 = tm_showScientific_83_d := Classical.choose_spec (⟨tm_showScientific_83_d, rfl⟩ : ∃ f, f = tm_showScientific_83_d)
def tm_showScientific_83_ok (s : xS) (x1 : Int32) (x2 : Int32) (x3 : Int64) : Prop := ((tm_show_ok s (if 0 ≤ (gI s 231 10) then (32 : Int32) else 45)) ∧ ((tm_ten_ok (tm_show s (if 0 ≤ (gI s 231 10) then (32 : Int32) else 45)) x2) ∧ ((¬ (tm_ten (tm_show s (if 0 ≤ (gI s 231 10) then (32 : Int32) else 45)) x2) = 0) ∧ ((tm_showFigures_ok (tm_show s (if 0 ≤ (gI s 231 10) then (32 : Int32) else 45)) (x3 / (tm_ten (tm_show s (if 0 ≤ (gI s 231 10) then (32 : Int32) else 45)) x2)) 1) ∧ ((tm_show_ok (tm_showFigures (tm_show s (if 0 ≤ (gI s 231 10) then (32 : Int32) else 45)) (x3 / (tm_ten (tm_show s (if 0 ≤ (gI s 231 10) then (32 : Int32) else 45)) x2)) 1) 46) ∧ ((tm_ten_ok (tm_show (tm_showFigures (tm_show s (if 0 ≤ (gI s 231 10) then (32 : Int32) else 45)) (x3 / (tm_ten (tm_show s (if 0 ≤ (gI s 231 10) then (32 : Int32) else 45)) x2)) 1) 46) x2) ∧ ((¬ (tm_ten (tm_show (tm_showFigures (tm_show s (if 0 ≤ (gI s 231 10) then (32 : Int32) else 45)) (x3 / (tm_ten (tm_show s (if 0 ≤ (gI s 231 10) then (32 : Int32) else 45)) x2)) 1) 46) x2) = 0) ∧ ((tm_showFigures_ok (tm_show (tm_showFigures (tm_show s (if 0 ≤ (gI s 231 10) then (32 : Int32) else 45)) (x3 / (tm_ten (tm_show s (if 0 ≤ (gI s 231 10) then (32 : Int32) else 45)) x2)) 1) 46) (x3 - x3 / (tm_ten (tm_show (tm_showFigures (tm_show s (if 0 ≤ (gI s 231 10) then (32 : Int32) else 45)) (x3 / (tm_ten (tm_show s (if 0 ≤ (gI s 231 10) then (32 : Int32) else 45)) x2)) 1) 46) x2) * (tm_ten (tm_show (tm_showFigures (tm_show s (if 0 ≤ (gI s 231 10) then (32 : Int32) else 45)) (x3 / (tm_ten (tm_show s (if 0 ≤ (gI s 231 10) then (32 : Int32) else 45)) x2)) 1) 46) x2)) x2) ∧ ((tm_show_ok (tm_showFigures (tm_show (tm_showFigures (tm_show s (if 0 ≤ (gI s 231 10) then (32 : Int32) else 45)) (x3 / (tm_ten (tm_show s (if 0 ≤ (gI s 231 10) then (32 : Int32) else 45)) x2)) 1) 46) (x3 - x3 / (tm_ten (tm_show (tm_showFigures (tm_show s (if 0 ≤ (gI s 231 10) then (32 : Int32) else 45)) (x3 / (tm_ten (tm_show s (if 0 ≤ (gI s 231 10) then (32 : Int32) else 45)) x2)) 1) 46) x2) * (tm_ten (tm_show (tm_showFigures (tm_show s (if 0 ≤ (gI s 231 10) then (32 : Int32) else 45)) (x3 / (tm_ten (tm_show s (if 0 ≤ (gI s 231 10) then (32 : Int32) else 45)) x2)) 1) 46) x2)) x2) 69) ∧ ((tm_show_ok (tm_show (tm_showFigures (tm_show (tm_showFigures (tm_show s (if 0 ≤ (gI s 231 10) then (32 : Int32) else 45)) (x3 / (tm_ten (tm_show s (if 0 ≤ (gI s 231 10) then (32 : Int32) else 45)) x2)) 1) 46) (x3 - x3 / (tm_ten (tm_show (tm_showFigures (tm_show s (if 0 ≤ (gI s 231 10) then (32 : Int32) else 45)) (x3 / (tm_ten (tm_show s (if 0 ≤ (gI s 231 10) then (32 : Int32) else 45)) x2)) 1) 46) x2) * (tm_ten (tm_show (tm_showFigures (tm_show s (if 0 ≤ (gI s 231 10) then (32 : Int32) else 45)) (x3 / (tm_ten (tm_show s (if 0 ≤ (gI s 231 10) then (32 : Int32) else 45)) x2)) 1) 46) x2)) x2) 69) (if 0 ≤ x1 then (43 : Int32) else 45)) ∧ (tm_showFigures_ok (tm_show (tm_show (tm_showFigures (tm_show (tm_showFigures (tm_show s (if 0 ≤ (gI s 231 10) then (32 : Int32) else 45)) (x3 / (tm_ten (tm_show s (if 0 ≤ (gI s 231 10) then (32 : Int32) else 45)) x2)) 1) 46) (x3 - x3 / (tm_ten (tm_show (tm_showFigures (tm_show s (if 0 ≤ (gI s 231 10) then (32 : Int32) else 45)) (x3 / (tm_ten (tm_show s (if 0 ≤ (gI s 231 10) then (32 : Int32) else 45)) x2)) 1) 46) x2) * (tm_ten (tm_show (tm_showFigures (tm_show s (if 0 ≤ (gI s 231 10) then (32 : Int32) else 45)) (x3 / (tm_ten (tm_show s (if 0 ≤ (gI s 231 10) then (32 : Int32) else 45)) x2)) 1) 46) x2)) x2) 69) (if 0 ≤ x1 then (43 : Int32) else 45)) (if 0 ≤ x1 then (x1.toInt64) else ((-x1).toInt64)) 2)))))))))))
set_option maxRecDepth 100000 in
theorem n100_83 {xs : Nat → Int32} {Ls : Nat} {Φ : Option xV → xH → Prop} (s : xS) (x1 : Int32) (x2 : Int32) (x3 : Int64) (gq : tm_showScientific_83_ok s x1 x2 x3) (h : Φ none (xhp (tm_showScientific_83 s x1 x2 x3))) : xW (xX0 xs Ls) p100 83 [(0, vr 12 230), (1, vi x1), (2, vi x2), (3, vl x3)] [] (xhp s) Φ := by
  rw [tm_showScientific_83_eq] at h
  unfold tm_showScientific_83_d at h
  unfold tm_showScientific_83_ok at gq
  exact b100_83 s x1 x2 x3 (⟨gq.1, by replace gq := gq.2; exact ⟨gq.1, by replace gq := gq.2; exact ⟨gq.1, by replace gq := gq.2; exact ⟨gq.1, by replace gq := gq.2; exact ⟨gq.1, by replace gq := gq.2; exact ⟨gq.1, by replace gq := gq.2; exact ⟨gq.1, by replace gq := gq.2; exact ⟨gq.1, by replace gq := gq.2; exact ⟨gq.1, by replace gq := gq.2; exact ⟨gq.1, by replace gq := gq.2; exact ⟨gq, h⟩⟩⟩⟩⟩⟩⟩⟩⟩⟩⟩)
set_option maxRecDepth 100000 in
theorem b100_82 {xs : Nat → Int32} {Ls : Nat} {Φ : Option xV → xH → Prop} (s : xS) (x2 : Int32) (x3 : Int64) (y0 : Int32) (g : xW (xX0 xs Ls) p100 83 [(0, vr 12 230), (1, vi y0), (2, vi x2), (3, vl x3)] [] (xhp s) Φ) : xW (xX0 xs Ls) p100 82 [(0, vr 12 230), (2, vi x2), (3, vl x3)] [vi y0] (xhp s) Φ := by
  refine xW.seg (pc1 := 83) (L1 := [(1, vi y0), (0, vr 12 230), (2, vi x2), (3, vl x3)]) (st1 := []) (h1 := xhp s) 1 (fun _ _ _ _ => rfl) ?_
  exact xW.locs (L := [(0, vr 12 230), (1, vi y0), (2, vi x2), (3, vl x3)]) ⟨rfl, rfl, rfl, rfl, trivial⟩ rfl g
noncomputable def tm_showScientific_82_d (s : xS) (x2 : Int32) (x3 : Int64) (y0 : Int32) : xS := (tm_showScientific_83 s y0 x2 x3)
noncomputable def tm_showScientific_82 : xS → Int32 → Int64 → Int32 → xS := Classical.choose (⟨tm_showScientific_82_d, rfl⟩ : ∃ f, f = tm_showScientific_82_d)
set_option maxRecDepth 100000 in
theorem tm_showScientific_82_eq : tm_showScientific_82 = tm_showScientific_82_d := Classical.choose_spec (⟨tm_showScientific_82_d, rfl⟩ : ∃ f, f = tm_showScientific_82_d)
def tm_showScientific_82_ok (s : xS) (x2 : Int32) (x3 : Int64) (y0 : Int32) : Prop := (tm_showScientific_83_ok s y0 x2 x3)
set_option maxRecDepth 100000 in
theorem n100_82 {xs : Nat → Int32} {Ls : Nat} {Φ : Option xV → xH → Prop} (s : xS) (x2 : Int32) (x3 : Int64) (y0 : Int32) (gq : tm_showScientific_82_ok s x2 x3 y0) (h : Φ none (xhp (tm_showScientific_82 s x2 x3 y0))) : xW (xX0 xs Ls) p100 82 [(0, vr 12 230), (2, vi x2), (3, vl x3)] [vi y0] (xhp s) Φ := by
  rw [tm_showScientific_82_eq] at h
  unfold tm_showScientific_82_d at h
  unfold tm_showScientific_82_ok at gq
  exact b100_82 s x2 x3 y0 (n100_83 _ _ _ _ gq h)
set_option maxRecDepth 100000 in
theorem b100_67 {xs : Nat → Int32} {Ls : Nat} {Φ : Option xV → xH → Prop} (s : xS) (x1 : Int32) (x2 : Int32) (y0 : Int64) (g : xW (xX0 xs Ls) p100 82 [(0, vr 12 230), (2, vi x2), (3, vl y0)] [vi (if x1 = 99 then (99 : Int32) else (x1 + 1))] (xhp s) Φ) : xW (xX0 xs Ls) p100 67 [(0, vr 12 230), (1, vi x1), (2, vi x2)] [vl y0] (xhp s) Φ := by
  refine xW.seg (pc1 := 71) (L1 := [(3, vl y0), (0, vr 12 230), (1, vi x1), (2, vi x2)]) (st1 := [vi 99, vi x1]) (h1 := xhp s) 3 (fun _ _ _ _ => rfl) ?_
  suffices J : xW (xX0 xs Ls) p100 82 [(3, vl y0), (0, vr 12 230), (1, vi x1), (2, vi x2)] [vi (if x1 = 99 then (99 : Int32) else (x1 + 1))] (xhp s) Φ by
    refine xW.br (c := ¬ x1 = 99) (pc1 := 79) (L1 := [(3, vl y0), (0, vr 12 230), (1, vi x1), (2, vi x2)]) (st1 := []) (h1 := xhp s) (pc2 := 74) (L2 := [(3, vl y0), (0, vr 12 230), (1, vi x1), (2, vi x2)]) (st2 := []) (h2 := xhp s) 1 (fun _ _ _ _ => rfl) (fun hc => ?_) (fun hc => ?_)
    · have hc1 : ¬ x1 = 99 := hc
      refine xW.seg (pc1 := 82) (L1 := [(3, vl y0), (0, vr 12 230), (1, vi x1), (2, vi x2)]) (st1 := [vi (x1 + 1)]) (h1 := xhp s) 3 (fun _ _ _ _ => rfl) ?_
      refine xW.to (v := vi (if x1 = 99 then (99 : Int32) else (x1 + 1))) ((congrArg vi (if_neg hc1)).symm) ?_
      exact J
    · have hc1 : x1 = 99 := (Decidable.not_not.mp hc)
      refine xW.seg (pc1 := 82) (L1 := [(3, vl y0), (0, vr 12 230), (1, vi x1), (2, vi x2)]) (st1 := [vi 99]) (h1 := xhp s) 2 (fun _ _ _ _ => rfl) ?_
      refine xW.to (v := vi (if x1 = 99 then (99 : Int32) else (x1 + 1))) ((congrArg vi (if_pos hc1)).symm) ?_
      exact J
  exact xW.locs (L := [(0, vr 12 230), (2, vi x2), (3, vl y0)]) ⟨rfl, rfl, rfl, trivial⟩ rfl g
noncomputable def tm_showScientific_67_d (s : xS) (x1 : Int32) (x2 : Int32) (y0 : Int64) : xS := (tm_showScientific_82 s x2 y0 (if x1 = 99 then (99 : Int32) else (x1 + 1)))
noncomputable def tm_showScientific_67 : xS → Int32 → Int32 → Int64 → xS := Classical.choose (⟨tm_showScientific_67_d, rfl⟩ : ∃ f, f = tm_showScientific_67_d)
set_option maxRecDepth 100000 in
theorem tm_showScientific_67_eq : tm_showScientific_67 = tm_showScientific_67_d := Classical.choose_spec (⟨tm_showScientific_67_d, rfl⟩ : ∃ f, f = tm_showScientific_67_d)
def tm_showScientific_67_ok (s : xS) (x1 : Int32) (x2 : Int32) (y0 : Int64) : Prop := (tm_showScientific_82_ok s x2 y0 (if x1 = 99 then (99 : Int32) else (x1 + 1)))
set_option maxRecDepth 100000 in
theorem n100_67 {xs : Nat → Int32} {Ls : Nat} {Φ : Option xV → xH → Prop} (s : xS) (x1 : Int32) (x2 : Int32) (y0 : Int64) (gq : tm_showScientific_67_ok s x1 x2 y0) (h : Φ none (xhp (tm_showScientific_67 s x1 x2 y0))) : xW (xX0 xs Ls) p100 67 [(0, vr 12 230), (1, vi x1), (2, vi x2)] [vl y0] (xhp s) Φ := by
  rw [tm_showScientific_67_eq] at h
  unfold tm_showScientific_67_d at h
  unfold tm_showScientific_67_ok at gq
  exact b100_67 s x1 x2 y0 (n100_82 _ _ _ _ gq h)
set_option maxRecDepth 100000 in
theorem b100_0 {xs : Nat → Int32} {Ls : Nat} {Φ : Option xV → xH → Prop} (s : xS) (g : ((tm_cut_ok s (gJ s 232 10) (11 - (gI s 230 18))) ∧ ((tm_ten_ok s ((gI s 230 18) + 1)) ∧ ((¬ (tm_cut s (gJ s 232 10) (11 - (gI s 230 18))) = (tm_ten s ((gI s 230 18) + 1)) → xW (xX0 xs Ls) p100 83 [(0, vr 12 230), (1, vi (gI s 231 33)), (2, vi (gI s 230 18)), (3, vl (tm_cut s (gJ s 232 10) (11 - (gI s 230 18))))] [] (xhp s) Φ) ∧ ((tm_cut s (gJ s 232 10) (11 - (gI s 230 18))) = (tm_ten s ((gI s 230 18) + 1)) → ((¬ (gI s 231 33) = 99 → ((tm_ten_ok s (gI s 230 18)) ∧ xW (xX0 xs Ls) p100 67 [(0, vr 12 230), (1, vi (gI s 231 33)), (2, vi (gI s 230 18))] [vl (tm_ten s (gI s 230 18))] (xhp s) Φ)) ∧ ((gI s 231 33) = 99 → ((tm_ten_ok s (11 - (gI s 230 18))) ∧ ((¬ (tm_ten s (11 - (gI s 230 18))) = 0) ∧ xW (xX0 xs Ls) p100 67 [(0, vr 12 230), (1, vi (gI s 231 33)), (2, vi (gI s 230 18))] [vl ((gJ s 232 10) / (tm_ten s (11 - (gI s 230 18))))] (xhp s) Φ))))))))) : xW (xX0 xs Ls) p100 0 [(0, vr 12 230)] [] (xhp s) Φ := by
  refine xW.side (c := vp_in 33 640) (pc1 := 7) (L1 := [(0, vr 12 230)]) (st1 := [vi (gI s 231 33)]) (h1 := xhp s) 4 (fun _ _ _ _ => rfl) (vp_lit rfl) ?_
  refine xW.side (c := vp_in 10 192) (pc1 := 20) (L1 := [(2, vi (gI s 230 18)), (1, vi (gI s 231 33)), (0, vr 12 230)]) (st1 := [vl (gJ s 232 10)]) (h1 := xhp s) 8 (fun _ _ _ _ => rfl) (vp_lit rfl) ?_
  refine xW.call (y := 99) (as := [vl (gJ s 232 10), vi (11 - (gI s 230 18))]) (h0 := xhp s) (pc0 := 24) (len := 3) (L0 := [(2, vi (gI s 230 18)), (1, vi (gI s 231 33)), (0, vr 12 230)]) (rest := []) 4 (fun _ _ _ _ => rfl) (m99 _ _ _ g.1 ?_)
  show xW (xX0 xs Ls) p100 27 [(2, vi (gI s 230 18)), (1, vi (gI s 231 33)), (0, vr 12 230)] [vl (tm_cut s (gJ s 232 10) (11 - (gI s 230 18)))] (xhp s) Φ
  replace g := g.2
  refine xW.call (y := 98) (as := [vi ((gI s 230 18) + 1)]) (h0 := xhp s) (pc0 := 32) (len := 3) (L0 := [(3, vl (tm_cut s (gJ s 232 10) (11 - (gI s 230 18)))), (2, vi (gI s 230 18)), (1, vi (gI s 231 33)), (0, vr 12 230)]) (rest := [vl (tm_cut s (gJ s 232 10) (11 - (gI s 230 18)))]) 6 (fun _ _ _ _ => rfl) (m98 _ _ g.1 ?_)
  show xW (xX0 xs Ls) p100 35 [(3, vl (tm_cut s (gJ s 232 10) (11 - (gI s 230 18)))), (2, vi (gI s 230 18)), (1, vi (gI s 231 33)), (0, vr 12 230)] [vl (tm_ten s ((gI s 230 18) + 1)), vl (tm_cut s (gJ s 232 10) (11 - (gI s 230 18)))] (xhp s) Φ
  replace g := g.2
  refine xW.br (c := ¬ (lg_cmp (tm_cut s (gJ s 232 10) (11 - (gI s 230 18))) (tm_ten s ((gI s 230 18) + 1))) = 0) (pc1 := 83) (L1 := [(3, vl (tm_cut s (gJ s 232 10) (11 - (gI s 230 18)))), (2, vi (gI s 230 18)), (1, vi (gI s 231 33)), (0, vr 12 230)]) (st1 := []) (h1 := xhp s) (pc2 := 39) (L2 := [(3, vl (tm_cut s (gJ s 232 10) (11 - (gI s 230 18)))), (2, vi (gI s 230 18)), (1, vi (gI s 231 33)), (0, vr 12 230)]) (st2 := []) (h2 := xhp s) 2 (fun _ _ _ _ => rfl) (fun hc => ?_) (fun hc => ?_)
  · replace g := g.1 (fun q => hc (lc_eq.mpr q))
    exact xW.locs (L := [(0, vr 12 230), (1, vi (gI s 231 33)), (2, vi (gI s 230 18)), (3, vl (tm_cut s (gJ s 232 10) (11 - (gI s 230 18))))]) ⟨rfl, rfl, rfl, rfl, trivial⟩ rfl g
  · replace g := g.2 (lc_eq.mp (Decidable.not_not.mp hc))
    refine xW.br (c := ¬ (gI s 231 33) = 99) (pc1 := 63) (L1 := [(3, vl (tm_cut s (gJ s 232 10) (11 - (gI s 230 18)))), (2, vi (gI s 230 18)), (1, vi (gI s 231 33)), (0, vr 12 230)]) (st1 := []) (h1 := xhp s) (pc2 := 45) (L2 := [(3, vl (tm_cut s (gJ s 232 10) (11 - (gI s 230 18)))), (2, vi (gI s 230 18)), (1, vi (gI s 231 33)), (0, vr 12 230)]) (st2 := []) (h2 := xhp s) 3 (fun _ _ _ _ => rfl) (fun hc => ?_) (fun hc => ?_)
    · replace g := g.1 hc
      refine xW.call (y := 98) (as := [vi (gI s 230 18)]) (h0 := xhp s) (pc0 := 64) (len := 3) (L0 := [(3, vl (tm_cut s (gJ s 232 10) (11 - (gI s 230 18)))), (2, vi (gI s 230 18)), (1, vi (gI s 231 33)), (0, vr 12 230)]) (rest := []) 2 (fun _ _ _ _ => rfl) (m98 _ _ g.1 ?_)
      show xW (xX0 xs Ls) p100 67 [(3, vl (tm_cut s (gJ s 232 10) (11 - (gI s 230 18)))), (2, vi (gI s 230 18)), (1, vi (gI s 231 33)), (0, vr 12 230)] [vl (tm_ten s (gI s 230 18))] (xhp s) Φ
      replace g := g.2
      exact xW.locs (L := [(0, vr 12 230), (1, vi (gI s 231 33)), (2, vi (gI s 230 18))]) ⟨rfl, rfl, rfl, trivial⟩ rfl g
    · replace g := g.2 (Decidable.not_not.mp hc)
      refine xW.side (c := vp_in 10 192) (pc1 := 52) (L1 := [(3, vl (tm_cut s (gJ s 232 10) (11 - (gI s 230 18)))), (2, vi (gI s 230 18)), (1, vi (gI s 231 33)), (0, vr 12 230)]) (st1 := [vl (gJ s 232 10)]) (h1 := xhp s) 4 (fun _ _ _ _ => rfl) (vp_lit rfl) ?_
      refine xW.call (y := 98) (as := [vi (11 - (gI s 230 18))]) (h0 := xhp s) (pc0 := 56) (len := 3) (L0 := [(3, vl (tm_cut s (gJ s 232 10) (11 - (gI s 230 18)))), (2, vi (gI s 230 18)), (1, vi (gI s 231 33)), (0, vr 12 230)]) (rest := [vl (gJ s 232 10)]) 4 (fun _ _ _ _ => rfl) (m98 _ _ g.1 ?_)
      show xW (xX0 xs Ls) p100 59 [(3, vl (tm_cut s (gJ s 232 10) (11 - (gI s 230 18)))), (2, vi (gI s 230 18)), (1, vi (gI s 231 33)), (0, vr 12 230)] [vl (tm_ten s (11 - (gI s 230 18))), vl (gJ s 232 10)] (xhp s) Φ
      replace g := g.2
      refine xW.side (c := ¬ (tm_ten s (11 - (gI s 230 18))) = 0) (pc1 := 60) (L1 := [(3, vl (tm_cut s (gJ s 232 10) (11 - (gI s 230 18)))), (2, vi (gI s 230 18)), (1, vi (gI s 231 33)), (0, vr 12 230)]) (st1 := [vl ((gJ s 232 10) / (tm_ten s (11 - (gI s 230 18))))]) (h1 := xhp s) 1 (fun _ _ _ _ => rfl) g.1 ?_
      replace g := g.2
      refine xW.seg (pc1 := 67) (L1 := [(3, vl (tm_cut s (gJ s 232 10) (11 - (gI s 230 18)))), (2, vi (gI s 230 18)), (1, vi (gI s 231 33)), (0, vr 12 230)]) (st1 := [vl ((gJ s 232 10) / (tm_ten s (11 - (gI s 230 18))))]) (h1 := xhp s) 1 (fun _ _ _ _ => rfl) ?_
      exact xW.locs (L := [(0, vr 12 230), (1, vi (gI s 231 33)), (2, vi (gI s 230 18))]) ⟨rfl, rfl, rfl, trivial⟩ rfl g
noncomputable def tm_showScientific_d (s : xS) : xS := (if ¬ (tm_cut s (gJ s 232 10) (11 - (gI s 230 18))) = (tm_ten s ((gI s 230 18) + 1)) then (tm_showScientific_83 s (gI s 231 33) (gI s 230 18) (tm_cut s (gJ s 232 10) (11 - (gI s 230 18)))) else (if ¬ (gI s 231 33) = 99 then (tm_showScientific_67 s (gI s 231 33) (gI s 230 18) (tm_ten s (gI s 230 18))) else (tm_showScientific_67 s (gI s 231 33) (gI s 230 18) ((gJ s 232 10) / (tm_ten s (11 - (gI s 230 18)))))))
noncomputable def tm_showScientific : xS → xS := Classical.choose (⟨tm_showScientific_d, rfl⟩ : ∃ f, f = tm_showScientific_d)
set_option maxRecDepth 100000 in
theorem tm_showScientific_eq : tm_showScientific = tm_showScientific_d := Classical.choose_spec (⟨tm_showScientific_d, rfl⟩ : ∃ f, f = tm_showScientific_d)
def tm_showScientific_ok (s : xS) : Prop := ((tm_cut_ok s (gJ s 232 10) (11 - (gI s 230 18))) ∧ ((tm_ten_ok s ((gI s 230 18) + 1)) ∧ ((¬ (tm_cut s (gJ s 232 10) (11 - (gI s 230 18))) = (tm_ten s ((gI s 230 18) + 1)) → (tm_showScientific_83_ok s (gI s 231 33) (gI s 230 18) (tm_cut s (gJ s 232 10) (11 - (gI s 230 18))))) ∧ ((tm_cut s (gJ s 232 10) (11 - (gI s 230 18))) = (tm_ten s ((gI s 230 18) + 1)) → ((¬ (gI s 231 33) = 99 → ((tm_ten_ok s (gI s 230 18)) ∧ (tm_showScientific_67_ok s (gI s 231 33) (gI s 230 18) (tm_ten s (gI s 230 18))))) ∧ ((gI s 231 33) = 99 → ((tm_ten_ok s (11 - (gI s 230 18))) ∧ ((¬ (tm_ten s (11 - (gI s 230 18))) = 0) ∧ (tm_showScientific_67_ok s (gI s 231 33) (gI s 230 18) ((gJ s 232 10) / (tm_ten s (11 - (gI s 230 18)))))))))))))
set_option maxRecDepth 100000 in
theorem m100 {xs : Nat → Int32} {Ls : Nat} {Ψ : xO → xH → Prop} (s : xS) (gq : tm_showScientific_ok s) (h : Ψ (.inl none) (xhp (tm_showScientific s))) : xM (xX0 xs Ls) 100 [vr 12 230] (xhp s) Ψ := by
  rw [tm_showScientific_eq] at h
  unfold tm_showScientific_d at h
  unfold tm_showScientific_ok at gq
  exact xM.of (P := p100) rfl rfl rfl (b100_0 s (⟨gq.1, by replace gq := gq.2; exact ⟨gq.1, by replace gq := gq.2; exact ⟨fun hc => by rw [if_pos hc] at h; replace gq := gq.1 hc; exact n100_83 _ _ _ _ gq h, fun hc => by rw [if_neg (fun z => z hc)] at h; replace gq := gq.2 hc; exact ⟨fun hc => by rw [if_pos hc] at h; replace gq := gq.1 hc; exact ⟨gq.1, by replace gq := gq.2; exact n100_67 _ _ _ _ gq h⟩, fun hc => by rw [if_neg (fun z => z hc)] at h; replace gq := gq.2 hc; exact ⟨gq.1, by replace gq := gq.2; exact ⟨gq.1, by replace gq := gq.2; exact n100_67 _ _ _ _ gq h⟩⟩⟩⟩⟩⟩))
/-! tm_showNumber -/
theorem b101_161 {xs : Nat → Int32} {Ls : Nat} {Φ : Option xV → xH → Prop} (s : xS) (x3 : Int32) (x5 : Int64) (x7 : Int64) (x9 : Int32) (g : ((tm_ten_ok s x9) ∧ ((x7 < (tm_ten s x9) → ((tm_showFigures_ok s x7 x9) ∧ ((tm_show_ok (tm_showFigures s x7 x9) 46) ∧ ((tm_ten_ok (tm_show (tm_showFigures s x7 x9) 46) x3) ∧ ((¬ (tm_ten (tm_show (tm_showFigures s x7 x9) 46) x3) = 0) ∧ ((tm_showFigures_ok (tm_show (tm_showFigures s x7 x9) 46) (x5 - x5 / (tm_ten (tm_show (tm_showFigures s x7 x9) 46) x3) * (tm_ten (tm_show (tm_showFigures s x7 x9) 46) x3)) x3) ∧ Φ none (xhp (tm_showFigures (tm_show (tm_showFigures s x7 x9) 46) (x5 - x5 / (tm_ten (tm_show (tm_showFigures s x7 x9) 46) x3) * (tm_ten (tm_show (tm_showFigures s x7 x9) 46) x3)) x3)))))))) ∧ (¬ (x7 < (tm_ten s x9)) → xW (xX0 xs Ls) p101 161 [(0, vr 12 230), (3, vi x3), (5, vl x5), (7, vl x7), (9, vi (x9 + 1))] [] (xhp s) Φ)))) : xW (xX0 xs Ls) p101 161 [(0, vr 12 230), (3, vi x3), (5, vl x5), (7, vl x7), (9, vi x9)] [] (xhp s) Φ := by
  refine xW.call (y := 98) (as := [vi x9]) (h0 := xhp s) (pc0 := 165) (len := 3) (L0 := [(0, vr 12 230), (3, vi x3), (5, vl x5), (7, vl x7), (9, vi x9)]) (rest := [vl x7]) 3 (fun _ _ _ _ => rfl) (m98 _ _ g.1 ?_)
  show xW (xX0 xs Ls) p101 168 [(0, vr 12 230), (3, vi x3), (5, vl x5), (7, vl x7), (9, vi x9)] [vl (tm_ten s x9), vl x7] (xhp s) Φ
  replace g := g.2
  refine xW.br (c := (lg_cmp x7 (tm_ten s x9)) < 0) (pc1 := 178) (L1 := [(0, vr 12 230), (3, vi x3), (5, vl x5), (7, vl x7), (9, vi x9)]) (st1 := []) (h1 := xhp s) (pc2 := 172) (L2 := [(0, vr 12 230), (3, vi x3), (5, vl x5), (7, vl x7), (9, vi x9)]) (st2 := []) (h2 := xhp s) 2 (fun _ _ _ _ => rfl) (fun hc => ?_) (fun hc => ?_)
  · replace g := g.1 (lc_lt.mp hc)
    refine xW.call (y := 97) (as := [vr 12 230, vl x7, vi x9]) (h0 := xhp s) (pc0 := 183) (len := 3) (L0 := [(0, vr 12 230), (3, vi x3), (5, vl x5), (7, vl x7), (9, vi x9)]) (rest := []) 4 (fun _ _ _ _ => rfl) (m97 _ _ _ g.1 ?_)
    show xW (xX0 xs Ls) p101 186 [(0, vr 12 230), (3, vi x3), (5, vl x5), (7, vl x7), (9, vi x9)] [] (xhp (tm_showFigures s x7 x9)) Φ
    replace g := g.2
    refine xW.call (y := 96) (as := [vr 12 230, vi 46]) (h0 := xhp (tm_showFigures s x7 x9)) (pc0 := 189) (len := 3) (L0 := [(0, vr 12 230), (3, vi x3), (5, vl x5), (7, vl x7), (9, vi x9)]) (rest := []) 3 (fun _ _ _ _ => rfl) (m96 _ _ g.1 ?_)
    show xW (xX0 xs Ls) p101 192 [(0, vr 12 230), (3, vi x3), (5, vl x5), (7, vl x7), (9, vi x9)] [] (xhp (tm_show (tm_showFigures s x7 x9) 46)) Φ
    replace g := g.2
    refine xW.call (y := 98) (as := [vi x3]) (h0 := xhp (tm_show (tm_showFigures s x7 x9) 46)) (pc0 := 196) (len := 3) (L0 := [(0, vr 12 230), (3, vi x3), (5, vl x5), (7, vl x7), (9, vi x9)]) (rest := [vl x5, vr 12 230]) 4 (fun _ _ _ _ => rfl) (m98 _ _ g.1 ?_)
    show xW (xX0 xs Ls) p101 199 [(0, vr 12 230), (3, vi x3), (5, vl x5), (7, vl x7), (9, vi x9)] [vl (tm_ten (tm_show (tm_showFigures s x7 x9) 46) x3), vl x5, vr 12 230] (xhp (tm_show (tm_showFigures s x7 x9) 46)) Φ
    replace g := g.2
    refine xW.side (c := ¬ (tm_ten (tm_show (tm_showFigures s x7 x9) 46) x3) = 0) (pc1 := 200) (L1 := [(0, vr 12 230), (3, vi x3), (5, vl x5), (7, vl x7), (9, vi x9)]) (st1 := [vl (x5 - x5 / (tm_ten (tm_show (tm_showFigures s x7 x9) 46) x3) * (tm_ten (tm_show (tm_showFigures s x7 x9) 46) x3)), vr 12 230]) (h1 := xhp (tm_show (tm_showFigures s x7 x9) 46)) 1 (fun _ _ _ _ => rfl) g.1 ?_
    replace g := g.2
    refine xW.call (y := 97) (as := [vr 12 230, vl (x5 - x5 / (tm_ten (tm_show (tm_showFigures s x7 x9) 46) x3) * (tm_ten (tm_show (tm_showFigures s x7 x9) 46) x3)), vi x3]) (h0 := xhp (tm_show (tm_showFigures s x7 x9) 46)) (pc0 := 201) (len := 3) (L0 := [(0, vr 12 230), (3, vi x3), (5, vl x5), (7, vl x7), (9, vi x9)]) (rest := []) 2 (fun _ _ _ _ => rfl) (m97 _ _ _ g.1 ?_)
    show xW (xX0 xs Ls) p101 204 [(0, vr 12 230), (3, vi x3), (5, vl x5), (7, vl x7), (9, vi x9)] [] (xhp (tm_showFigures (tm_show (tm_showFigures s x7 x9) 46) (x5 - x5 / (tm_ten (tm_show (tm_showFigures s x7 x9) 46) x3) * (tm_ten (tm_show (tm_showFigures s x7 x9) 46) x3)) x3)) Φ
    replace g := g.2
    exact xW.ret (v0 := none) (h1 := xhp (tm_showFigures (tm_show (tm_showFigures s x7 x9) 46) (x5 - x5 / (tm_ten (tm_show (tm_showFigures s x7 x9) 46) x3) * (tm_ten (tm_show (tm_showFigures s x7 x9) 46) x3)) x3)) 1 (fun _ _ _ _ => rfl) g
  · replace g := g.2 (fun q => hc (lc_lt.mpr q))
    refine xW.seg (pc1 := 161) (L1 := [(9, vi (x9 + 1)), (0, vr 12 230), (3, vi x3), (5, vl x5), (7, vl x7)]) (st1 := []) (h1 := xhp s) 2 (fun _ _ _ _ => rfl) ?_
    exact xW.locs (L := [(0, vr 12 230), (3, vi x3), (5, vl x5), (7, vl x7), (9, vi (x9 + 1))]) ⟨rfl, rfl, rfl, rfl, rfl, trivial⟩ rfl g
noncomputable def tm_showNumber_161 : Nat → xS → Int32 → Int64 → Int64 → Int32 → xS
  | 0, s, _, _, _, _ => s
  | n + 1, s, x3, x5, x7, x9 => (if x7 < (tm_ten s x9) then (tm_showFigures (tm_show (tm_showFigures s x7 x9) 46) (x5 - x5 / (tm_ten (tm_show (tm_showFigures s x7 x9) 46) x3) * (tm_ten (tm_show (tm_showFigures s x7 x9) 46) x3)) x3) else (tm_showNumber_161 n s x3 x5 x7 (x9 + 1)))
def tm_showNumber_161_ok : Nat → xS → Int32 → Int64 → Int64 → Int32 → Prop
  | 0, _, _, _, _, _ => False
  | n + 1, s, x3, x5, x7, x9 => ((tm_ten_ok s x9) ∧ ((x7 < (tm_ten s x9) → ((tm_showFigures_ok s x7 x9) ∧ ((tm_show_ok (tm_showFigures s x7 x9) 46) ∧ ((tm_ten_ok (tm_show (tm_showFigures s x7 x9) 46) x3) ∧ ((¬ (tm_ten (tm_show (tm_showFigures s x7 x9) 46) x3) = 0) ∧ (tm_showFigures_ok (tm_show (tm_showFigures s x7 x9) 46) (x5 - x5 / (tm_ten (tm_show (tm_showFigures s x7 x9) 46) x3) * (tm_ten (tm_show (tm_showFigures s x7 x9) 46) x3)) x3)))))) ∧ (¬ (x7 < (tm_ten s x9)) → (tm_showNumber_161_ok n s x3 x5 x7 (x9 + 1)))))
set_option maxRecDepth 100000 in
theorem n101_161 {xs : Nat → Int32} {Ls : Nat} {Φ : Option xV → xH → Prop} : ∀ (n : Nat) (s : xS) (x3 : Int32) (x5 : Int64) (x7 : Int64) (x9 : Int32), tm_showNumber_161_ok n s x3 x5 x7 x9 → Φ none (xhp (tm_showNumber_161 n s x3 x5 x7 x9)) → xW (xX0 xs Ls) p101 161 [(0, vr 12 230), (3, vi x3), (5, vl x5), (7, vl x7), (9, vi x9)] [] (xhp s) Φ := by
  intro n
  induction n with
  | zero => intro s _ _ _ _ gq; exact gq.elim
  | succ n ih =>
    intro s x3 x5 x7 x9 gq h
    unfold tm_showNumber_161_ok at gq
    unfold tm_showNumber_161 at h
    exact b101_161 s x3 x5 x7 x9 (⟨gq.1, by replace gq := gq.2; exact ⟨fun hc => by rw [if_pos hc] at h; replace gq := gq.1 hc; exact ⟨gq.1, by replace gq := gq.2; exact ⟨gq.1, by replace gq := gq.2; exact ⟨gq.1, by replace gq := gq.2; exact ⟨gq.1, by replace gq := gq.2; exact ⟨gq, h⟩⟩⟩⟩⟩, fun hc => by rw [if_neg hc] at h; replace gq := gq.2 hc; exact ih _ _ _ _ _ gq h⟩⟩)
set_option maxRecDepth 100000 in
theorem b101_128 {xs : Nat → Int32} {Ls : Nat} {Φ : Option xV → xH → Prop} (s : xS) (x3 : Int32) (x5 : Int64) (g : ((tm_show_ok s (if 0 ≤ (gI s 231 10) then (32 : Int32) else 45)) ∧ ((tm_ten_ok (tm_show s (if 0 ≤ (gI s 231 10) then (32 : Int32) else 45)) x3) ∧ ((¬ (tm_ten (tm_show s (if 0 ≤ (gI s 231 10) then (32 : Int32) else 45)) x3) = 0) ∧ xW (xX0 xs Ls) p101 161 [(0, vr 12 230), (3, vi x3), (5, vl x5), (7, vl (x5 / (tm_ten (tm_show s (if 0 ≤ (gI s 231 10) then (32 : Int32) else 45)) x3))), (9, vi 1)] [] (xhp (tm_show s (if 0 ≤ (gI s 231 10) then (32 : Int32) else 45))) Φ)))) : xW (xX0 xs Ls) p101 128 [(0, vr 12 230), (3, vi x3), (5, vl x5)] [] (xhp s) Φ := by
  refine xW.side (c := vp_in 10 640) (pc1 := 136) (L1 := [(0, vr 12 230), (3, vi x3), (5, vl x5)]) (st1 := [vi (gI s 231 10), vr 12 230]) (h1 := xhp s) 5 (fun _ _ _ _ => rfl) (vp_lit rfl) ?_
  suffices J : xW (xX0 xs Ls) p101 146 [(0, vr 12 230), (3, vi x3), (5, vl x5)] [vi (if 0 ≤ (gI s 231 10) then (32 : Int32) else 45), vr 12 230] (xhp s) Φ by
    refine xW.br (c := 0 ≤ (gI s 231 10)) (pc1 := 144) (L1 := [(0, vr 12 230), (3, vi x3), (5, vl x5)]) (st1 := [vr 12 230]) (h1 := xhp s) (pc2 := 139) (L2 := [(0, vr 12 230), (3, vi x3), (5, vl x5)]) (st2 := [vr 12 230]) (h2 := xhp s) 1 (fun _ _ _ _ => rfl) (fun hc => ?_) (fun hc => ?_)
    · have hc1 : 0 ≤ (gI s 231 10) := hc
      refine xW.seg (pc1 := 146) (L1 := [(0, vr 12 230), (3, vi x3), (5, vl x5)]) (st1 := [vi 32, vr 12 230]) (h1 := xhp s) 1 (fun _ _ _ _ => rfl) ?_
      refine xW.to (v := vi (if 0 ≤ (gI s 231 10) then (32 : Int32) else 45)) ((congrArg vi (if_pos hc1)).symm) ?_
      exact J
    · have hc1 : ¬ (0 ≤ (gI s 231 10)) := hc
      refine xW.seg (pc1 := 146) (L1 := [(0, vr 12 230), (3, vi x3), (5, vl x5)]) (st1 := [vi 45, vr 12 230]) (h1 := xhp s) 2 (fun _ _ _ _ => rfl) ?_
      refine xW.to (v := vi (if 0 ≤ (gI s 231 10) then (32 : Int32) else 45)) ((congrArg vi (if_neg hc1)).symm) ?_
      exact J
  refine xW.call (y := 96) (as := [vr 12 230, vi (if 0 ≤ (gI s 231 10) then (32 : Int32) else 45)]) (h0 := xhp s) (pc0 := 146) (len := 3) (L0 := [(0, vr 12 230), (3, vi x3), (5, vl x5)]) (rest := []) 1 (fun _ _ _ _ => rfl) (m96 _ _ g.1 ?_)
  show xW (xX0 xs Ls) p101 149 [(0, vr 12 230), (3, vi x3), (5, vl x5)] [] (xhp (tm_show s (if 0 ≤ (gI s 231 10) then (32 : Int32) else 45))) Φ
  replace g := g.2
  refine xW.call (y := 98) (as := [vi x3]) (h0 := xhp (tm_show s (if 0 ≤ (gI s 231 10) then (32 : Int32) else 45))) (pc0 := 152) (len := 3) (L0 := [(0, vr 12 230), (3, vi x3), (5, vl x5)]) (rest := [vl x5]) 3 (fun _ _ _ _ => rfl) (m98 _ _ g.1 ?_)
  show xW (xX0 xs Ls) p101 155 [(0, vr 12 230), (3, vi x3), (5, vl x5)] [vl (tm_ten (tm_show s (if 0 ≤ (gI s 231 10) then (32 : Int32) else 45)) x3), vl x5] (xhp (tm_show s (if 0 ≤ (gI s 231 10) then (32 : Int32) else 45))) Φ
  replace g := g.2
  refine xW.side (c := ¬ (tm_ten (tm_show s (if 0 ≤ (gI s 231 10) then (32 : Int32) else 45)) x3) = 0) (pc1 := 156) (L1 := [(0, vr 12 230), (3, vi x3), (5, vl x5)]) (st1 := [vl (x5 / (tm_ten (tm_show s (if 0 ≤ (gI s 231 10) then (32 : Int32) else 45)) x3))]) (h1 := xhp (tm_show s (if 0 ≤ (gI s 231 10) then (32 : Int32) else 45))) 1 (fun _ _ _ _ => rfl) g.1 ?_
  replace g := g.2
  refine xW.seg (pc1 := 161) (L1 := [(9, vi 1), (7, vl (x5 / (tm_ten (tm_show s (if 0 ≤ (gI s 231 10) then (32 : Int32) else 45)) x3))), (0, vr 12 230), (3, vi x3), (5, vl x5)]) (st1 := []) (h1 := xhp (tm_show s (if 0 ≤ (gI s 231 10) then (32 : Int32) else 45))) 3 (fun _ _ _ _ => rfl) ?_
  exact xW.locs (L := [(0, vr 12 230), (3, vi x3), (5, vl x5), (7, vl (x5 / (tm_ten (tm_show s (if 0 ≤ (gI s 231 10) then (32 : Int32) else 45)) x3))), (9, vi 1)]) ⟨rfl, rfl, rfl, rfl, rfl, trivial⟩ rfl g
noncomputable def tm_showNumber_128_d (s : xS) (x3 : Int32) (x5 : Int64) : xS := (tm_showNumber_161 xfu (tm_show s (if 0 ≤ (gI s 231 10) then (32 : Int32) else 45)) x3 x5 (x5 / (tm_ten (tm_show s (if 0 ≤ (gI s 231 10) then (32 : Int32) else 45)) x3)) 1)
noncomputable def tm_showNumber_128 : xS → Int32 → Int64 → xS := Classical.choose (⟨tm_showNumber_128_d, rfl⟩ : ∃ f, f = tm_showNumber_128_d)
set_option maxRecDepth 100000 in
theorem tm_showNumber_128_eq : tm_showNumber_128 = tm_showNumber_128_d := Classical.choose_spec (⟨tm_showNumber_128_d, rfl⟩ : ∃ f, f = tm_showNumber_128_d)
def tm_showNumber_128_ok (s : xS) (x3 : Int32) (x5 : Int64) : Prop := ((tm_show_ok s (if 0 ≤ (gI s 231 10) then (32 : Int32) else 45)) ∧ ((tm_ten_ok (tm_show s (if 0 ≤ (gI s 231 10) then (32 : Int32) else 45)) x3) ∧ ((¬ (tm_ten (tm_show s (if 0 ≤ (gI s 231 10) then (32 : Int32) else 45)) x3) = 0) ∧ (tm_showNumber_161_ok xfu (tm_show s (if 0 ≤ (gI s 231 10) then (32 : Int32) else 45)) x3 x5 (x5 / (tm_ten (tm_show s (if 0 ≤ (gI s 231 10) then (32 : Int32) else 45)) x3)) 1))))
set_option maxRecDepth 100000 in
theorem n101_128 {xs : Nat → Int32} {Ls : Nat} {Φ : Option xV → xH → Prop} (s : xS) (x3 : Int32) (x5 : Int64) (gq : tm_showNumber_128_ok s x3 x5) (h : Φ none (xhp (tm_showNumber_128 s x3 x5))) : xW (xX0 xs Ls) p101 128 [(0, vr 12 230), (3, vi x3), (5, vl x5)] [] (xhp s) Φ := by
  rw [tm_showNumber_128_eq] at h
  unfold tm_showNumber_128_d at h
  unfold tm_showNumber_128_ok at gq
  exact b101_128 s x3 x5 (⟨gq.1, by replace gq := gq.2; exact ⟨gq.1, by replace gq := gq.2; exact ⟨gq.1, by replace gq := gq.2; exact n101_161 _ _ _ _ _ _ gq h⟩⟩⟩)
set_option maxRecDepth 100000 in
theorem b101_123 {xs : Nat → Int32} {Ls : Nat} {Φ : Option xV → xH → Prop} (s : xS) (g : ((tm_showScientific_ok s) ∧ Φ none (xhp (tm_showScientific s)))) : xW (xX0 xs Ls) p101 123 [(0, vr 12 230)] [] (xhp s) Φ := by
  refine xW.call (y := 100) (as := [vr 12 230]) (h0 := xhp s) (pc0 := 124) (len := 3) (L0 := [(0, vr 12 230)]) (rest := []) 2 (fun _ _ _ _ => rfl) (m100 _ g.1 ?_)
  show xW (xX0 xs Ls) p101 127 [(0, vr 12 230)] [] (xhp (tm_showScientific s)) Φ
  replace g := g.2
  exact xW.ret (v0 := none) (h1 := xhp (tm_showScientific s)) 1 (fun _ _ _ _ => rfl) g
noncomputable def tm_showNumber_123_d (s : xS) : xS := (tm_showScientific s)
noncomputable def tm_showNumber_123 : xS → xS := Classical.choose (⟨tm_showNumber_123_d, rfl⟩ : ∃ f, f = tm_showNumber_123_d)
set_option maxRecDepth 100000 in
theorem tm_showNumber_123_eq : tm_showNumber_123 = tm_showNumber_123_d := Classical.choose_spec (⟨tm_showNumber_123_d, rfl⟩ : ∃ f, f = tm_showNumber_123_d)
def tm_showNumber_123_ok (s : xS) : Prop := (tm_showScientific_ok s)
set_option maxRecDepth 100000 in
theorem n101_123 {xs : Nat → Int32} {Ls : Nat} {Φ : Option xV → xH → Prop} (s : xS) (gq : tm_showNumber_123_ok s) (h : Φ none (xhp (tm_showNumber_123 s))) : xW (xX0 xs Ls) p101 123 [(0, vr 12 230)] [] (xhp s) Φ := by
  rw [tm_showNumber_123_eq] at h
  unfold tm_showNumber_123_d at h
  unfold tm_showNumber_123_ok at gq
  exact b101_123 s (⟨gq, h⟩)
set_option maxRecDepth 100000 in
theorem b101_97 {xs : Nat → Int32} {Ls : Nat} {Φ : Option xV → xH → Prop} (s : xS) (x2 : Int32) (x3 : Int32) (x4 : Int32) (y0 : Int64) (g : (((gI s 230 17) = 1 → xW (xX0 xs Ls) p101 123 [(0, vr 12 230)] [] (xhp s) Φ) ∧ (¬ ((gI s 230 17) = 1) → ((¬ x4 = 0 → xW (xX0 xs Ls) p101 123 [(0, vr 12 230)] [] (xhp s) Φ) ∧ (x4 = 0 → ((¬ x2 = 0 → xW (xX0 xs Ls) p101 128 [(0, vr 12 230), (3, vi x3), (5, vl y0)] [] (xhp s) Φ) ∧ (x2 = 0 → ((¬ y0 = 0 → xW (xX0 xs Ls) p101 128 [(0, vr 12 230), (3, vi x3), (5, vl y0)] [] (xhp s) Φ) ∧ (y0 = 0 → xW (xX0 xs Ls) p101 123 [(0, vr 12 230)] [] (xhp s) Φ))))))))) : xW (xX0 xs Ls) p101 97 [(0, vr 12 230), (2, vi x2), (3, vi x3), (4, vi x4)] [vl y0] (xhp s) Φ := by
  refine xW.br (c := (gI s 230 17) = 1) (pc1 := 123) (L1 := [(5, vl y0), (0, vr 12 230), (2, vi x2), (3, vi x3), (4, vi x4)]) (st1 := []) (h1 := xhp s) (pc2 := 107) (L2 := [(5, vl y0), (0, vr 12 230), (2, vi x2), (3, vi x3), (4, vi x4)]) (st2 := []) (h2 := xhp s) 5 (fun _ _ _ _ => rfl) (fun hc => ?_) (fun hc => ?_)
  · replace g := g.1 hc
    exact xW.locs (L := [(0, vr 12 230)]) ⟨rfl, trivial⟩ rfl g
  · replace g := g.2 hc
    refine xW.br (c := ¬ x4 = 0) (pc1 := 123) (L1 := [(5, vl y0), (0, vr 12 230), (2, vi x2), (3, vi x3), (4, vi x4)]) (st1 := []) (h1 := xhp s) (pc2 := 112) (L2 := [(5, vl y0), (0, vr 12 230), (2, vi x2), (3, vi x3), (4, vi x4)]) (st2 := []) (h2 := xhp s) 2 (fun _ _ _ _ => rfl) (fun hc => ?_) (fun hc => ?_)
    · replace g := g.1 hc
      exact xW.locs (L := [(0, vr 12 230)]) ⟨rfl, trivial⟩ rfl g
    · replace g := g.2 (Decidable.not_not.mp hc)
      refine xW.br (c := ¬ x2 = 0) (pc1 := 128) (L1 := [(5, vl y0), (0, vr 12 230), (2, vi x2), (3, vi x3), (4, vi x4)]) (st1 := []) (h1 := xhp s) (pc2 := 116) (L2 := [(5, vl y0), (0, vr 12 230), (2, vi x2), (3, vi x3), (4, vi x4)]) (st2 := []) (h2 := xhp s) 2 (fun _ _ _ _ => rfl) (fun hc => ?_) (fun hc => ?_)
      · replace g := g.1 hc
        exact xW.locs (L := [(0, vr 12 230), (3, vi x3), (5, vl y0)]) ⟨rfl, rfl, rfl, trivial⟩ rfl g
      · replace g := g.2 (Decidable.not_not.mp hc)
        refine xW.br (c := ¬ (lg_cmp y0 0) = 0) (pc1 := 128) (L1 := [(5, vl y0), (0, vr 12 230), (2, vi x2), (3, vi x3), (4, vi x4)]) (st1 := []) (h1 := xhp s) (pc2 := 123) (L2 := [(5, vl y0), (0, vr 12 230), (2, vi x2), (3, vi x3), (4, vi x4)]) (st2 := []) (h2 := xhp s) 4 (fun _ _ _ _ => rfl) (fun hc => ?_) (fun hc => ?_)
        · replace g := g.1 (fun q => hc (lc_eq.mpr q))
          exact xW.locs (L := [(0, vr 12 230), (3, vi x3), (5, vl y0)]) ⟨rfl, rfl, rfl, trivial⟩ rfl g
        · replace g := g.2 (lc_eq.mp (Decidable.not_not.mp hc))
          exact xW.locs (L := [(0, vr 12 230)]) ⟨rfl, trivial⟩ rfl g
noncomputable def tm_showNumber_97_d (s : xS) (x2 : Int32) (x3 : Int32) (x4 : Int32) (y0 : Int64) : xS := (if (gI s 230 17) = 1 then (tm_showNumber_123 s) else (if ¬ x4 = 0 then (tm_showNumber_123 s) else (if ¬ x2 = 0 then (tm_showNumber_128 s x3 y0) else (if ¬ y0 = 0 then (tm_showNumber_128 s x3 y0) else (tm_showNumber_123 s)))))
noncomputable def tm_showNumber_97 : xS → Int32 → Int32 → Int32 → Int64 → xS := Classical.choose (⟨tm_showNumber_97_d, rfl⟩ : ∃ f, f = tm_showNumber_97_d)
set_option maxRecDepth 100000 in
theorem tm_showNumber_97_eq : tm_showNumber_97 = tm_showNumber_97_d := Classical.choose_spec (⟨tm_showNumber_97_d, rfl⟩ : ∃ f, f = tm_showNumber_97_d)
def tm_showNumber_97_ok (s : xS) (x2 : Int32) (x3 : Int32) (x4 : Int32) (y0 : Int64) : Prop := (((gI s 230 17) = 1 → (tm_showNumber_123_ok s)) ∧ (¬ ((gI s 230 17) = 1) → ((¬ x4 = 0 → (tm_showNumber_123_ok s)) ∧ (x4 = 0 → ((¬ x2 = 0 → (tm_showNumber_128_ok s x3 y0)) ∧ (x2 = 0 → ((¬ y0 = 0 → (tm_showNumber_128_ok s x3 y0)) ∧ (y0 = 0 → (tm_showNumber_123_ok s)))))))))
set_option maxRecDepth 100000 in
theorem n101_97 {xs : Nat → Int32} {Ls : Nat} {Φ : Option xV → xH → Prop} (s : xS) (x2 : Int32) (x3 : Int32) (x4 : Int32) (y0 : Int64) (gq : tm_showNumber_97_ok s x2 x3 x4 y0) (h : Φ none (xhp (tm_showNumber_97 s x2 x3 x4 y0))) : xW (xX0 xs Ls) p101 97 [(0, vr 12 230), (2, vi x2), (3, vi x3), (4, vi x4)] [vl y0] (xhp s) Φ := by
  rw [tm_showNumber_97_eq] at h
  unfold tm_showNumber_97_d at h
  unfold tm_showNumber_97_ok at gq
  exact b101_97 s x2 x3 x4 y0 (⟨fun hc => by rw [if_pos hc] at h; replace gq := gq.1 hc; exact n101_123 _ gq h, fun hc => by rw [if_neg hc] at h; replace gq := gq.2 hc; exact ⟨fun hc => by rw [if_pos hc] at h; replace gq := gq.1 hc; exact n101_123 _ gq h, fun hc => by rw [if_neg (fun z => z hc)] at h; replace gq := gq.2 hc; exact ⟨fun hc => by rw [if_pos hc] at h; replace gq := gq.1 hc; exact n101_128 _ _ _ gq h, fun hc => by rw [if_neg (fun z => z hc)] at h; replace gq := gq.2 hc; exact ⟨fun hc => by rw [if_pos hc] at h; replace gq := gq.1 hc; exact n101_128 _ _ _ gq h, fun hc => by rw [if_neg (fun z => z hc)] at h; replace gq := gq.2 hc; exact n101_123 _ gq h⟩⟩⟩⟩)
set_option maxRecDepth 100000 in
theorem b101_77 {xs : Nat → Int32} {Ls : Nat} {Φ : Option xV → xH → Prop} (s : xS) (x2 : Int32) (x3 : Int32) (x4 : Int32) (g : xW (xX0 xs Ls) p101 97 [(0, vr 12 230), (2, vi x2), (3, vi x3), (4, vi x4)] [vl 0] (xhp s) Φ) : xW (xX0 xs Ls) p101 77 [(0, vr 12 230), (2, vi x2), (3, vi x3), (4, vi x4)] [] (xhp s) Φ := by
  refine xW.seg (pc1 := 97) (L1 := [(0, vr 12 230), (2, vi x2), (3, vi x3), (4, vi x4)]) (st1 := [vl 0]) (h1 := xhp s) 2 (fun _ _ _ _ => rfl) ?_
  exact g
noncomputable def tm_showNumber_77_d (s : xS) (x2 : Int32) (x3 : Int32) (x4 : Int32) : xS := (tm_showNumber_97 s x2 x3 x4 0)
noncomputable def tm_showNumber_77 : xS → Int32 → Int32 → Int32 → xS := Classical.choose (⟨tm_showNumber_77_d, rfl⟩ : ∃ f, f = tm_showNumber_77_d)
set_option maxRecDepth 100000 in
theorem tm_showNumber_77_eq : tm_showNumber_77 = tm_showNumber_77_d := Classical.choose_spec (⟨tm_showNumber_77_d, rfl⟩ : ∃ f, f = tm_showNumber_77_d)
def tm_showNumber_77_ok (s : xS) (x2 : Int32) (x3 : Int32) (x4 : Int32) : Prop := (tm_showNumber_97_ok s x2 x3 x4 0)
set_option maxRecDepth 100000 in
theorem n101_77 {xs : Nat → Int32} {Ls : Nat} {Φ : Option xV → xH → Prop} (s : xS) (x2 : Int32) (x3 : Int32) (x4 : Int32) (gq : tm_showNumber_77_ok s x2 x3 x4) (h : Φ none (xhp (tm_showNumber_77 s x2 x3 x4))) : xW (xX0 xs Ls) p101 77 [(0, vr 12 230), (2, vi x2), (3, vi x3), (4, vi x4)] [] (xhp s) Φ := by
  rw [tm_showNumber_77_eq] at h
  unfold tm_showNumber_77_d at h
  unfold tm_showNumber_77_ok at gq
  exact b101_77 s x2 x3 x4 (n101_97 _ _ _ _ _ gq h)
set_option maxRecDepth 100000 in
theorem b101_66 {xs : Nat → Int32} {Ls : Nat} {Φ : Option xV → xH → Prop} (s : xS) (x1 : Int32) (x2 : Int32) (x3 : Int32) (y0 : Int32) (g : ((¬ x2 = 0 → xW (xX0 xs Ls) p101 77 [(0, vr 12 230), (2, vi x2), (3, vi x3), (4, vi y0)] [] (xhp s) Φ) ∧ (x2 = 0 → ((y0 = 0 → ((tm_cut_ok s (gJ s 232 10) ((11 - x1) - x3)) ∧ xW (xX0 xs Ls) p101 97 [(0, vr 12 230), (2, vi x2), (3, vi x3), (4, vi y0)] [vl (tm_cut s (gJ s 232 10) ((11 - x1) - x3))] (xhp s) Φ)) ∧ (¬ (y0 = 0) → xW (xX0 xs Ls) p101 77 [(0, vr 12 230), (2, vi x2), (3, vi x3), (4, vi y0)] [] (xhp s) Φ))))) : xW (xX0 xs Ls) p101 66 [(0, vr 12 230), (1, vi x1), (2, vi x2), (3, vi x3)] [vi y0] (xhp s) Φ := by
  refine xW.br (c := ¬ x2 = 0) (pc1 := 77) (L1 := [(4, vi y0), (0, vr 12 230), (1, vi x1), (2, vi x2), (3, vi x3)]) (st1 := []) (h1 := xhp s) (pc2 := 72) (L2 := [(4, vi y0), (0, vr 12 230), (1, vi x1), (2, vi x2), (3, vi x3)]) (st2 := []) (h2 := xhp s) 3 (fun _ _ _ _ => rfl) (fun hc => ?_) (fun hc => ?_)
  · replace g := g.1 hc
    exact xW.locs (L := [(0, vr 12 230), (2, vi x2), (3, vi x3), (4, vi y0)]) ⟨rfl, rfl, rfl, rfl, trivial⟩ rfl g
  · replace g := g.2 (Decidable.not_not.mp hc)
    refine xW.br (c := y0 = 0) (pc1 := 81) (L1 := [(4, vi y0), (0, vr 12 230), (1, vi x1), (2, vi x2), (3, vi x3)]) (st1 := []) (h1 := xhp s) (pc2 := 77) (L2 := [(4, vi y0), (0, vr 12 230), (1, vi x1), (2, vi x2), (3, vi x3)]) (st2 := []) (h2 := xhp s) 2 (fun _ _ _ _ => rfl) (fun hc => ?_) (fun hc => ?_)
    · replace g := g.1 hc
      refine xW.side (c := vp_in 10 192) (pc1 := 88) (L1 := [(4, vi y0), (0, vr 12 230), (1, vi x1), (2, vi x2), (3, vi x3)]) (st1 := [vl (gJ s 232 10)]) (h1 := xhp s) 4 (fun _ _ _ _ => rfl) (vp_lit rfl) ?_
      refine xW.call (y := 99) (as := [vl (gJ s 232 10), vi ((11 - x1) - x3)]) (h0 := xhp s) (pc0 := 94) (len := 3) (L0 := [(4, vi y0), (0, vr 12 230), (1, vi x1), (2, vi x2), (3, vi x3)]) (rest := []) 6 (fun _ _ _ _ => rfl) (m99 _ _ _ g.1 ?_)
      show xW (xX0 xs Ls) p101 97 [(4, vi y0), (0, vr 12 230), (1, vi x1), (2, vi x2), (3, vi x3)] [vl (tm_cut s (gJ s 232 10) ((11 - x1) - x3))] (xhp s) Φ
      replace g := g.2
      exact xW.locs (L := [(0, vr 12 230), (2, vi x2), (3, vi x3), (4, vi y0)]) ⟨rfl, rfl, rfl, rfl, trivial⟩ rfl g
    · replace g := g.2 hc
      exact xW.locs (L := [(0, vr 12 230), (2, vi x2), (3, vi x3), (4, vi y0)]) ⟨rfl, rfl, rfl, rfl, trivial⟩ rfl g
noncomputable def tm_showNumber_66_d (s : xS) (x1 : Int32) (x2 : Int32) (x3 : Int32) (y0 : Int32) : xS := (if ¬ x2 = 0 then (tm_showNumber_77 s x2 x3 y0) else (if y0 = 0 then (tm_showNumber_97 s x2 x3 y0 (tm_cut s (gJ s 232 10) ((11 - x1) - x3))) else (tm_showNumber_77 s x2 x3 y0)))
noncomputable def tm_showNumber_66 : xS → Int32 → Int32 → Int32 → Int32 → xS := Classical.choose (⟨tm_showNumber_66_d, rfl⟩ : ∃ f, f = tm_showNumber_66_d)
set_option maxRecDepth 100000 in
theorem tm_showNumber_66_eq : tm_showNumber_66 = tm_showNumber_66_d := Classical.choose_spec (⟨tm_showNumber_66_d, rfl⟩ : ∃ f, f = tm_showNumber_66_d)
def tm_showNumber_66_ok (s : xS) (x1 : Int32) (x2 : Int32) (x3 : Int32) (y0 : Int32) : Prop := ((¬ x2 = 0 → (tm_showNumber_77_ok s x2 x3 y0)) ∧ (x2 = 0 → ((y0 = 0 → ((tm_cut_ok s (gJ s 232 10) ((11 - x1) - x3)) ∧ (tm_showNumber_97_ok s x2 x3 y0 (tm_cut s (gJ s 232 10) ((11 - x1) - x3))))) ∧ (¬ (y0 = 0) → (tm_showNumber_77_ok s x2 x3 y0)))))
set_option maxRecDepth 100000 in
theorem n101_66 {xs : Nat → Int32} {Ls : Nat} {Φ : Option xV → xH → Prop} (s : xS) (x1 : Int32) (x2 : Int32) (x3 : Int32) (y0 : Int32) (gq : tm_showNumber_66_ok s x1 x2 x3 y0) (h : Φ none (xhp (tm_showNumber_66 s x1 x2 x3 y0))) : xW (xX0 xs Ls) p101 66 [(0, vr 12 230), (1, vi x1), (2, vi x2), (3, vi x3)] [vi y0] (xhp s) Φ := by
  rw [tm_showNumber_66_eq] at h
  unfold tm_showNumber_66_d at h
  unfold tm_showNumber_66_ok at gq
  exact b101_66 s x1 x2 x3 y0 (⟨fun hc => by rw [if_pos hc] at h; replace gq := gq.1 hc; exact n101_77 _ _ _ _ gq h, fun hc => by rw [if_neg (fun z => z hc)] at h; replace gq := gq.2 hc; exact ⟨fun hc => by rw [if_pos hc] at h; replace gq := gq.1 hc; exact ⟨gq.1, by replace gq := gq.2; exact n101_97 _ _ _ _ _ gq h⟩, fun hc => by rw [if_neg hc] at h; replace gq := gq.2 hc; exact n101_77 _ _ _ _ gq h⟩⟩)
set_option maxRecDepth 100000 in
theorem b101_50 {xs : Nat → Int32} {Ls : Nat} {Φ : Option xV → xH → Prop} (s : xS) (x1 : Int32) (x2 : Int32) (y0 : Int32) (g : xW (xX0 xs Ls) p101 66 [(0, vr 12 230), (1, vi x1), (2, vi x2), (3, vi y0)] [vi (zb ((decide (x2 = 0)) && (!decide (x1 ≤ 11))))] (xhp s) Φ) : xW (xX0 xs Ls) p101 50 [(0, vr 12 230), (1, vi x1), (2, vi x2)] [vi y0] (xhp s) Φ := by
  refine xW.seg (pc1 := 52) (L1 := [(3, vi y0), (0, vr 12 230), (1, vi x1), (2, vi x2)]) (st1 := [vi x2]) (h1 := xhp s) 2 (fun _ _ _ _ => rfl) ?_
  suffices J : xW (xX0 xs Ls) p101 66 [(3, vi y0), (0, vr 12 230), (1, vi x1), (2, vi x2)] [vi (zb ((decide (x2 = 0)) && (!decide (x1 ≤ 11))))] (xhp s) Φ by
    refine xW.br (c := ¬ x2 = 0) (pc1 := 65) (L1 := [(3, vi y0), (0, vr 12 230), (1, vi x1), (2, vi x2)]) (st1 := []) (h1 := xhp s) (pc2 := 55) (L2 := [(3, vi y0), (0, vr 12 230), (1, vi x1), (2, vi x2)]) (st2 := []) (h2 := xhp s) 1 (fun _ _ _ _ => rfl) (fun hc => ?_) (fun hc => ?_)
    · have hc1 : ¬ x2 = 0 := hc
      refine xW.seg (pc1 := 66) (L1 := [(3, vi y0), (0, vr 12 230), (1, vi x1), (2, vi x2)]) (st1 := [vi 0]) (h1 := xhp s) 1 (fun _ _ _ _ => rfl) ?_
      refine xW.to (v := vi (zb ((decide (x2 = 0)) && (!decide (x1 ≤ 11))))) (zb_f (by simp only [decide_eq_false hc1, Bool.true_or, Bool.or_true, Bool.false_or, Bool.or_false, Bool.true_and, Bool.and_true, Bool.false_and, Bool.and_false, Bool.not_true, Bool.not_false, cond_true, cond_false])) ?_
      exact J
    · have hc1 : x2 = 0 := (Decidable.not_not.mp hc)
      refine xW.br (c := x1 ≤ 11) (pc1 := 65) (L1 := [(3, vi y0), (0, vr 12 230), (1, vi x1), (2, vi x2)]) (st1 := []) (h1 := xhp s) (pc2 := 61) (L2 := [(3, vi y0), (0, vr 12 230), (1, vi x1), (2, vi x2)]) (st2 := []) (h2 := xhp s) 3 (fun _ _ _ _ => rfl) (fun hc => ?_) (fun hc => ?_)
      · have hc2 : x1 ≤ 11 := hc
        refine xW.seg (pc1 := 66) (L1 := [(3, vi y0), (0, vr 12 230), (1, vi x1), (2, vi x2)]) (st1 := [vi 0]) (h1 := xhp s) 1 (fun _ _ _ _ => rfl) ?_
        refine xW.to (v := vi (zb ((decide (x2 = 0)) && (!decide (x1 ≤ 11))))) (zb_f (by simp only [decide_eq_true hc1, decide_eq_true hc2, Bool.true_or, Bool.or_true, Bool.false_or, Bool.or_false, Bool.true_and, Bool.and_true, Bool.false_and, Bool.and_false, Bool.not_true, Bool.not_false, cond_true, cond_false])) ?_
        exact J
      · have hc2 : ¬ (x1 ≤ 11) := hc
        refine xW.seg (pc1 := 66) (L1 := [(3, vi y0), (0, vr 12 230), (1, vi x1), (2, vi x2)]) (st1 := [vi 1]) (h1 := xhp s) 2 (fun _ _ _ _ => rfl) ?_
        refine xW.to (v := vi (zb ((decide (x2 = 0)) && (!decide (x1 ≤ 11))))) (zb_t (by simp only [decide_eq_true hc1, decide_eq_false hc2, Bool.true_or, Bool.or_true, Bool.false_or, Bool.or_false, Bool.true_and, Bool.and_true, Bool.false_and, Bool.and_false, Bool.not_true, Bool.not_false, cond_true, cond_false])) ?_
        exact J
  exact xW.locs (L := [(0, vr 12 230), (1, vi x1), (2, vi x2), (3, vi y0)]) ⟨rfl, rfl, rfl, rfl, trivial⟩ rfl g
noncomputable def tm_showNumber_50_d (s : xS) (x1 : Int32) (x2 : Int32) (y0 : Int32) : xS := (tm_showNumber_66 s x1 x2 y0 (zb ((decide (x2 = 0)) && (!decide (x1 ≤ 11)))))
noncomputable def tm_showNumber_50 : xS → Int32 → Int32 → Int32 → xS := Classical.choose (⟨tm_showNumber_50_d, rfl⟩ : ∃ f, f = tm_showNumber_50_d)
set_option maxRecDepth 100000 in
theorem tm_showNumber_50_eq : tm_showNumber_50 = tm_showNumber_50_d := Classical.choose_spec (⟨tm_showNumber_50_d, rfl⟩ : ∃ f, f = tm_showNumber_50_d)
def tm_showNumber_50_ok (s : xS) (x1 : Int32) (x2 : Int32) (y0 : Int32) : Prop := (tm_showNumber_66_ok s x1 x2 y0 (zb ((decide (x2 = 0)) && (!decide (x1 ≤ 11)))))
set_option maxRecDepth 100000 in
theorem n101_50 {xs : Nat → Int32} {Ls : Nat} {Φ : Option xV → xH → Prop} (s : xS) (x1 : Int32) (x2 : Int32) (y0 : Int32) (gq : tm_showNumber_50_ok s x1 x2 y0) (h : Φ none (xhp (tm_showNumber_50 s x1 x2 y0))) : xW (xX0 xs Ls) p101 50 [(0, vr 12 230), (1, vi x1), (2, vi x2)] [vi y0] (xhp s) Φ := by
  rw [tm_showNumber_50_eq] at h
  unfold tm_showNumber_50_d at h
  unfold tm_showNumber_50_ok at gq
  exact b101_50 s x1 x2 y0 (n101_66 _ _ _ _ _ gq h)
set_option maxRecDepth 100000 in
theorem b101_23 {xs : Nat → Int32} {Ls : Nat} {Φ : Option xV → xH → Prop} (s : xS) (x1 : Int32) (y0 : Int32) (g : xW (xX0 xs Ls) p101 50 [(0, vr 12 230), (1, vi x1), (2, vi y0)] [vi (if y0 = 0 then (if (gI s 230 18) ≤ (11 - x1) then (gI s 230 18) else (11 - x1)) else (gI s 230 18))] (xhp s) Φ) : xW (xX0 xs Ls) p101 23 [(0, vr 12 230), (1, vi x1)] [vi y0] (xhp s) Φ := by
  refine xW.seg (pc1 := 25) (L1 := [(2, vi y0), (0, vr 12 230), (1, vi x1)]) (st1 := [vi y0]) (h1 := xhp s) 2 (fun _ _ _ _ => rfl) ?_
  suffices J : xW (xX0 xs Ls) p101 50 [(2, vi y0), (0, vr 12 230), (1, vi x1)] [vi (if y0 = 0 then (if (gI s 230 18) ≤ (11 - x1) then (gI s 230 18) else (11 - x1)) else (gI s 230 18))] (xhp s) Φ by
    refine xW.br (c := ¬ y0 = 0) (pc1 := 46) (L1 := [(2, vi y0), (0, vr 12 230), (1, vi x1)]) (st1 := []) (h1 := xhp s) (pc2 := 28) (L2 := [(2, vi y0), (0, vr 12 230), (1, vi x1)]) (st2 := []) (h2 := xhp s) 1 (fun _ _ _ _ => rfl) (fun hc => ?_) (fun hc => ?_)
    · have hc1 : ¬ y0 = 0 := hc
      refine xW.seg (pc1 := 50) (L1 := [(2, vi y0), (0, vr 12 230), (1, vi x1)]) (st1 := [vi (gI s 230 18)]) (h1 := xhp s) 2 (fun _ _ _ _ => rfl) ?_
      refine xW.to (v := vi (if y0 = 0 then (if (gI s 230 18) ≤ (11 - x1) then (gI s 230 18) else (11 - x1)) else (gI s 230 18))) ((congrArg vi (if_neg hc1)).symm) ?_
      exact J
    · have hc1 : y0 = 0 := (Decidable.not_not.mp hc)
      refine xW.br (c := (gI s 230 18) ≤ (11 - x1)) (pc1 := 46) (L1 := [(2, vi y0), (0, vr 12 230), (1, vi x1)]) (st1 := []) (h1 := xhp s) (pc2 := 39) (L2 := [(2, vi y0), (0, vr 12 230), (1, vi x1)]) (st2 := []) (h2 := xhp s) 6 (fun _ _ _ _ => rfl) (fun hc => ?_) (fun hc => ?_)
      · have hc2 : (gI s 230 18) ≤ (11 - x1) := hc
        refine xW.seg (pc1 := 50) (L1 := [(2, vi y0), (0, vr 12 230), (1, vi x1)]) (st1 := [vi (gI s 230 18)]) (h1 := xhp s) 2 (fun _ _ _ _ => rfl) ?_
        refine xW.to (v := vi (if y0 = 0 then (if (gI s 230 18) ≤ (11 - x1) then (gI s 230 18) else (11 - x1)) else (gI s 230 18))) ((congrArg vi ((if_pos hc1).trans (if_pos hc2))).symm) ?_
        exact J
      · have hc2 : ¬ ((gI s 230 18) ≤ (11 - x1)) := hc
        refine xW.seg (pc1 := 50) (L1 := [(2, vi y0), (0, vr 12 230), (1, vi x1)]) (st1 := [vi (11 - x1)]) (h1 := xhp s) 4 (fun _ _ _ _ => rfl) ?_
        refine xW.to (v := vi (if y0 = 0 then (if (gI s 230 18) ≤ (11 - x1) then (gI s 230 18) else (11 - x1)) else (gI s 230 18))) ((congrArg vi ((if_pos hc1).trans (if_neg hc2))).symm) ?_
        exact J
  exact xW.locs (L := [(0, vr 12 230), (1, vi x1), (2, vi y0)]) ⟨rfl, rfl, rfl, trivial⟩ rfl g
noncomputable def tm_showNumber_23_d (s : xS) (x1 : Int32) (y0 : Int32) : xS := (tm_showNumber_50 s x1 y0 (if y0 = 0 then (if (gI s 230 18) ≤ (11 - x1) then (gI s 230 18) else (11 - x1)) else (gI s 230 18)))
noncomputable def tm_showNumber_23 : xS → Int32 → Int32 → xS := Classical.choose (⟨tm_showNumber_23_d, rfl⟩ : ∃ f, f = tm_showNumber_23_d)
set_option maxRecDepth 100000 in
theorem tm_showNumber_23_eq : tm_showNumber_23 = tm_showNumber_23_d := Classical.choose_spec (⟨tm_showNumber_23_d, rfl⟩ : ∃ f, f = tm_showNumber_23_d)
def tm_showNumber_23_ok (s : xS) (x1 : Int32) (y0 : Int32) : Prop := (tm_showNumber_50_ok s x1 y0 (if y0 = 0 then (if (gI s 230 18) ≤ (11 - x1) then (gI s 230 18) else (11 - x1)) else (gI s 230 18)))
set_option maxRecDepth 100000 in
theorem n101_23 {xs : Nat → Int32} {Ls : Nat} {Φ : Option xV → xH → Prop} (s : xS) (x1 : Int32) (y0 : Int32) (gq : tm_showNumber_23_ok s x1 y0) (h : Φ none (xhp (tm_showNumber_23 s x1 y0))) : xW (xX0 xs Ls) p101 23 [(0, vr 12 230), (1, vi x1)] [vi y0] (xhp s) Φ := by
  rw [tm_showNumber_23_eq] at h
  unfold tm_showNumber_23_d at h
  unfold tm_showNumber_23_ok at gq
  exact b101_23 s x1 y0 (n101_50 _ _ _ _ gq h)
set_option maxRecDepth 100000 in
theorem b101_0 {xs : Nat → Int32} {Ls : Nat} {Φ : Option xV → xH → Prop} (s : xS) (g : xW (xX0 xs Ls) p101 23 [(0, vr 12 230), (1, vi (gI s 231 33))] [vi (zb (decide ((gI s 231 10) = 0)))] (xhp s) Φ) : xW (xX0 xs Ls) p101 0 [(0, vr 12 230)] [] (xhp s) Φ := by
  refine xW.side (c := vp_in 33 640) (pc1 := 7) (L1 := [(0, vr 12 230)]) (st1 := [vi (gI s 231 33)]) (h1 := xhp s) 4 (fun _ _ _ _ => rfl) (vp_lit rfl) ?_
  refine xW.side (c := vp_in 10 640) (pc1 := 15) (L1 := [(1, vi (gI s 231 33)), (0, vr 12 230)]) (st1 := [vi (gI s 231 10)]) (h1 := xhp s) 5 (fun _ _ _ _ => rfl) (vp_lit rfl) ?_
  suffices J : xW (xX0 xs Ls) p101 23 [(1, vi (gI s 231 33)), (0, vr 12 230)] [vi (zb (decide ((gI s 231 10) = 0)))] (xhp s) Φ by
    refine xW.br (c := ¬ (gI s 231 10) = 0) (pc1 := 22) (L1 := [(1, vi (gI s 231 33)), (0, vr 12 230)]) (st1 := []) (h1 := xhp s) (pc2 := 18) (L2 := [(1, vi (gI s 231 33)), (0, vr 12 230)]) (st2 := []) (h2 := xhp s) 1 (fun _ _ _ _ => rfl) (fun hc => ?_) (fun hc => ?_)
    · have hc1 : ¬ (gI s 231 10) = 0 := hc
      refine xW.seg (pc1 := 23) (L1 := [(1, vi (gI s 231 33)), (0, vr 12 230)]) (st1 := [vi 0]) (h1 := xhp s) 1 (fun _ _ _ _ => rfl) ?_
      refine xW.to (v := vi (zb (decide ((gI s 231 10) = 0)))) (zb_f (by simp only [decide_eq_false hc1, Bool.true_or, Bool.or_true, Bool.false_or, Bool.or_false, Bool.true_and, Bool.and_true, Bool.false_and, Bool.and_false, Bool.not_true, Bool.not_false, cond_true, cond_false])) ?_
      exact J
    · have hc1 : (gI s 231 10) = 0 := (Decidable.not_not.mp hc)
      refine xW.seg (pc1 := 23) (L1 := [(1, vi (gI s 231 33)), (0, vr 12 230)]) (st1 := [vi 1]) (h1 := xhp s) 2 (fun _ _ _ _ => rfl) ?_
      refine xW.to (v := vi (zb (decide ((gI s 231 10) = 0)))) (zb_t (by simp only [decide_eq_true hc1, Bool.true_or, Bool.or_true, Bool.false_or, Bool.or_false, Bool.true_and, Bool.and_true, Bool.false_and, Bool.and_false, Bool.not_true, Bool.not_false, cond_true, cond_false])) ?_
      exact J
  exact xW.locs (L := [(0, vr 12 230), (1, vi (gI s 231 33))]) ⟨rfl, rfl, trivial⟩ rfl g
noncomputable def tm_showNumber_d (s : xS) : xS := (tm_showNumber_23 s (gI s 231 33) (zb (decide ((gI s 231 10) = 0))))
noncomputable def tm_showNumber : xS → xS := Classical.choose (⟨tm_showNumber_d, rfl⟩ : ∃ f, f = tm_showNumber_d)
set_option maxRecDepth 100000 in
theorem tm_showNumber_eq : tm_showNumber = tm_showNumber_d := Classical.choose_spec (⟨tm_showNumber_d, rfl⟩ : ∃ f, f = tm_showNumber_d)
def tm_showNumber_ok (s : xS) : Prop := (tm_showNumber_23_ok s (gI s 231 33) (zb (decide ((gI s 231 10) = 0))))
set_option maxRecDepth 100000 in
theorem m101 {xs : Nat → Int32} {Ls : Nat} {Ψ : xO → xH → Prop} (s : xS) (gq : tm_showNumber_ok s) (h : Ψ (.inl none) (xhp (tm_showNumber s))) : xM (xX0 xs Ls) 101 [vr 12 230] (xhp s) Ψ := by
  rw [tm_showNumber_eq] at h
  unfold tm_showNumber_d at h
  unfold tm_showNumber_ok at gq
  exact xM.of (P := p101) rfl rfl rfl (b101_0 s (n101_23 _ _ _ gq h))
/-! tm_showEntry -/
theorem b102_93 {xs : Nat → Int32} {Ls : Nat} {Φ : Option xV → xH → Prop} (s : xS) (x1 : Int32) (g : (((gI s 231 75) ≤ x1 → Φ none (xhp s)) ∧ (¬ ((gI s 231 75) ≤ x1) → ((vp_in (76 + x1) 640) ∧ ((tm_show_ok s (gI s 231 ((76 + x1).toNatClampNeg))) ∧ xW (xX0 xs Ls) p102 93 [(0, vr 12 230), (1, vi (x1 + 1))] [] (xhp (tm_show s (gI s 231 ((76 + x1).toNatClampNeg)))) Φ))))) : xW (xX0 xs Ls) p102 93 [(0, vr 12 230), (1, vi x1)] [] (xhp s) Φ := by
  refine xW.side (c := vp_in 75 640) (pc1 := 101) (L1 := [(0, vr 12 230), (1, vi x1)]) (st1 := [vi (gI s 231 75), vi x1]) (h1 := xhp s) 5 (fun _ _ _ _ => rfl) (vp_lit rfl) ?_
  refine xW.br (c := (gI s 231 75) ≤ x1) (pc1 := 123) (L1 := [(0, vr 12 230), (1, vi x1)]) (st1 := []) (h1 := xhp s) (pc2 := 104) (L2 := [(0, vr 12 230), (1, vi x1)]) (st2 := []) (h2 := xhp s) 1 (fun _ _ _ _ => rfl) (fun hc => ?_) (fun hc => ?_)
  · replace g := g.1 hc
    exact xW.ret (v0 := none) (h1 := xhp s) 1 (fun _ _ _ _ => rfl) g
  · replace g := g.2 hc
    refine xW.side (c := vp_in (76 + x1) 640) (pc1 := 114) (L1 := [(0, vr 12 230), (1, vi x1)]) (st1 := [vi (gI s 231 ((76 + x1).toNatClampNeg)), vr 12 230]) (h1 := xhp s) 7 (fun _ _ _ _ => rfl) g.1 ?_
    replace g := g.2
    refine xW.call (y := 96) (as := [vr 12 230, vi (gI s 231 ((76 + x1).toNatClampNeg))]) (h0 := xhp s) (pc0 := 114) (len := 3) (L0 := [(0, vr 12 230), (1, vi x1)]) (rest := []) 1 (fun _ _ _ _ => rfl) (m96 _ _ g.1 ?_)
    show xW (xX0 xs Ls) p102 117 [(0, vr 12 230), (1, vi x1)] [] (xhp (tm_show s (gI s 231 ((76 + x1).toNatClampNeg)))) Φ
    replace g := g.2
    refine xW.seg (pc1 := 93) (L1 := [(1, vi (x1 + 1)), (0, vr 12 230)]) (st1 := []) (h1 := xhp (tm_show s (gI s 231 ((76 + x1).toNatClampNeg)))) 2 (fun _ _ _ _ => rfl) ?_
    exact xW.locs (L := [(0, vr 12 230), (1, vi (x1 + 1))]) ⟨rfl, rfl, trivial⟩ rfl g
noncomputable def tm_showEntry_93 : Nat → xS → Int32 → xS
  | 0, s, _ => s
  | n + 1, s, x1 => (if (gI s 231 75) ≤ x1 then s else (tm_showEntry_93 n (tm_show s (gI s 231 ((76 + x1).toNatClampNeg))) (x1 + 1)))
def tm_showEntry_93_ok : Nat → xS → Int32 → Prop
  | 0, _, _ => False
  | n + 1, s, x1 => (¬ ((gI s 231 75) ≤ x1) → ((vp_in (76 + x1) 640) ∧ ((tm_show_ok s (gI s 231 ((76 + x1).toNatClampNeg))) ∧ (tm_showEntry_93_ok n (tm_show s (gI s 231 ((76 + x1).toNatClampNeg))) (x1 + 1)))))
set_option maxRecDepth 100000 in
theorem n102_93 {xs : Nat → Int32} {Ls : Nat} {Φ : Option xV → xH → Prop} : ∀ (n : Nat) (s : xS) (x1 : Int32), tm_showEntry_93_ok n s x1 → Φ none (xhp (tm_showEntry_93 n s x1)) → xW (xX0 xs Ls) p102 93 [(0, vr 12 230), (1, vi x1)] [] (xhp s) Φ := by
  intro n
  induction n with
  | zero => intro s _ gq; exact gq.elim
  | succ n ih =>
    intro s x1 gq h
    unfold tm_showEntry_93_ok at gq
    unfold tm_showEntry_93 at h
    exact b102_93 s x1 (⟨fun hc => by rw [if_pos hc] at h; exact h, fun hc => by rw [if_neg hc] at h; replace gq := gq hc; exact ⟨gq.1, by replace gq := gq.2; exact ⟨gq.1, by replace gq := gq.2; exact ih _ _ gq h⟩⟩⟩)
set_option maxRecDepth 100000 in
theorem b102_23 {xs : Nat → Int32} {Ls : Nat} {Φ : Option xV → xH → Prop} (s : xS) (x1 : Int32) (g : (((gI s 231 59) ≤ x1 → ((¬ (gI s 231 73) = 1 → Φ none (xhp s)) ∧ ((gI s 231 73) = 1 → ((tm_show_ok s 69) ∧ ((tm_show_ok (tm_show s 69) (if 0 ≤ (gI (tm_show s 69) 231 74) then (43 : Int32) else 45)) ∧ xW (xX0 xs Ls) p102 93 [(0, vr 12 230), (1, vi 0)] [] (xhp (tm_show (tm_show s 69) (if 0 ≤ (gI (tm_show s 69) 231 74) then (43 : Int32) else 45))) Φ))))) ∧ (¬ ((gI s 231 59) ≤ x1) → ((vp_in (60 + x1) 640) ∧ ((tm_show_ok s (gI s 231 ((60 + x1).toNatClampNeg))) ∧ xW (xX0 xs Ls) p102 23 [(0, vr 12 230), (1, vi (x1 + 1))] [] (xhp (tm_show s (gI s 231 ((60 + x1).toNatClampNeg)))) Φ))))) : xW (xX0 xs Ls) p102 23 [(0, vr 12 230), (1, vi x1)] [] (xhp s) Φ := by
  refine xW.side (c := vp_in 59 640) (pc1 := 31) (L1 := [(0, vr 12 230), (1, vi x1)]) (st1 := [vi (gI s 231 59), vi x1]) (h1 := xhp s) 5 (fun _ _ _ _ => rfl) (vp_lit rfl) ?_
  refine xW.br (c := (gI s 231 59) ≤ x1) (pc1 := 53) (L1 := [(0, vr 12 230), (1, vi x1)]) (st1 := []) (h1 := xhp s) (pc2 := 34) (L2 := [(0, vr 12 230), (1, vi x1)]) (st2 := []) (h2 := xhp s) 1 (fun _ _ _ _ => rfl) (fun hc => ?_) (fun hc => ?_)
  · replace g := g.1 hc
    refine xW.side (c := vp_in 73 640) (pc1 := 60) (L1 := [(0, vr 12 230), (1, vi x1)]) (st1 := [vi (gI s 231 73)]) (h1 := xhp s) 4 (fun _ _ _ _ => rfl) (vp_lit rfl) ?_
    refine xW.br (c := ¬ (gI s 231 73) = 1) (pc1 := 123) (L1 := [(0, vr 12 230), (1, vi x1)]) (st1 := []) (h1 := xhp s) (pc2 := 64) (L2 := [(0, vr 12 230), (1, vi x1)]) (st2 := []) (h2 := xhp s) 2 (fun _ _ _ _ => rfl) (fun hc => ?_) (fun hc => ?_)
    · replace g := g.1 hc
      exact xW.ret (v0 := none) (h1 := xhp s) 1 (fun _ _ _ _ => rfl) g
    · replace g := g.2 (Decidable.not_not.mp hc)
      refine xW.call (y := 96) (as := [vr 12 230, vi 69]) (h0 := xhp s) (pc0 := 67) (len := 3) (L0 := [(0, vr 12 230), (1, vi x1)]) (rest := []) 3 (fun _ _ _ _ => rfl) (m96 _ _ g.1 ?_)
      show xW (xX0 xs Ls) p102 70 [(0, vr 12 230), (1, vi x1)] [] (xhp (tm_show s 69)) Φ
      replace g := g.2
      refine xW.side (c := vp_in 74 640) (pc1 := 78) (L1 := [(0, vr 12 230), (1, vi x1)]) (st1 := [vi (gI (tm_show s 69) 231 74), vr 12 230]) (h1 := xhp (tm_show s 69)) 5 (fun _ _ _ _ => rfl) (vp_lit rfl) ?_
      suffices J : xW (xX0 xs Ls) p102 88 [(0, vr 12 230), (1, vi x1)] [vi (if 0 ≤ (gI (tm_show s 69) 231 74) then (43 : Int32) else 45), vr 12 230] (xhp (tm_show s 69)) Φ by
        refine xW.br (c := 0 ≤ (gI (tm_show s 69) 231 74)) (pc1 := 86) (L1 := [(0, vr 12 230), (1, vi x1)]) (st1 := [vr 12 230]) (h1 := xhp (tm_show s 69)) (pc2 := 81) (L2 := [(0, vr 12 230), (1, vi x1)]) (st2 := [vr 12 230]) (h2 := xhp (tm_show s 69)) 1 (fun _ _ _ _ => rfl) (fun hc => ?_) (fun hc => ?_)
        · have hc1 : 0 ≤ (gI (tm_show s 69) 231 74) := hc
          refine xW.seg (pc1 := 88) (L1 := [(0, vr 12 230), (1, vi x1)]) (st1 := [vi 43, vr 12 230]) (h1 := xhp (tm_show s 69)) 1 (fun _ _ _ _ => rfl) ?_
          refine xW.to (v := vi (if 0 ≤ (gI (tm_show s 69) 231 74) then (43 : Int32) else 45)) ((congrArg vi (if_pos hc1)).symm) ?_
          exact J
        · have hc1 : ¬ (0 ≤ (gI (tm_show s 69) 231 74)) := hc
          refine xW.seg (pc1 := 88) (L1 := [(0, vr 12 230), (1, vi x1)]) (st1 := [vi 45, vr 12 230]) (h1 := xhp (tm_show s 69)) 2 (fun _ _ _ _ => rfl) ?_
          refine xW.to (v := vi (if 0 ≤ (gI (tm_show s 69) 231 74) then (43 : Int32) else 45)) ((congrArg vi (if_neg hc1)).symm) ?_
          exact J
      refine xW.call (y := 96) (as := [vr 12 230, vi (if 0 ≤ (gI (tm_show s 69) 231 74) then (43 : Int32) else 45)]) (h0 := xhp (tm_show s 69)) (pc0 := 88) (len := 3) (L0 := [(0, vr 12 230), (1, vi x1)]) (rest := []) 1 (fun _ _ _ _ => rfl) (m96 _ _ g.1 ?_)
      show xW (xX0 xs Ls) p102 91 [(0, vr 12 230), (1, vi x1)] [] (xhp (tm_show (tm_show s 69) (if 0 ≤ (gI (tm_show s 69) 231 74) then (43 : Int32) else 45))) Φ
      replace g := g.2
      refine xW.seg (pc1 := 93) (L1 := [(1, vi 0), (0, vr 12 230)]) (st1 := []) (h1 := xhp (tm_show (tm_show s 69) (if 0 ≤ (gI (tm_show s 69) 231 74) then (43 : Int32) else 45))) 2 (fun _ _ _ _ => rfl) ?_
      exact xW.locs (L := [(0, vr 12 230), (1, vi 0)]) ⟨rfl, rfl, trivial⟩ rfl g
  · replace g := g.2 hc
    refine xW.side (c := vp_in (60 + x1) 640) (pc1 := 44) (L1 := [(0, vr 12 230), (1, vi x1)]) (st1 := [vi (gI s 231 ((60 + x1).toNatClampNeg)), vr 12 230]) (h1 := xhp s) 7 (fun _ _ _ _ => rfl) g.1 ?_
    replace g := g.2
    refine xW.call (y := 96) (as := [vr 12 230, vi (gI s 231 ((60 + x1).toNatClampNeg))]) (h0 := xhp s) (pc0 := 44) (len := 3) (L0 := [(0, vr 12 230), (1, vi x1)]) (rest := []) 1 (fun _ _ _ _ => rfl) (m96 _ _ g.1 ?_)
    show xW (xX0 xs Ls) p102 47 [(0, vr 12 230), (1, vi x1)] [] (xhp (tm_show s (gI s 231 ((60 + x1).toNatClampNeg)))) Φ
    replace g := g.2
    refine xW.seg (pc1 := 23) (L1 := [(1, vi (x1 + 1)), (0, vr 12 230)]) (st1 := []) (h1 := xhp (tm_show s (gI s 231 ((60 + x1).toNatClampNeg)))) 2 (fun _ _ _ _ => rfl) ?_
    exact xW.locs (L := [(0, vr 12 230), (1, vi (x1 + 1))]) ⟨rfl, rfl, trivial⟩ rfl g
noncomputable def tm_showEntry_23 : Nat → xS → Int32 → xS
  | 0, s, _ => s
  | n + 1, s, x1 => (if (gI s 231 59) ≤ x1 then (if ¬ (gI s 231 73) = 1 then s else (tm_showEntry_93 xfu (tm_show (tm_show s 69) (if 0 ≤ (gI (tm_show s 69) 231 74) then (43 : Int32) else 45)) 0)) else (tm_showEntry_23 n (tm_show s (gI s 231 ((60 + x1).toNatClampNeg))) (x1 + 1)))
def tm_showEntry_23_ok : Nat → xS → Int32 → Prop
  | 0, _, _ => False
  | n + 1, s, x1 => (((gI s 231 59) ≤ x1 → ((gI s 231 73) = 1 → ((tm_show_ok s 69) ∧ ((tm_show_ok (tm_show s 69) (if 0 ≤ (gI (tm_show s 69) 231 74) then (43 : Int32) else 45)) ∧ (tm_showEntry_93_ok xfu (tm_show (tm_show s 69) (if 0 ≤ (gI (tm_show s 69) 231 74) then (43 : Int32) else 45)) 0))))) ∧ (¬ ((gI s 231 59) ≤ x1) → ((vp_in (60 + x1) 640) ∧ ((tm_show_ok s (gI s 231 ((60 + x1).toNatClampNeg))) ∧ (tm_showEntry_23_ok n (tm_show s (gI s 231 ((60 + x1).toNatClampNeg))) (x1 + 1))))))
set_option maxRecDepth 100000 in
theorem n102_23 {xs : Nat → Int32} {Ls : Nat} {Φ : Option xV → xH → Prop} : ∀ (n : Nat) (s : xS) (x1 : Int32), tm_showEntry_23_ok n s x1 → Φ none (xhp (tm_showEntry_23 n s x1)) → xW (xX0 xs Ls) p102 23 [(0, vr 12 230), (1, vi x1)] [] (xhp s) Φ := by
  intro n
  induction n with
  | zero => intro s _ gq; exact gq.elim
  | succ n ih =>
    intro s x1 gq h
    unfold tm_showEntry_23_ok at gq
    unfold tm_showEntry_23 at h
    exact b102_23 s x1 (⟨fun hc => by rw [if_pos hc] at h; replace gq := gq.1 hc; exact ⟨fun hc => by rw [if_pos hc] at h; exact h, fun hc => by rw [if_neg (fun z => z hc)] at h; replace gq := gq hc; exact ⟨gq.1, by replace gq := gq.2; exact ⟨gq.1, by replace gq := gq.2; exact n102_93 _ _ _ gq h⟩⟩⟩, fun hc => by rw [if_neg hc] at h; replace gq := gq.2 hc; exact ⟨gq.1, by replace gq := gq.2; exact ⟨gq.1, by replace gq := gq.2; exact ih _ _ gq h⟩⟩⟩)
set_option maxRecDepth 100000 in
theorem b102_0 {xs : Nat → Int32} {Ls : Nat} {Φ : Option xV → xH → Prop} (s : xS) (g : ((tm_show_ok s (if 0 ≤ (gI s 231 58) then (32 : Int32) else 45)) ∧ xW (xX0 xs Ls) p102 23 [(0, vr 12 230), (1, vi 0)] [] (xhp (tm_show s (if 0 ≤ (gI s 231 58) then (32 : Int32) else 45))) Φ)) : xW (xX0 xs Ls) p102 0 [(0, vr 12 230)] [] (xhp s) Φ := by
  refine xW.side (c := vp_in 58 640) (pc1 := 8) (L1 := [(0, vr 12 230)]) (st1 := [vi (gI s 231 58), vr 12 230]) (h1 := xhp s) 5 (fun _ _ _ _ => rfl) (vp_lit rfl) ?_
  suffices J : xW (xX0 xs Ls) p102 18 [(0, vr 12 230)] [vi (if 0 ≤ (gI s 231 58) then (32 : Int32) else 45), vr 12 230] (xhp s) Φ by
    refine xW.br (c := 0 ≤ (gI s 231 58)) (pc1 := 16) (L1 := [(0, vr 12 230)]) (st1 := [vr 12 230]) (h1 := xhp s) (pc2 := 11) (L2 := [(0, vr 12 230)]) (st2 := [vr 12 230]) (h2 := xhp s) 1 (fun _ _ _ _ => rfl) (fun hc => ?_) (fun hc => ?_)
    · have hc1 : 0 ≤ (gI s 231 58) := hc
      refine xW.seg (pc1 := 18) (L1 := [(0, vr 12 230)]) (st1 := [vi 32, vr 12 230]) (h1 := xhp s) 1 (fun _ _ _ _ => rfl) ?_
      refine xW.to (v := vi (if 0 ≤ (gI s 231 58) then (32 : Int32) else 45)) ((congrArg vi (if_pos hc1)).symm) ?_
      exact J
    · have hc1 : ¬ (0 ≤ (gI s 231 58)) := hc
      refine xW.seg (pc1 := 18) (L1 := [(0, vr 12 230)]) (st1 := [vi 45, vr 12 230]) (h1 := xhp s) 2 (fun _ _ _ _ => rfl) ?_
      refine xW.to (v := vi (if 0 ≤ (gI s 231 58) then (32 : Int32) else 45)) ((congrArg vi (if_neg hc1)).symm) ?_
      exact J
  refine xW.call (y := 96) (as := [vr 12 230, vi (if 0 ≤ (gI s 231 58) then (32 : Int32) else 45)]) (h0 := xhp s) (pc0 := 18) (len := 3) (L0 := [(0, vr 12 230)]) (rest := []) 1 (fun _ _ _ _ => rfl) (m96 _ _ g.1 ?_)
  show xW (xX0 xs Ls) p102 21 [(0, vr 12 230)] [] (xhp (tm_show s (if 0 ≤ (gI s 231 58) then (32 : Int32) else 45))) Φ
  replace g := g.2
  refine xW.seg (pc1 := 23) (L1 := [(1, vi 0), (0, vr 12 230)]) (st1 := []) (h1 := xhp (tm_show s (if 0 ≤ (gI s 231 58) then (32 : Int32) else 45))) 2 (fun _ _ _ _ => rfl) ?_
  exact xW.locs (L := [(0, vr 12 230), (1, vi 0)]) ⟨rfl, rfl, trivial⟩ rfl g
noncomputable def tm_showEntry_d (s : xS) : xS := (tm_showEntry_23 xfu (tm_show s (if 0 ≤ (gI s 231 58) then (32 : Int32) else 45)) 0)
noncomputable def tm_showEntry : xS → xS := Classical.choose (⟨tm_showEntry_d, rfl⟩ : ∃ f, f = tm_showEntry_d)
set_option maxRecDepth 100000 in
theorem tm_showEntry_eq : tm_showEntry = tm_showEntry_d := Classical.choose_spec (⟨tm_showEntry_d, rfl⟩ : ∃ f, f = tm_showEntry_d)
def tm_showEntry_ok (s : xS) : Prop := ((tm_show_ok s (if 0 ≤ (gI s 231 58) then (32 : Int32) else 45)) ∧ (tm_showEntry_23_ok xfu (tm_show s (if 0 ≤ (gI s 231 58) then (32 : Int32) else 45)) 0))
set_option maxRecDepth 100000 in
theorem m102 {xs : Nat → Int32} {Ls : Nat} {Ψ : xO → xH → Prop} (s : xS) (gq : tm_showEntry_ok s) (h : Ψ (.inl none) (xhp (tm_showEntry s))) : xM (xX0 xs Ls) 102 [vr 12 230] (xhp s) Ψ := by
  rw [tm_showEntry_eq] at h
  unfold tm_showEntry_d at h
  unfold tm_showEntry_ok at gq
  exact xM.of (P := p102) rfl rfl rfl (b102_0 s (⟨gq.1, by replace gq := gq.2; exact n102_23 _ _ _ gq h⟩))
/-! tm_shown -/
theorem b103_156 {xs : Nat → Int32} {Ls : Nat} {Φ : Option xV → xH → Prop} (s : xS) (x1 : Int32) (x2 : Int64) (x4 : Int32) (g : ((x4 < 0 → Φ (some (vl x2)) (xhp s)) ∧ (¬ (x4 < 0) → ((vp_in ((8 * x1) + x4) 24) ∧ xW (xX0 xs Ls) p103 156 [(0, vr 12 230), (1, vi x1), (2, vl ((x2 <<< ((8 : Int32).toInt64 &&& 63)) ||| ((gI s 238 (((8 * x1) + x4).toNatClampNeg)).toInt64))), (4, vi (x4 + (-1)))] [] (xhp s) Φ)))) : xW (xX0 xs Ls) p103 156 [(0, vr 12 230), (1, vi x1), (2, vl x2), (4, vi x4)] [] (xhp s) Φ := by
  refine xW.br (c := x4 < 0) (pc1 := 186) (L1 := [(0, vr 12 230), (1, vi x1), (2, vl x2), (4, vi x4)]) (st1 := []) (h1 := xhp s) (pc2 := 161) (L2 := [(0, vr 12 230), (1, vi x1), (2, vl x2), (4, vi x4)]) (st2 := []) (h2 := xhp s) 2 (fun _ _ _ _ => rfl) (fun hc => ?_) (fun hc => ?_)
  · replace g := g.1 hc
    exact xW.ret (v0 := some (vl x2)) (h1 := xhp s) 2 (fun _ _ _ _ => rfl) g
  · replace g := g.2 hc
    refine xW.side (c := vp_in ((8 * x1) + x4) 24) (pc1 := 177) (L1 := [(0, vr 12 230), (1, vi x1), (2, vl x2), (4, vi x4)]) (st1 := [vi (gI s 238 (((8 * x1) + x4).toNatClampNeg)), vl (x2 <<< ((8 : Int32).toInt64 &&& 63))]) (h1 := xhp s) 11 (fun _ _ _ _ => rfl) g.1 ?_
    replace g := g.2
    refine xW.seg (pc1 := 156) (L1 := [(4, vi (x4 + (-1))), (2, vl ((x2 <<< ((8 : Int32).toInt64 &&& 63)) ||| ((gI s 238 (((8 * x1) + x4).toNatClampNeg)).toInt64))), (0, vr 12 230), (1, vi x1)]) (st1 := []) (h1 := xhp s) 5 (fun _ _ _ _ => rfl) ?_
    exact xW.locs (L := [(0, vr 12 230), (1, vi x1), (2, vl ((x2 <<< ((8 : Int32).toInt64 &&& 63)) ||| ((gI s 238 (((8 * x1) + x4).toNatClampNeg)).toInt64))), (4, vi (x4 + (-1)))]) ⟨rfl, rfl, rfl, rfl, trivial⟩ rfl g
noncomputable def tm_shown_156 : Nat → xS → Int32 → Int64 → Int32 → Int64 × xS
  | 0, s, _, _, _ => (0, s)
  | n + 1, s, x1, x2, x4 => (if x4 < 0 then (x2, s) else (tm_shown_156 n s x1 ((x2 <<< ((8 : Int32).toInt64 &&& 63)) ||| ((gI s 238 (((8 * x1) + x4).toNatClampNeg)).toInt64)) (x4 + (-1))))
def tm_shown_156_ok : Nat → xS → Int32 → Int64 → Int32 → Prop
  | 0, _, _, _, _ => False
  | n + 1, s, x1, x2, x4 => (¬ (x4 < 0) → ((vp_in ((8 * x1) + x4) 24) ∧ (tm_shown_156_ok n s x1 ((x2 <<< ((8 : Int32).toInt64 &&& 63)) ||| ((gI s 238 (((8 * x1) + x4).toNatClampNeg)).toInt64)) (x4 + (-1)))))
set_option maxRecDepth 100000 in
theorem n103_156 {xs : Nat → Int32} {Ls : Nat} {Φ : Option xV → xH → Prop} : ∀ (n : Nat) (s : xS) (x1 : Int32) (x2 : Int64) (x4 : Int32), tm_shown_156_ok n s x1 x2 x4 → Φ (some (vl (tm_shown_156 n s x1 x2 x4).1)) (xhp (tm_shown_156 n s x1 x2 x4).2) → xW (xX0 xs Ls) p103 156 [(0, vr 12 230), (1, vi x1), (2, vl x2), (4, vi x4)] [] (xhp s) Φ := by
  intro n
  induction n with
  | zero => intro s _ _ _ gq; exact gq.elim
  | succ n ih =>
    intro s x1 x2 x4 gq h
    unfold tm_shown_156_ok at gq
    unfold tm_shown_156 at h
    exact b103_156 s x1 x2 x4 (⟨fun hc => by rw [if_pos hc] at h; exact (by (try dsimp only at h); exact h), fun hc => by rw [if_neg hc] at h; replace gq := gq hc; exact ⟨gq.1, by replace gq := gq.2; exact ih _ _ _ _ gq h⟩⟩)
set_option maxRecDepth 100000 in
theorem b103_29 {xs : Nat → Int32} {Ls : Nat} {Φ : Option xV → xH → Prop} (s : xS) (x1 : Int32) (x2 : Int32) (g : ((24 ≤ x2 → (((gI s 230 5) ≤ 0 → ((¬ (gI s 231 57) = 1 → ((tm_showNumber_ok (sI s 230 20 0)) ∧ xW (xX0 xs Ls) p103 156 [(0, vr 12 230), (1, vi x1), (2, vl 0), (4, vi 7)] [] (xhp (tm_showNumber (sI s 230 20 0))) Φ)) ∧ ((gI s 231 57) = 1 → ((tm_showEntry_ok (sI s 230 20 0)) ∧ xW (xX0 xs Ls) p103 156 [(0, vr 12 230), (1, vi x1), (2, vl 0), (4, vi 7)] [] (xhp (tm_showEntry (sI s 230 20 0))) Φ)))) ∧ (¬ ((gI s 230 5) ≤ 0) → xW (xX0 xs Ls) p103 156 [(0, vr 12 230), (1, vi x1), (2, vl 0), (4, vi 7)] [] (xhp (sI (sI (sI (sI (sI (sI (sI s 230 20 0) 238 0 70) 238 1 65) 238 2 85) 238 3 76) 238 4 84) 238 6 (48 + (gI s 230 5)))) Φ))) ∧ (¬ (24 ≤ x2) → ((vp_in x2 24) ∧ xW (xX0 xs Ls) p103 29 [(0, vr 12 230), (1, vi x1), (2, vi (x2 + 1))] [] (xhp (sI s 238 x2.toNatClampNeg (if 20 ≤ x2 then (0 : Int32) else 32))) Φ)))) : xW (xX0 xs Ls) p103 29 [(0, vr 12 230), (1, vi x1), (2, vi x2)] [] (xhp s) Φ := by
  refine xW.br (c := 24 ≤ x2) (pc1 := 59) (L1 := [(0, vr 12 230), (1, vi x1), (2, vi x2)]) (st1 := []) (h1 := xhp s) (pc2 := 35) (L2 := [(0, vr 12 230), (1, vi x1), (2, vi x2)]) (st2 := []) (h2 := xhp s) 3 (fun _ _ _ _ => rfl) (fun hc => ?_) (fun hc => ?_)
  · replace g := g.1 hc
    refine xW.br (c := (gI s 230 5) ≤ 0) (pc1 := 128) (L1 := [(0, vr 12 230), (1, vi x1), (2, vi x2)]) (st1 := []) (h1 := xhp (sI s 230 20 0)) (pc2 := 71) (L2 := [(0, vr 12 230), (1, vi x1), (2, vi x2)]) (st2 := []) (h2 := xhp (sI s 230 20 0)) 6 (fun _ _ _ _ => rfl) (fun hc => ?_) (fun hc => ?_)
    · replace g := g.1 hc
      refine xW.side (c := vp_in 57 640) (pc1 := 135) (L1 := [(0, vr 12 230), (1, vi x1), (2, vi x2)]) (st1 := [vi (gI s 231 57)]) (h1 := xhp (sI s 230 20 0)) 4 (fun _ _ _ _ => rfl) (vp_lit rfl) ?_
      refine xW.br (c := ¬ (gI s 231 57) = 1) (pc1 := 146) (L1 := [(0, vr 12 230), (1, vi x1), (2, vi x2)]) (st1 := []) (h1 := xhp (sI s 230 20 0)) (pc2 := 139) (L2 := [(0, vr 12 230), (1, vi x1), (2, vi x2)]) (st2 := []) (h2 := xhp (sI s 230 20 0)) 2 (fun _ _ _ _ => rfl) (fun hc => ?_) (fun hc => ?_)
      · replace g := g.1 hc
        refine xW.call (y := 101) (as := [vr 12 230]) (h0 := xhp (sI s 230 20 0)) (pc0 := 147) (len := 3) (L0 := [(0, vr 12 230), (1, vi x1), (2, vi x2)]) (rest := []) 2 (fun _ _ _ _ => rfl) (m101 _ g.1 ?_)
        show xW (xX0 xs Ls) p103 150 [(0, vr 12 230), (1, vi x1), (2, vi x2)] [] (xhp (tm_showNumber (sI s 230 20 0))) Φ
        replace g := g.2
        refine xW.seg (pc1 := 156) (L1 := [(4, vi 7), (2, vl 0), (0, vr 12 230), (1, vi x1)]) (st1 := []) (h1 := xhp (tm_showNumber (sI s 230 20 0))) 4 (fun _ _ _ _ => rfl) ?_
        exact xW.locs (L := [(0, vr 12 230), (1, vi x1), (2, vl 0), (4, vi 7)]) ⟨rfl, rfl, rfl, rfl, trivial⟩ rfl g
      · replace g := g.2 (Decidable.not_not.mp hc)
        refine xW.call (y := 102) (as := [vr 12 230]) (h0 := xhp (sI s 230 20 0)) (pc0 := 140) (len := 3) (L0 := [(0, vr 12 230), (1, vi x1), (2, vi x2)]) (rest := []) 2 (fun _ _ _ _ => rfl) (m102 _ g.1 ?_)
        show xW (xX0 xs Ls) p103 143 [(0, vr 12 230), (1, vi x1), (2, vi x2)] [] (xhp (tm_showEntry (sI s 230 20 0))) Φ
        replace g := g.2
        refine xW.seg (pc1 := 156) (L1 := [(4, vi 7), (2, vl 0), (0, vr 12 230), (1, vi x1)]) (st1 := []) (h1 := xhp (tm_showEntry (sI s 230 20 0))) 5 (fun _ _ _ _ => rfl) ?_
        exact xW.locs (L := [(0, vr 12 230), (1, vi x1), (2, vl 0), (4, vi 7)]) ⟨rfl, rfl, rfl, rfl, trivial⟩ rfl g
    · replace g := g.2 hc
      refine xW.side (c := vp_in 0 24) (pc1 := 79) (L1 := [(0, vr 12 230), (1, vi x1), (2, vi x2)]) (st1 := []) (h1 := xhp (sI (sI s 230 20 0) 238 0 70)) 5 (fun _ _ _ _ => rfl) (vp_lit rfl) ?_
      refine xW.side (c := vp_in 1 24) (pc1 := 87) (L1 := [(0, vr 12 230), (1, vi x1), (2, vi x2)]) (st1 := []) (h1 := xhp (sI (sI (sI s 230 20 0) 238 0 70) 238 1 65)) 5 (fun _ _ _ _ => rfl) (vp_lit rfl) ?_
      refine xW.side (c := vp_in 2 24) (pc1 := 95) (L1 := [(0, vr 12 230), (1, vi x1), (2, vi x2)]) (st1 := []) (h1 := xhp (sI (sI (sI (sI s 230 20 0) 238 0 70) 238 1 65) 238 2 85)) 5 (fun _ _ _ _ => rfl) (vp_lit rfl) ?_
      refine xW.side (c := vp_in 3 24) (pc1 := 103) (L1 := [(0, vr 12 230), (1, vi x1), (2, vi x2)]) (st1 := []) (h1 := xhp (sI (sI (sI (sI (sI s 230 20 0) 238 0 70) 238 1 65) 238 2 85) 238 3 76)) 5 (fun _ _ _ _ => rfl) (vp_lit rfl) ?_
      refine xW.side (c := vp_in 4 24) (pc1 := 111) (L1 := [(0, vr 12 230), (1, vi x1), (2, vi x2)]) (st1 := []) (h1 := xhp (sI (sI (sI (sI (sI (sI s 230 20 0) 238 0 70) 238 1 65) 238 2 85) 238 3 76) 238 4 84)) 5 (fun _ _ _ _ => rfl) (vp_lit rfl) ?_
      refine xW.side (c := vp_in 6 24) (pc1 := 125) (L1 := [(0, vr 12 230), (1, vi x1), (2, vi x2)]) (st1 := []) (h1 := xhp (sI (sI (sI (sI (sI (sI (sI s 230 20 0) 238 0 70) 238 1 65) 238 2 85) 238 3 76) 238 4 84) 238 6 (48 + (gI s 230 5)))) 8 (fun _ _ _ _ => rfl) (vp_lit rfl) ?_
      refine xW.seg (pc1 := 156) (L1 := [(4, vi 7), (2, vl 0), (0, vr 12 230), (1, vi x1)]) (st1 := []) (h1 := xhp (sI (sI (sI (sI (sI (sI (sI s 230 20 0) 238 0 70) 238 1 65) 238 2 85) 238 3 76) 238 4 84) 238 6 (48 + (gI s 230 5)))) 5 (fun _ _ _ _ => rfl) ?_
      exact xW.locs (L := [(0, vr 12 230), (1, vi x1), (2, vl 0), (4, vi 7)]) ⟨rfl, rfl, rfl, rfl, trivial⟩ rfl g
  · replace g := g.2 hc
    refine xW.seg (pc1 := 43) (L1 := [(0, vr 12 230), (1, vi x1), (2, vi x2)]) (st1 := [vi 20, vi x2, vi x2, vr 40 238]) (h1 := xhp s) 5 (fun _ _ _ _ => rfl) ?_
    suffices J : xW (xX0 xs Ls) p103 52 [(0, vr 12 230), (1, vi x1), (2, vi x2)] [vi (if 20 ≤ x2 then (0 : Int32) else 32), vi x2, vr 40 238] (xhp s) Φ by
      refine xW.br (c := 20 ≤ x2) (pc1 := 51) (L1 := [(0, vr 12 230), (1, vi x1), (2, vi x2)]) (st1 := [vi x2, vr 40 238]) (h1 := xhp s) (pc2 := 46) (L2 := [(0, vr 12 230), (1, vi x1), (2, vi x2)]) (st2 := [vi x2, vr 40 238]) (h2 := xhp s) 1 (fun _ _ _ _ => rfl) (fun hc => ?_) (fun hc => ?_)
      · have hc1 : 20 ≤ x2 := hc
        refine xW.seg (pc1 := 52) (L1 := [(0, vr 12 230), (1, vi x1), (2, vi x2)]) (st1 := [vi 0, vi x2, vr 40 238]) (h1 := xhp s) 1 (fun _ _ _ _ => rfl) ?_
        refine xW.to (v := vi (if 20 ≤ x2 then (0 : Int32) else 32)) ((congrArg vi (if_pos hc1)).symm) ?_
        exact J
      · have hc1 : ¬ (20 ≤ x2) := hc
        refine xW.seg (pc1 := 52) (L1 := [(0, vr 12 230), (1, vi x1), (2, vi x2)]) (st1 := [vi 32, vi x2, vr 40 238]) (h1 := xhp s) 2 (fun _ _ _ _ => rfl) ?_
        refine xW.to (v := vi (if 20 ≤ x2 then (0 : Int32) else 32)) ((congrArg vi (if_neg hc1)).symm) ?_
        exact J
    refine xW.side (c := vp_in x2 24) (pc1 := 53) (L1 := [(0, vr 12 230), (1, vi x1), (2, vi x2)]) (st1 := []) (h1 := xhp (sI s 238 x2.toNatClampNeg (if 20 ≤ x2 then (0 : Int32) else 32))) 1 (fun _ _ _ _ => rfl) g.1 ?_
    replace g := g.2
    refine xW.seg (pc1 := 29) (L1 := [(2, vi (x2 + 1)), (0, vr 12 230), (1, vi x1)]) (st1 := []) (h1 := xhp (sI s 238 x2.toNatClampNeg (if 20 ≤ x2 then (0 : Int32) else 32))) 2 (fun _ _ _ _ => rfl) ?_
    exact xW.locs (L := [(0, vr 12 230), (1, vi x1), (2, vi (x2 + 1))]) ⟨rfl, rfl, rfl, trivial⟩ rfl g
noncomputable def tm_shown_29 : Nat → xS → Int32 → Int32 → Int64 × xS
  | 0, s, _, _ => (0, s)
  | n + 1, s, x1, x2 => (if 24 ≤ x2 then (if (gI s 230 5) ≤ 0 then (if ¬ (gI s 231 57) = 1 then (tm_shown_156 xfu (tm_showNumber (sI s 230 20 0)) x1 0 7) else (tm_shown_156 xfu (tm_showEntry (sI s 230 20 0)) x1 0 7)) else (tm_shown_156 xfu (sI (sI (sI (sI (sI (sI (sI s 230 20 0) 238 0 70) 238 1 65) 238 2 85) 238 3 76) 238 4 84) 238 6 (48 + (gI s 230 5))) x1 0 7)) else (tm_shown_29 n (sI s 238 x2.toNatClampNeg (if 20 ≤ x2 then (0 : Int32) else 32)) x1 (x2 + 1)))
def tm_shown_29_ok : Nat → xS → Int32 → Int32 → Prop
  | 0, _, _, _ => False
  | n + 1, s, x1, x2 => ((24 ≤ x2 → (((gI s 230 5) ≤ 0 → ((¬ (gI s 231 57) = 1 → ((tm_showNumber_ok (sI s 230 20 0)) ∧ (tm_shown_156_ok xfu (tm_showNumber (sI s 230 20 0)) x1 0 7))) ∧ ((gI s 231 57) = 1 → ((tm_showEntry_ok (sI s 230 20 0)) ∧ (tm_shown_156_ok xfu (tm_showEntry (sI s 230 20 0)) x1 0 7))))) ∧ (¬ ((gI s 230 5) ≤ 0) → (tm_shown_156_ok xfu (sI (sI (sI (sI (sI (sI (sI s 230 20 0) 238 0 70) 238 1 65) 238 2 85) 238 3 76) 238 4 84) 238 6 (48 + (gI s 230 5))) x1 0 7)))) ∧ (¬ (24 ≤ x2) → ((vp_in x2 24) ∧ (tm_shown_29_ok n (sI s 238 x2.toNatClampNeg (if 20 ≤ x2 then (0 : Int32) else 32)) x1 (x2 + 1)))))
set_option maxRecDepth 100000 in
theorem n103_29 {xs : Nat → Int32} {Ls : Nat} {Φ : Option xV → xH → Prop} : ∀ (n : Nat) (s : xS) (x1 : Int32) (x2 : Int32), tm_shown_29_ok n s x1 x2 → Φ (some (vl (tm_shown_29 n s x1 x2).1)) (xhp (tm_shown_29 n s x1 x2).2) → xW (xX0 xs Ls) p103 29 [(0, vr 12 230), (1, vi x1), (2, vi x2)] [] (xhp s) Φ := by
  intro n
  induction n with
  | zero => intro s _ _ gq; exact gq.elim
  | succ n ih =>
    intro s x1 x2 gq h
    unfold tm_shown_29_ok at gq
    unfold tm_shown_29 at h
    exact b103_29 s x1 x2 (⟨fun hc => by rw [if_pos hc] at h; replace gq := gq.1 hc; exact ⟨fun hc => by rw [if_pos hc] at h; replace gq := gq.1 hc; exact ⟨fun hc => by rw [if_pos hc] at h; replace gq := gq.1 hc; exact ⟨gq.1, by replace gq := gq.2; exact n103_156 _ _ _ _ _ gq h⟩, fun hc => by rw [if_neg (fun z => z hc)] at h; replace gq := gq.2 hc; exact ⟨gq.1, by replace gq := gq.2; exact n103_156 _ _ _ _ _ gq h⟩⟩, fun hc => by rw [if_neg hc] at h; replace gq := gq.2 hc; exact n103_156 _ _ _ _ _ gq h⟩, fun hc => by rw [if_neg hc] at h; replace gq := gq.2 hc; exact ⟨gq.1, by replace gq := gq.2; exact ih _ _ _ gq h⟩⟩)
set_option maxRecDepth 100000 in
theorem b103_0 {xs : Nat → Int32} {Ls : Nat} {Φ : Option xV → xH → Prop} (s : xS) (p : Int32) (g : (((zb ((decide (p < 0)) || (!decide (p ≤ 2)))) ≤ 0 → xW (xX0 xs Ls) p103 29 [(0, vr 12 230), (1, vi p), (2, vi 0)] [] (xhp (sI s 230 0 (zb ((decide (p < 0)) || (!decide (p ≤ 2)))))) Φ) ∧ (¬ ((zb ((decide (p < 0)) || (!decide (p ≤ 2)))) ≤ 0) → Φ (some (vl 0)) (xhp (sI s 230 0 (zb ((decide (p < 0)) || (!decide (p ≤ 2))))))))) : xW (xX0 xs Ls) p103 0 [(0, vr 12 230), (1, vi p)] [] (xhp s) Φ := by
  refine xW.seg (pc1 := 2) (L1 := [(0, vr 12 230), (1, vi p)]) (st1 := [vi p, vr 12 230]) (h1 := xhp s) 2 (fun _ _ _ _ => rfl) ?_
  suffices J : xW (xX0 xs Ls) p103 15 [(0, vr 12 230), (1, vi p)] [vi (zb ((decide (p < 0)) || (!decide (p ≤ 2)))), vr 12 230] (xhp s) Φ by
    refine xW.br (c := p < 0) (pc1 := 10) (L1 := [(0, vr 12 230), (1, vi p)]) (st1 := [vr 12 230]) (h1 := xhp s) (pc2 := 5) (L2 := [(0, vr 12 230), (1, vi p)]) (st2 := [vr 12 230]) (h2 := xhp s) 1 (fun _ _ _ _ => rfl) (fun hc => ?_) (fun hc => ?_)
    · have hc1 : p < 0 := hc
      refine xW.seg (pc1 := 15) (L1 := [(0, vr 12 230), (1, vi p)]) (st1 := [vi 1, vr 12 230]) (h1 := xhp s) 2 (fun _ _ _ _ => rfl) ?_
      refine xW.to (v := vi (zb ((decide (p < 0)) || (!decide (p ≤ 2))))) (zb_t (by simp only [decide_eq_true hc1, Bool.true_or, Bool.or_true, Bool.false_or, Bool.or_false, Bool.true_and, Bool.and_true, Bool.false_and, Bool.and_false, Bool.not_true, Bool.not_false, cond_true, cond_false])) ?_
      exact J
    · have hc1 : ¬ (p < 0) := hc
      refine xW.br (c := p ≤ 2) (pc1 := 14) (L1 := [(0, vr 12 230), (1, vi p)]) (st1 := [vr 12 230]) (h1 := xhp s) (pc2 := 10) (L2 := [(0, vr 12 230), (1, vi p)]) (st2 := [vr 12 230]) (h2 := xhp s) 3 (fun _ _ _ _ => rfl) (fun hc => ?_) (fun hc => ?_)
      · have hc2 : p ≤ 2 := hc
        refine xW.seg (pc1 := 15) (L1 := [(0, vr 12 230), (1, vi p)]) (st1 := [vi 0, vr 12 230]) (h1 := xhp s) 1 (fun _ _ _ _ => rfl) ?_
        refine xW.to (v := vi (zb ((decide (p < 0)) || (!decide (p ≤ 2))))) (zb_f (by simp only [decide_eq_false hc1, decide_eq_true hc2, Bool.true_or, Bool.or_true, Bool.false_or, Bool.or_false, Bool.true_and, Bool.and_true, Bool.false_and, Bool.and_false, Bool.not_true, Bool.not_false, cond_true, cond_false])) ?_
        exact J
      · have hc2 : ¬ (p ≤ 2) := hc
        refine xW.seg (pc1 := 15) (L1 := [(0, vr 12 230), (1, vi p)]) (st1 := [vi 1, vr 12 230]) (h1 := xhp s) 2 (fun _ _ _ _ => rfl) ?_
        refine xW.to (v := vi (zb ((decide (p < 0)) || (!decide (p ≤ 2))))) (zb_t (by simp only [decide_eq_false hc1, decide_eq_false hc2, Bool.true_or, Bool.or_true, Bool.false_or, Bool.or_false, Bool.true_and, Bool.and_true, Bool.false_and, Bool.and_false, Bool.not_true, Bool.not_false, cond_true, cond_false])) ?_
        exact J
  refine xW.br (c := (zb ((decide (p < 0)) || (!decide (p ≤ 2)))) ≤ 0) (pc1 := 27) (L1 := [(0, vr 12 230), (1, vi p)]) (st1 := []) (h1 := xhp (sI s 230 0 (zb ((decide (p < 0)) || (!decide (p ≤ 2)))))) (pc2 := 25) (L2 := [(0, vr 12 230), (1, vi p)]) (st2 := []) (h2 := xhp (sI s 230 0 (zb ((decide (p < 0)) || (!decide (p ≤ 2)))))) 4 (fun _ _ _ _ => rfl) (fun hc => ?_) (fun hc => ?_)
  · replace g := g.1 hc
    refine xW.seg (pc1 := 29) (L1 := [(2, vi 0), (0, vr 12 230), (1, vi p)]) (st1 := []) (h1 := xhp (sI s 230 0 (zb ((decide (p < 0)) || (!decide (p ≤ 2)))))) 2 (fun _ _ _ _ => rfl) ?_
    exact xW.locs (L := [(0, vr 12 230), (1, vi p), (2, vi 0)]) ⟨rfl, rfl, rfl, trivial⟩ rfl g
  · replace g := g.2 hc
    exact xW.ret (v0 := some (vl 0)) (h1 := xhp (sI s 230 0 (zb ((decide (p < 0)) || (!decide (p ≤ 2)))))) 2 (fun _ _ _ _ => rfl) g
noncomputable def tm_shown_d (s : xS) (p : Int32) : Int64 × xS := (if (zb ((decide (p < 0)) || (!decide (p ≤ 2)))) ≤ 0 then (tm_shown_29 xfu (sI s 230 0 (zb ((decide (p < 0)) || (!decide (p ≤ 2))))) p 0) else (0, (sI s 230 0 (zb ((decide (p < 0)) || (!decide (p ≤ 2)))))))
noncomputable def tm_shown : xS → Int32 → Int64 × xS := Classical.choose (⟨tm_shown_d, rfl⟩ : ∃ f, f = tm_shown_d)
set_option maxRecDepth 100000 in
theorem tm_shown_eq : tm_shown = tm_shown_d := Classical.choose_spec (⟨tm_shown_d, rfl⟩ : ∃ f, f = tm_shown_d)
def tm_shown_ok (s : xS) (p : Int32) : Prop := ((zb ((decide (p < 0)) || (!decide (p ≤ 2)))) ≤ 0 → (tm_shown_29_ok xfu (sI s 230 0 (zb ((decide (p < 0)) || (!decide (p ≤ 2))))) p 0))
set_option maxRecDepth 100000 in
theorem m103 {xs : Nat → Int32} {Ls : Nat} {Ψ : xO → xH → Prop} (s : xS) (p : Int32) (gq : tm_shown_ok s p) (h : Ψ (.inl (some (vl (tm_shown s p).1))) (xhp (tm_shown s p).2)) : xM (xX0 xs Ls) 103 [vr 12 230, vi p] (xhp s) Ψ := by
  rw [tm_shown_eq] at h
  unfold tm_shown_d at h
  unfold tm_shown_ok at gq
  exact xM.of (P := p103) rfl rfl rfl (b103_0 s p (⟨fun hc => by rw [if_pos hc] at h; replace gq := gq hc; exact n103_29 _ _ _ _ gq h, fun hc => by rw [if_neg hc] at h; exact (by (try dsimp only at h); exact h)⟩))
/-! tm_type -/
theorem b104_60 {xs : Nat → Int32} {Ls : Nat} {Φ : Option xV → xH → Prop} (s : xS) (x1 : Int64) (x4 : Int32) (g : ((64 ≤ x4 → Φ (some (vi (gI s 230 22))) (xhp s)) ∧ (¬ (64 ≤ x4) → (((((x1 >>> (x4.toInt64 &&& 63)) &&& 255).toInt32) ≤ 0 → xW (xX0 xs Ls) p104 60 [(0, vr 12 230), (1, vl x1), (4, vi (x4 + 8))] [] (xhp s) Φ) ∧ (¬ ((((x1 >>> (x4.toInt64 &&& 63)) &&& 255).toInt32) ≤ 0) → ((vp_in (gI s 230 22) 40) ∧ xW (xX0 xs Ls) p104 60 [(0, vr 12 230), (1, vl x1), (4, vi (x4 + 8))] [] (xhp (sI (sI s 239 ((gI s 230 22).toNatClampNeg) (((x1 >>> (x4.toInt64 &&& 63)) &&& 255).toInt32)) 230 22 ((gI s 230 22) + 1))) Φ)))))) : xW (xX0 xs Ls) p104 60 [(0, vr 12 230), (1, vl x1), (4, vi x4)] [] (xhp s) Φ := by
  refine xW.br (c := 64 ≤ x4) (pc1 := 110) (L1 := [(0, vr 12 230), (1, vl x1), (4, vi x4)]) (st1 := []) (h1 := xhp s) (pc2 := 67) (L2 := [(0, vr 12 230), (1, vl x1), (4, vi x4)]) (st2 := []) (h2 := xhp s) 3 (fun _ _ _ _ => rfl) (fun hc => ?_) (fun hc => ?_)
  · replace g := g.1 hc
    exact xW.ret (v0 := some (vi (gI s 230 22))) (h1 := xhp s) 3 (fun _ _ _ _ => rfl) g
  · replace g := g.2 hc
    refine xW.br (c := (((x1 >>> (x4.toInt64 &&& 63)) &&& 255).toInt32) ≤ 0) (pc1 := 104) (L1 := [(5, vi (((x1 >>> (x4.toInt64 &&& 63)) &&& 255).toInt32)), (0, vr 12 230), (1, vl x1), (4, vi x4)]) (st1 := []) (h1 := xhp s) (pc2 := 83) (L2 := [(5, vi (((x1 >>> (x4.toInt64 &&& 63)) &&& 255).toInt32)), (0, vr 12 230), (1, vl x1), (4, vi x4)]) (st2 := []) (h2 := xhp s) 9 (fun _ _ _ _ => rfl) (fun hc => ?_) (fun hc => ?_)
    · replace g := g.1 hc
      refine xW.seg (pc1 := 60) (L1 := [(4, vi (x4 + 8)), (5, vi (((x1 >>> (x4.toInt64 &&& 63)) &&& 255).toInt32)), (0, vr 12 230), (1, vl x1)]) (st1 := []) (h1 := xhp s) 2 (fun _ _ _ _ => rfl) ?_
      exact xW.locs (L := [(0, vr 12 230), (1, vl x1), (4, vi (x4 + 8))]) ⟨rfl, rfl, rfl, trivial⟩ rfl g
    · replace g := g.2 hc
      refine xW.side (c := vp_in (gI s 230 22) 40) (pc1 := 94) (L1 := [(5, vi (((x1 >>> (x4.toInt64 &&& 63)) &&& 255).toInt32)), (0, vr 12 230), (1, vl x1), (4, vi x4)]) (st1 := []) (h1 := xhp (sI s 239 ((gI s 230 22).toNatClampNeg) (((x1 >>> (x4.toInt64 &&& 63)) &&& 255).toInt32))) 6 (fun _ _ _ _ => rfl) g.1 ?_
      replace g := g.2
      refine xW.seg (pc1 := 60) (L1 := [(4, vi (x4 + 8)), (5, vi (((x1 >>> (x4.toInt64 &&& 63)) &&& 255).toInt32)), (0, vr 12 230), (1, vl x1)]) (st1 := []) (h1 := xhp (sI (sI s 239 ((gI s 230 22).toNatClampNeg) (((x1 >>> (x4.toInt64 &&& 63)) &&& 255).toInt32)) 230 22 ((gI s 230 22) + 1))) 8 (fun _ _ _ _ => rfl) ?_
      exact xW.locs (L := [(0, vr 12 230), (1, vl x1), (4, vi (x4 + 8))]) ⟨rfl, rfl, rfl, trivial⟩ rfl g
noncomputable def tm_type_60 : Nat → xS → Int64 → Int32 → Int32 × xS
  | 0, s, _, _ => (0, s)
  | n + 1, s, x1, x4 => (if 64 ≤ x4 then ((gI s 230 22), s) else (if (((x1 >>> (x4.toInt64 &&& 63)) &&& 255).toInt32) ≤ 0 then (tm_type_60 n s x1 (x4 + 8)) else (tm_type_60 n (sI (sI s 239 ((gI s 230 22).toNatClampNeg) (((x1 >>> (x4.toInt64 &&& 63)) &&& 255).toInt32)) 230 22 ((gI s 230 22) + 1)) x1 (x4 + 8))))
def tm_type_60_ok : Nat → xS → Int64 → Int32 → Prop
  | 0, _, _, _ => False
  | n + 1, s, x1, x4 => (¬ (64 ≤ x4) → (((((x1 >>> (x4.toInt64 &&& 63)) &&& 255).toInt32) ≤ 0 → (tm_type_60_ok n s x1 (x4 + 8))) ∧ (¬ ((((x1 >>> (x4.toInt64 &&& 63)) &&& 255).toInt32) ≤ 0) → ((vp_in (gI s 230 22) 40) ∧ (tm_type_60_ok n (sI (sI s 239 ((gI s 230 22).toNatClampNeg) (((x1 >>> (x4.toInt64 &&& 63)) &&& 255).toInt32)) 230 22 ((gI s 230 22) + 1)) x1 (x4 + 8))))))
set_option maxRecDepth 100000 in
theorem n104_60 {xs : Nat → Int32} {Ls : Nat} {Φ : Option xV → xH → Prop} : ∀ (n : Nat) (s : xS) (x1 : Int64) (x4 : Int32), tm_type_60_ok n s x1 x4 → Φ (some (vi (tm_type_60 n s x1 x4).1)) (xhp (tm_type_60 n s x1 x4).2) → xW (xX0 xs Ls) p104 60 [(0, vr 12 230), (1, vl x1), (4, vi x4)] [] (xhp s) Φ := by
  intro n
  induction n with
  | zero => intro s _ _ gq; exact gq.elim
  | succ n ih =>
    intro s x1 x4 gq h
    unfold tm_type_60_ok at gq
    unfold tm_type_60 at h
    exact b104_60 s x1 x4 (⟨fun hc => by rw [if_pos hc] at h; exact (by (try dsimp only at h); exact h), fun hc => by rw [if_neg hc] at h; replace gq := gq hc; exact ⟨fun hc => by rw [if_pos hc] at h; replace gq := gq.1 hc; exact ih _ _ _ gq h, fun hc => by rw [if_neg hc] at h; replace gq := gq.2 hc; exact ⟨gq.1, by replace gq := gq.2; exact ih _ _ _ gq h⟩⟩⟩)
set_option maxRecDepth 100000 in
theorem b104_10 {xs : Nat → Int32} {Ls : Nat} {Φ : Option xV → xH → Prop} (s : xS) (x1 : Int64) (x3 : Int32) (x4 : Int32) (g : ((64 ≤ x4 → ((((gI s 230 22) + x3) ≤ 40 → xW (xX0 xs Ls) p104 60 [(0, vr 12 230), (1, vl x1), (4, vi 0)] [] (xhp s) Φ) ∧ (¬ (((gI s 230 22) + x3) ≤ 40) → Φ (some (vi (-1))) (xhp s)))) ∧ (¬ (64 ≤ x4) → xW (xX0 xs Ls) p104 10 [(0, vr 12 230), (1, vl x1), (3, vi (if ((x1 >>> (x4.toInt64 &&& 63)) &&& 255) ≤ 0 then x3 else (x3 + 1))), (4, vi (x4 + 8))] [] (xhp s) Φ))) : xW (xX0 xs Ls) p104 10 [(0, vr 12 230), (1, vl x1), (3, vi x3), (4, vi x4)] [] (xhp s) Φ := by
  refine xW.br (c := 64 ≤ x4) (pc1 := 44) (L1 := [(0, vr 12 230), (1, vl x1), (3, vi x3), (4, vi x4)]) (st1 := []) (h1 := xhp s) (pc2 := 17) (L2 := [(0, vr 12 230), (1, vl x1), (3, vi x3), (4, vi x4)]) (st2 := []) (h2 := xhp s) 3 (fun _ _ _ _ => rfl) (fun hc => ?_) (fun hc => ?_)
  · replace g := g.1 hc
    refine xW.br (c := ((gI s 230 22) + x3) ≤ 40) (pc1 := 57) (L1 := [(0, vr 12 230), (1, vl x1), (3, vi x3), (4, vi x4)]) (st1 := []) (h1 := xhp s) (pc2 := 55) (L2 := [(0, vr 12 230), (1, vl x1), (3, vi x3), (4, vi x4)]) (st2 := []) (h2 := xhp s) 6 (fun _ _ _ _ => rfl) (fun hc => ?_) (fun hc => ?_)
    · replace g := g.1 hc
      refine xW.seg (pc1 := 60) (L1 := [(4, vi 0), (0, vr 12 230), (1, vl x1), (3, vi x3)]) (st1 := []) (h1 := xhp s) 2 (fun _ _ _ _ => rfl) ?_
      exact xW.locs (L := [(0, vr 12 230), (1, vl x1), (4, vi 0)]) ⟨rfl, rfl, rfl, trivial⟩ rfl g
    · replace g := g.2 hc
      exact xW.ret (v0 := some (vi (-1))) (h1 := xhp s) 2 (fun _ _ _ _ => rfl) g
  · replace g := g.2 hc
    refine xW.seg (pc1 := 27) (L1 := [(0, vr 12 230), (1, vl x1), (3, vi x3), (4, vi x4)]) (st1 := [vi (lg_cmp ((x1 >>> (x4.toInt64 &&& 63)) &&& 255) 0)]) (h1 := xhp s) 7 (fun _ _ _ _ => rfl) ?_
    suffices J : xW (xX0 xs Ls) p104 37 [(0, vr 12 230), (1, vl x1), (3, vi x3), (4, vi x4)] [vi (if ((x1 >>> (x4.toInt64 &&& 63)) &&& 255) ≤ 0 then x3 else (x3 + 1))] (xhp s) Φ by
      refine xW.br (c := (lg_cmp ((x1 >>> (x4.toInt64 &&& 63)) &&& 255) 0) ≤ 0) (pc1 := 36) (L1 := [(0, vr 12 230), (1, vl x1), (3, vi x3), (4, vi x4)]) (st1 := []) (h1 := xhp s) (pc2 := 30) (L2 := [(0, vr 12 230), (1, vl x1), (3, vi x3), (4, vi x4)]) (st2 := []) (h2 := xhp s) 1 (fun _ _ _ _ => rfl) (fun hc => ?_) (fun hc => ?_)
      · have hc1 : ((x1 >>> (x4.toInt64 &&& 63)) &&& 255) ≤ 0 := (lc_le.mp hc)
        refine xW.seg (pc1 := 37) (L1 := [(0, vr 12 230), (1, vl x1), (3, vi x3), (4, vi x4)]) (st1 := [vi x3]) (h1 := xhp s) 1 (fun _ _ _ _ => rfl) ?_
        refine xW.to (v := vi (if ((x1 >>> (x4.toInt64 &&& 63)) &&& 255) ≤ 0 then x3 else (x3 + 1))) ((congrArg vi (if_pos hc1)).symm) ?_
        exact J
      · have hc1 : ¬ (((x1 >>> (x4.toInt64 &&& 63)) &&& 255) ≤ 0) := (fun q => hc (lc_le.mpr q))
        refine xW.seg (pc1 := 37) (L1 := [(0, vr 12 230), (1, vl x1), (3, vi x3), (4, vi x4)]) (st1 := [vi (x3 + 1)]) (h1 := xhp s) 4 (fun _ _ _ _ => rfl) ?_
        refine xW.to (v := vi (if ((x1 >>> (x4.toInt64 &&& 63)) &&& 255) ≤ 0 then x3 else (x3 + 1))) ((congrArg vi (if_neg hc1)).symm) ?_
        exact J
    refine xW.seg (pc1 := 10) (L1 := [(4, vi (x4 + 8)), (3, vi (if ((x1 >>> (x4.toInt64 &&& 63)) &&& 255) ≤ 0 then x3 else (x3 + 1))), (0, vr 12 230), (1, vl x1)]) (st1 := []) (h1 := xhp s) 3 (fun _ _ _ _ => rfl) ?_
    exact xW.locs (L := [(0, vr 12 230), (1, vl x1), (3, vi (if ((x1 >>> (x4.toInt64 &&& 63)) &&& 255) ≤ 0 then x3 else (x3 + 1))), (4, vi (x4 + 8))]) ⟨rfl, rfl, rfl, rfl, trivial⟩ rfl g
noncomputable def tm_type_10 : Nat → xS → Int64 → Int32 → Int32 → Int32 × xS
  | 0, s, _, _, _ => (0, s)
  | n + 1, s, x1, x3, x4 => (if 64 ≤ x4 then (if ((gI s 230 22) + x3) ≤ 40 then (tm_type_60 xfu s x1 0) else ((-1), s)) else (tm_type_10 n s x1 (if ((x1 >>> (x4.toInt64 &&& 63)) &&& 255) ≤ 0 then x3 else (x3 + 1)) (x4 + 8)))
def tm_type_10_ok : Nat → xS → Int64 → Int32 → Int32 → Prop
  | 0, _, _, _, _ => False
  | n + 1, s, x1, x3, x4 => ((64 ≤ x4 → (((gI s 230 22) + x3) ≤ 40 → (tm_type_60_ok xfu s x1 0))) ∧ (¬ (64 ≤ x4) → (tm_type_10_ok n s x1 (if ((x1 >>> (x4.toInt64 &&& 63)) &&& 255) ≤ 0 then x3 else (x3 + 1)) (x4 + 8))))
set_option maxRecDepth 100000 in
theorem n104_10 {xs : Nat → Int32} {Ls : Nat} {Φ : Option xV → xH → Prop} : ∀ (n : Nat) (s : xS) (x1 : Int64) (x3 : Int32) (x4 : Int32), tm_type_10_ok n s x1 x3 x4 → Φ (some (vi (tm_type_10 n s x1 x3 x4).1)) (xhp (tm_type_10 n s x1 x3 x4).2) → xW (xX0 xs Ls) p104 10 [(0, vr 12 230), (1, vl x1), (3, vi x3), (4, vi x4)] [] (xhp s) Φ := by
  intro n
  induction n with
  | zero => intro s _ _ _ gq; exact gq.elim
  | succ n ih =>
    intro s x1 x3 x4 gq h
    unfold tm_type_10_ok at gq
    unfold tm_type_10 at h
    exact b104_10 s x1 x3 x4 (⟨fun hc => by rw [if_pos hc] at h; replace gq := gq.1 hc; exact ⟨fun hc => by rw [if_pos hc] at h; replace gq := gq hc; exact n104_60 _ _ _ _ gq h, fun hc => by rw [if_neg hc] at h; exact (by (try dsimp only at h); exact h)⟩, fun hc => by rw [if_neg hc] at h; replace gq := gq.2 hc; exact ih _ _ _ _ gq h⟩)
set_option maxRecDepth 100000 in
theorem b104_0 {xs : Nat → Int32} {Ls : Nat} {Φ : Option xV → xH → Prop} (s : xS) (b : Int64) (g : xW (xX0 xs Ls) p104 10 [(0, vr 12 230), (1, vl b), (3, vi 0), (4, vi 0)] [] (xhp (sI s 230 0 0)) Φ) : xW (xX0 xs Ls) p104 0 [(0, vr 12 230), (1, vl b)] [] (xhp s) Φ := by
  refine xW.seg (pc1 := 10) (L1 := [(4, vi 0), (3, vi 0), (0, vr 12 230), (1, vl b)]) (st1 := []) (h1 := xhp (sI s 230 0 0)) 7 (fun _ _ _ _ => rfl) ?_
  exact xW.locs (L := [(0, vr 12 230), (1, vl b), (3, vi 0), (4, vi 0)]) ⟨rfl, rfl, rfl, rfl, trivial⟩ rfl g
noncomputable def tm_type_d (s : xS) (b : Int64) : Int32 × xS := (tm_type_10 xfu (sI s 230 0 0) b 0 0)
noncomputable def tm_type : xS → Int64 → Int32 × xS := Classical.choose (⟨tm_type_d, rfl⟩ : ∃ f, f = tm_type_d)
set_option maxRecDepth 100000 in
theorem tm_type_eq : tm_type = tm_type_d := Classical.choose_spec (⟨tm_type_d, rfl⟩ : ∃ f, f = tm_type_d)
def tm_type_ok (s : xS) (b : Int64) : Prop := (tm_type_10_ok xfu (sI s 230 0 0) b 0 0)
set_option maxRecDepth 100000 in
theorem m104 {xs : Nat → Int32} {Ls : Nat} {Ψ : xO → xH → Prop} (s : xS) (b : Int64) (gq : tm_type_ok s b) (h : Ψ (.inl (some (vi (tm_type s b).1))) (xhp (tm_type s b).2)) : xM (xX0 xs Ls) 104 [vr 12 230, vl b] (xhp s) Ψ := by
  rw [tm_type_eq] at h
  unfold tm_type_d at h
  unfold tm_type_ok at gq
  exact xM.of (P := p104) rfl rfl rfl (b104_0 s b (n104_10 _ _ _ _ _ gq h))
/-! tm_wipe -/
theorem b105_0 {xs : Nat → Int32} {Ls : Nat} {Φ : Option xV → xH → Prop} (s : xS) (g : Φ (some (vi (gI s 230 22))) (xhp (sI (sI s 230 0 0) 230 22 0))) : xW (xX0 xs Ls) p105 0 [(0, vr 12 230)] [] (xhp s) Φ := by
  exact xW.ret (v0 := some (vi (gI s 230 22))) (h1 := xhp (sI (sI s 230 0 0) 230 22 0)) 11 (fun _ _ _ _ => rfl) g
noncomputable def tm_wipe_d (s : xS) : Int32 × xS := ((gI s 230 22), (sI (sI s 230 0 0) 230 22 0))
noncomputable def tm_wipe : xS → Int32 × xS := Classical.choose (⟨tm_wipe_d, rfl⟩ : ∃ f, f = tm_wipe_d)
set_option maxRecDepth 100000 in
theorem tm_wipe_eq : tm_wipe = tm_wipe_d := Classical.choose_spec (⟨tm_wipe_d, rfl⟩ : ∃ f, f = tm_wipe_d)
set_option maxRecDepth 100000 in
theorem m105 {xs : Nat → Int32} {Ls : Nat} {Ψ : xO → xH → Prop} (s : xS) (h : Ψ (.inl (some (vi (tm_wipe s).1))) (xhp (tm_wipe s).2)) : xM (xX0 xs Ls) 105 [vr 12 230] (xhp s) Ψ := by
  rw [tm_wipe_eq] at h
  unfold tm_wipe_d at h
  exact xM.of (P := p105) rfl rfl rfl (b105_0 s ((by (try dsimp only at h); exact h)))
/-! tm_bring -/
theorem b106_0 {xs : Nat → Int32} {Ls : Nat} {Φ : Option xV → xH → Prop} (s : xS) (c : Int32) (g : ((vp_in (gI s 230 24) 100) ∧ Φ none (xhp (sI (sI s 240 ((gI s 230 24).toNatClampNeg) c) 230 24 ((gI s 230 24) + 1))))) : xW (xX0 xs Ls) p106 0 [(0, vr 12 230), (1, vi c)] [] (xhp s) Φ := by
  refine xW.side (c := vp_in (gI s 230 24) 100) (pc1 := 10) (L1 := [(0, vr 12 230), (1, vi c)]) (st1 := []) (h1 := xhp (sI s 240 ((gI s 230 24).toNatClampNeg) c)) 6 (fun _ _ _ _ => rfl) g.1 ?_
  replace g := g.2
  exact xW.ret (v0 := none) (h1 := xhp (sI (sI s 240 ((gI s 230 24).toNatClampNeg) c) 230 24 ((gI s 230 24) + 1))) 7 (fun _ _ _ _ => rfl) g
noncomputable def tm_bring_d (s : xS) (c : Int32) : xS := (sI (sI s 240 ((gI s 230 24).toNatClampNeg) c) 230 24 ((gI s 230 24) + 1))
noncomputable def tm_bring : xS → Int32 → xS := Classical.choose (⟨tm_bring_d, rfl⟩ : ∃ f, f = tm_bring_d)
set_option maxRecDepth 100000 in
theorem tm_bring_eq : tm_bring = tm_bring_d := Classical.choose_spec (⟨tm_bring_d, rfl⟩ : ∃ f, f = tm_bring_d)
def tm_bring_ok (s : xS) (c : Int32) : Prop := (vp_in (gI s 230 24) 100)
set_option maxRecDepth 100000 in
theorem m106 {xs : Nat → Int32} {Ls : Nat} {Ψ : xO → xH → Prop} (s : xS) (c : Int32) (gq : tm_bring_ok s c) (h : Ψ (.inl none) (xhp (tm_bring s c))) : xM (xX0 xs Ls) 106 [vr 12 230, vi c] (xhp s) Ψ := by
  rw [tm_bring_eq] at h
  unfold tm_bring_d at h
  unfold tm_bring_ok at gq
  exact xM.of (P := p106) rfl rfl rfl (b106_0 s c (⟨gq, h⟩))
/-! tm_numbersInRow -/
theorem b107_4 {xs : Nat → Int32} {Ls : Nat} {Φ : Option xV → xH → Prop} (s : xS) (x1 : Int32) (x2 : Int32) (g : (((gI s 230 26) ≤ x2 → Φ (some (vi x1)) (xhp s)) ∧ (¬ ((gI s 230 26) ≤ x2) → ((vp_in x2 8) ∧ xW (xX0 xs Ls) p107 4 [(0, vr 12 230), (1, vi (if (gI s 241 x2.toNatClampNeg) = 0 then x1 else (x1 + 1))), (2, vi (x2 + 1))] [] (xhp s) Φ)))) : xW (xX0 xs Ls) p107 4 [(0, vr 12 230), (1, vi x1), (2, vi x2)] [] (xhp s) Φ := by
  refine xW.br (c := (gI s 230 26) ≤ x2) (pc1 := 35) (L1 := [(0, vr 12 230), (1, vi x1), (2, vi x2)]) (st1 := []) (h1 := xhp s) (pc2 := 12) (L2 := [(0, vr 12 230), (1, vi x1), (2, vi x2)]) (st2 := []) (h2 := xhp s) 4 (fun _ _ _ _ => rfl) (fun hc => ?_) (fun hc => ?_)
  · replace g := g.1 hc
    exact xW.ret (v0 := some (vi x1)) (h1 := xhp s) 2 (fun _ _ _ _ => rfl) g
  · replace g := g.2 hc
    refine xW.side (c := vp_in x2 8) (pc1 := 18) (L1 := [(0, vr 12 230), (1, vi x1), (2, vi x2)]) (st1 := [vi (gI s 241 x2.toNatClampNeg)]) (h1 := xhp s) 4 (fun _ _ _ _ => rfl) g.1 ?_
    replace g := g.2
    suffices J : xW (xX0 xs Ls) p107 28 [(0, vr 12 230), (1, vi x1), (2, vi x2)] [vi (if (gI s 241 x2.toNatClampNeg) = 0 then x1 else (x1 + 1))] (xhp s) Φ by
      refine xW.br (c := (gI s 241 x2.toNatClampNeg) = 0) (pc1 := 27) (L1 := [(0, vr 12 230), (1, vi x1), (2, vi x2)]) (st1 := []) (h1 := xhp s) (pc2 := 21) (L2 := [(0, vr 12 230), (1, vi x1), (2, vi x2)]) (st2 := []) (h2 := xhp s) 1 (fun _ _ _ _ => rfl) (fun hc => ?_) (fun hc => ?_)
      · have hc1 : (gI s 241 x2.toNatClampNeg) = 0 := hc
        refine xW.seg (pc1 := 28) (L1 := [(0, vr 12 230), (1, vi x1), (2, vi x2)]) (st1 := [vi x1]) (h1 := xhp s) 1 (fun _ _ _ _ => rfl) ?_
        refine xW.to (v := vi (if (gI s 241 x2.toNatClampNeg) = 0 then x1 else (x1 + 1))) ((congrArg vi (if_pos hc1)).symm) ?_
        exact J
      · have hc1 : ¬ ((gI s 241 x2.toNatClampNeg) = 0) := hc
        refine xW.seg (pc1 := 28) (L1 := [(0, vr 12 230), (1, vi x1), (2, vi x2)]) (st1 := [vi (x1 + 1)]) (h1 := xhp s) 4 (fun _ _ _ _ => rfl) ?_
        refine xW.to (v := vi (if (gI s 241 x2.toNatClampNeg) = 0 then x1 else (x1 + 1))) ((congrArg vi (if_neg hc1)).symm) ?_
        exact J
    refine xW.seg (pc1 := 4) (L1 := [(2, vi (x2 + 1)), (1, vi (if (gI s 241 x2.toNatClampNeg) = 0 then x1 else (x1 + 1))), (0, vr 12 230)]) (st1 := []) (h1 := xhp s) 3 (fun _ _ _ _ => rfl) ?_
    exact xW.locs (L := [(0, vr 12 230), (1, vi (if (gI s 241 x2.toNatClampNeg) = 0 then x1 else (x1 + 1))), (2, vi (x2 + 1))]) ⟨rfl, rfl, rfl, trivial⟩ rfl g
noncomputable def tm_numbersInRow_4 : Nat → xS → Int32 → Int32 → Int32
  | 0, s, _, _ => 0
  | n + 1, s, x1, x2 => (if (gI s 230 26) ≤ x2 then x1 else (tm_numbersInRow_4 n s (if (gI s 241 x2.toNatClampNeg) = 0 then x1 else (x1 + 1)) (x2 + 1)))
def tm_numbersInRow_4_ok : Nat → xS → Int32 → Int32 → Prop
  | 0, _, _, _ => False
  | n + 1, s, x1, x2 => (¬ ((gI s 230 26) ≤ x2) → ((vp_in x2 8) ∧ (tm_numbersInRow_4_ok n s (if (gI s 241 x2.toNatClampNeg) = 0 then x1 else (x1 + 1)) (x2 + 1))))
set_option maxRecDepth 100000 in
theorem n107_4 {xs : Nat → Int32} {Ls : Nat} {Φ : Option xV → xH → Prop} : ∀ (n : Nat) (s : xS) (x1 : Int32) (x2 : Int32), tm_numbersInRow_4_ok n s x1 x2 → Φ (some (vi (tm_numbersInRow_4 n s x1 x2))) (xhp s) → xW (xX0 xs Ls) p107 4 [(0, vr 12 230), (1, vi x1), (2, vi x2)] [] (xhp s) Φ := by
  intro n
  induction n with
  | zero => intro s _ _ gq; exact gq.elim
  | succ n ih =>
    intro s x1 x2 gq h
    unfold tm_numbersInRow_4_ok at gq
    unfold tm_numbersInRow_4 at h
    exact b107_4 s x1 x2 (⟨fun hc => by rw [if_pos hc] at h; exact h, fun hc => by rw [if_neg hc] at h; replace gq := gq hc; exact ⟨gq.1, by replace gq := gq.2; exact ih _ _ _ gq h⟩⟩)
set_option maxRecDepth 100000 in
theorem b107_0 {xs : Nat → Int32} {Ls : Nat} {Φ : Option xV → xH → Prop} (s : xS) (g : xW (xX0 xs Ls) p107 4 [(0, vr 12 230), (1, vi 0), (2, vi 0)] [] (xhp s) Φ) : xW (xX0 xs Ls) p107 0 [(0, vr 12 230)] [] (xhp s) Φ := by
  refine xW.seg (pc1 := 4) (L1 := [(2, vi 0), (1, vi 0), (0, vr 12 230)]) (st1 := []) (h1 := xhp s) 4 (fun _ _ _ _ => rfl) ?_
  exact xW.locs (L := [(0, vr 12 230), (1, vi 0), (2, vi 0)]) ⟨rfl, rfl, rfl, trivial⟩ rfl g
noncomputable def tm_numbersInRow (s : xS) : Int32 := (tm_numbersInRow_4 xfu s 0 0)
def tm_numbersInRow_ok (s : xS) : Prop := (tm_numbersInRow_4_ok xfu s 0 0)
set_option maxRecDepth 100000 in
theorem m107 {xs : Nat → Int32} {Ls : Nat} {Ψ : xO → xH → Prop} (s : xS) (gq : tm_numbersInRow_ok s) (h : Ψ (.inl (some (vi (tm_numbersInRow s)))) (xhp s)) : xM (xX0 xs Ls) 107 [vr 12 230] (xhp s) Ψ := by
  unfold tm_numbersInRow at h
  unfold tm_numbersInRow_ok at gq
  exact xM.of (P := p107) rfl rfl rfl (b107_0 s (n107_4 _ _ _ _ gq h))
/-! tm_shut -/
theorem b108_0 {xs : Nat → Int32} {Ls : Nat} {Φ : Option xV → xH → Prop} (s : xS) (g : ((vp_in ((gI s 230 26) - 1) 8) ∧ (((gI s 241 (((gI s 230 26) - 1).toNatClampNeg)) = 0 → Φ none (xhp (sI s 230 26 ((gI s 230 26) - 1)))) ∧ (¬ ((gI s 241 (((gI s 230 26) - 1).toNatClampNeg)) = 0) → ((vp_in ((gI s 230 26) - 1) 8) ∧ ((tm_bring_ok (sI s 230 26 ((gI s 230 26) - 1)) (gI s 241 (((gI s 230 26) - 1).toNatClampNeg))) ∧ Φ none (xhp (tm_bring (sI s 230 26 ((gI s 230 26) - 1)) (gI s 241 (((gI s 230 26) - 1).toNatClampNeg)))))))))) : xW (xX0 xs Ls) p108 0 [(0, vr 12 230)] [] (xhp s) Φ := by
  refine xW.side (c := vp_in ((gI s 230 26) - 1) 8) (pc1 := 19) (L1 := [(0, vr 12 230)]) (st1 := [vi (gI s 241 (((gI s 230 26) - 1).toNatClampNeg))]) (h1 := xhp (sI s 230 26 ((gI s 230 26) - 1))) 11 (fun _ _ _ _ => rfl) g.1 ?_
  replace g := g.2
  refine xW.br (c := (gI s 241 (((gI s 230 26) - 1).toNatClampNeg)) = 0) (pc1 := 35) (L1 := [(0, vr 12 230)]) (st1 := []) (h1 := xhp (sI s 230 26 ((gI s 230 26) - 1))) (pc2 := 22) (L2 := [(0, vr 12 230)]) (st2 := []) (h2 := xhp (sI s 230 26 ((gI s 230 26) - 1))) 1 (fun _ _ _ _ => rfl) (fun hc => ?_) (fun hc => ?_)
  · replace g := g.1 hc
    exact xW.ret (v0 := none) (h1 := xhp (sI s 230 26 ((gI s 230 26) - 1))) 1 (fun _ _ _ _ => rfl) g
  · replace g := g.2 hc
    refine xW.side (c := vp_in ((gI s 230 26) - 1) 8) (pc1 := 32) (L1 := [(0, vr 12 230)]) (st1 := [vi (gI s 241 (((gI s 230 26) - 1).toNatClampNeg)), vr 12 230]) (h1 := xhp (sI s 230 26 ((gI s 230 26) - 1))) 6 (fun _ _ _ _ => rfl) g.1 ?_
    replace g := g.2
    refine xW.call (y := 106) (as := [vr 12 230, vi (gI s 241 (((gI s 230 26) - 1).toNatClampNeg))]) (h0 := xhp (sI s 230 26 ((gI s 230 26) - 1))) (pc0 := 32) (len := 3) (L0 := [(0, vr 12 230)]) (rest := []) 1 (fun _ _ _ _ => rfl) (m106 _ _ g.1 ?_)
    show xW (xX0 xs Ls) p108 35 [(0, vr 12 230)] [] (xhp (tm_bring (sI s 230 26 ((gI s 230 26) - 1)) (gI s 241 (((gI s 230 26) - 1).toNatClampNeg)))) Φ
    replace g := g.2
    exact xW.ret (v0 := none) (h1 := xhp (tm_bring (sI s 230 26 ((gI s 230 26) - 1)) (gI s 241 (((gI s 230 26) - 1).toNatClampNeg)))) 1 (fun _ _ _ _ => rfl) g
noncomputable def tm_shut_d (s : xS) : xS := (if (gI s 241 (((gI s 230 26) - 1).toNatClampNeg)) = 0 then (sI s 230 26 ((gI s 230 26) - 1)) else (tm_bring (sI s 230 26 ((gI s 230 26) - 1)) (gI s 241 (((gI s 230 26) - 1).toNatClampNeg))))
noncomputable def tm_shut : xS → xS := Classical.choose (⟨tm_shut_d, rfl⟩ : ∃ f, f = tm_shut_d)
set_option maxRecDepth 100000 in
theorem tm_shut_eq : tm_shut = tm_shut_d := Classical.choose_spec (⟨tm_shut_d, rfl⟩ : ∃ f, f = tm_shut_d)
def tm_shut_ok (s : xS) : Prop := ((vp_in ((gI s 230 26) - 1) 8) ∧ (¬ ((gI s 241 (((gI s 230 26) - 1).toNatClampNeg)) = 0) → ((vp_in ((gI s 230 26) - 1) 8) ∧ (tm_bring_ok (sI s 230 26 ((gI s 230 26) - 1)) (gI s 241 (((gI s 230 26) - 1).toNatClampNeg))))))
set_option maxRecDepth 100000 in
theorem m108 {xs : Nat → Int32} {Ls : Nat} {Ψ : xO → xH → Prop} (s : xS) (gq : tm_shut_ok s) (h : Ψ (.inl none) (xhp (tm_shut s))) : xM (xX0 xs Ls) 108 [vr 12 230] (xhp s) Ψ := by
  rw [tm_shut_eq] at h
  unfold tm_shut_d at h
  unfold tm_shut_ok at gq
  exact xM.of (P := p108) rfl rfl rfl (b108_0 s (⟨gq.1, by replace gq := gq.2; exact ⟨fun hc => by rw [if_pos hc] at h; exact h, fun hc => by rw [if_neg hc] at h; replace gq := gq hc; exact ⟨gq.1, by replace gq := gq.2; exact ⟨gq, h⟩⟩⟩⟩))
/-! tm_fresh -/
theorem b109_43 {xs : Nat → Int32} {Ls : Nat} {Φ : Option xV → xH → Prop} (s : xS) (x1 : Int32) (g : ((tm_bring_ok s x1) ∧ (((zb (tm_begins x1)) = 0 ∨ (zb (tm_begins x1)) = 1) ∧ Φ (some (vi 0)) (xhp (sI (sI (sI (tm_bring s x1) 230 32 2) 230 33 (zb (tm_begins x1))) 230 27 (zb (tm_begins x1))))))) : xW (xX0 xs Ls) p109 43 [(0, vr 12 230), (1, vi x1)] [] (xhp s) Φ := by
  refine xW.call (y := 106) (as := [vr 12 230, vi x1]) (h0 := xhp s) (pc0 := 45) (len := 3) (L0 := [(0, vr 12 230), (1, vi x1)]) (rest := []) 3 (fun _ _ _ _ => rfl) (m106 _ _ g.1 ?_)
  show xW (xX0 xs Ls) p109 48 [(0, vr 12 230), (1, vi x1)] [] (xhp (tm_bring s x1)) Φ
  replace g := g.2
  refine xW.call (y := 47) (as := [vi x1]) (h0 := xhp (sI (tm_bring s x1) 230 32 2)) (pc0 := 55) (len := 3) (L0 := [(0, vr 12 230), (1, vi x1)]) (rest := [vr 12 230]) 6 (fun _ _ _ _ => rfl) (m47 _ _ ?_)
  show xW (xX0 xs Ls) p109 58 [(0, vr 12 230), (1, vi x1)] [vi (zb (tm_begins x1)), vr 12 230] (xhp (sI (tm_bring s x1) 230 32 2)) Φ
  refine xW.side (c := (zb (tm_begins x1)) = 0 ∨ (zb (tm_begins x1)) = 1) (pc1 := 61) (L1 := [(0, vr 12 230), (1, vi x1)]) (st1 := []) (h1 := xhp (sI (sI (tm_bring s x1) 230 32 2) 230 33 (zb (tm_begins x1)))) 1 (fun _ _ _ _ => rfl) (zb01 _) ?_
  refine xW.side (c := (zb (tm_begins x1)) = 0 ∨ (zb (tm_begins x1)) = 1) (pc1 := 69) (L1 := [(0, vr 12 230), (1, vi x1)]) (st1 := []) (h1 := xhp (sI (sI (sI (tm_bring s x1) 230 32 2) 230 33 (zb (tm_begins x1))) 230 27 (zb (tm_begins x1)))) 4 (fun _ _ _ _ => rfl) g.1 ?_
  replace g := g.2
  exact xW.ret (v0 := some (vi 0)) (h1 := xhp (sI (sI (sI (tm_bring s x1) 230 32 2) 230 33 (zb (tm_begins x1))) 230 27 (zb (tm_begins x1)))) 2 (fun _ _ _ _ => rfl) g
noncomputable def tm_fresh_43_d (s : xS) (x1 : Int32) : Int32 × xS := (0, (sI (sI (sI (tm_bring s x1) 230 32 2) 230 33 (zb (tm_begins x1))) 230 27 (zb (tm_begins x1))))
noncomputable def tm_fresh_43 : xS → Int32 → Int32 × xS := Classical.choose (⟨tm_fresh_43_d, rfl⟩ : ∃ f, f = tm_fresh_43_d)
set_option maxRecDepth 100000 in
theorem tm_fresh_43_eq : tm_fresh_43 = tm_fresh_43_d := Classical.choose_spec (⟨tm_fresh_43_d, rfl⟩ : ∃ f, f = tm_fresh_43_d)
def tm_fresh_43_ok (s : xS) (x1 : Int32) : Prop := ((tm_bring_ok s x1) ∧ ((zb (tm_begins x1)) = 0 ∨ (zb (tm_begins x1)) = 1))
set_option maxRecDepth 100000 in
theorem n109_43 {xs : Nat → Int32} {Ls : Nat} {Φ : Option xV → xH → Prop} (s : xS) (x1 : Int32) (gq : tm_fresh_43_ok s x1) (h : Φ (some (vi (tm_fresh_43 s x1).1)) (xhp (tm_fresh_43 s x1).2)) : xW (xX0 xs Ls) p109 43 [(0, vr 12 230), (1, vi x1)] [] (xhp s) Φ := by
  rw [tm_fresh_43_eq] at h
  unfold tm_fresh_43_d at h
  unfold tm_fresh_43_ok at gq
  exact b109_43 s x1 (⟨gq.1, by replace gq := gq.2; exact ⟨gq, (by (try dsimp only at h); exact h)⟩⟩)
set_option maxRecDepth 100000 in
theorem b109_0 {xs : Nat → Int32} {Ls : Nat} {Φ : Option xV → xH → Prop} (s : xS) (k : Int32) (g : ((¬ (gI s 230 32) = 2 → ((tm_numbersInRow_ok s) ∧ ((((tm_numbersInRow s) + 1) ≤ 4 → (((tm_begins k) = false → xW (xX0 xs Ls) p109 43 [(0, vr 12 230), (1, vi k)] [] (xhp s) Φ) ∧ ((tm_begins k) = true → (((gI s 230 27) = 0 → xW (xX0 xs Ls) p109 43 [(0, vr 12 230), (1, vi k)] [] (xhp s) Φ) ∧ (¬ ((gI s 230 27) = 0) → ((tm_bring_ok s 61) ∧ xW (xX0 xs Ls) p109 43 [(0, vr 12 230), (1, vi k)] [] (xhp (tm_bring s 61)) Φ)))))) ∧ (¬ (((tm_numbersInRow s) + 1) ≤ 4) → Φ (some (vi 6)) (xhp s))))) ∧ ((gI s 230 32) = 2 → Φ (some (vi 5)) (xhp s)))) : xW (xX0 xs Ls) p109 0 [(0, vr 12 230), (1, vi k)] [] (xhp s) Φ := by
  refine xW.br (c := ¬ (gI s 230 32) = 2) (pc1 := 10) (L1 := [(0, vr 12 230), (1, vi k)]) (st1 := []) (h1 := xhp s) (pc2 := 8) (L2 := [(0, vr 12 230), (1, vi k)]) (st2 := []) (h2 := xhp s) 4 (fun _ _ _ _ => rfl) (fun hc => ?_) (fun hc => ?_)
  · replace g := g.1 hc
    refine xW.call (y := 107) (as := [vr 12 230]) (h0 := xhp s) (pc0 := 11) (len := 3) (L0 := [(0, vr 12 230), (1, vi k)]) (rest := []) 2 (fun _ _ _ _ => rfl) (m107 _ g.1 ?_)
    show xW (xX0 xs Ls) p109 14 [(0, vr 12 230), (1, vi k)] [vi (tm_numbersInRow s)] (xhp s) Φ
    replace g := g.2
    refine xW.br (c := ((tm_numbersInRow s) + 1) ≤ 4) (pc1 := 23) (L1 := [(0, vr 12 230), (1, vi k)]) (st1 := []) (h1 := xhp s) (pc2 := 20) (L2 := [(0, vr 12 230), (1, vi k)]) (st2 := []) (h2 := xhp s) 4 (fun _ _ _ _ => rfl) (fun hc => ?_) (fun hc => ?_)
    · replace g := g.1 hc
      refine xW.call (y := 47) (as := [vi k]) (h0 := xhp s) (pc0 := 24) (len := 3) (L0 := [(0, vr 12 230), (1, vi k)]) (rest := []) 2 (fun _ _ _ _ => rfl) (m47 _ _ ?_)
      show xW (xX0 xs Ls) p109 27 [(0, vr 12 230), (1, vi k)] [vi (zb (tm_begins k))] (xhp s) Φ
      refine xW.br (c := (zb (tm_begins k)) = 0) (pc1 := 43) (L1 := [(0, vr 12 230), (1, vi k)]) (st1 := []) (h1 := xhp s) (pc2 := 30) (L2 := [(0, vr 12 230), (1, vi k)]) (st2 := []) (h2 := xhp s) 1 (fun _ _ _ _ => rfl) (fun hc => ?_) (fun hc => ?_)
      · replace g := g.1 (zb_eq0.mp hc)
        exact g
      · replace g := g.2 (zb_ne0.mp hc)
        refine xW.br (c := (gI s 230 27) = 0) (pc1 := 43) (L1 := [(0, vr 12 230), (1, vi k)]) (st1 := []) (h1 := xhp s) (pc2 := 37) (L2 := [(0, vr 12 230), (1, vi k)]) (st2 := []) (h2 := xhp s) 3 (fun _ _ _ _ => rfl) (fun hc => ?_) (fun hc => ?_)
        · replace g := g.1 hc
          exact g
        · replace g := g.2 hc
          refine xW.call (y := 106) (as := [vr 12 230, vi 61]) (h0 := xhp s) (pc0 := 40) (len := 3) (L0 := [(0, vr 12 230), (1, vi k)]) (rest := []) 3 (fun _ _ _ _ => rfl) (m106 _ _ g.1 ?_)
          show xW (xX0 xs Ls) p109 43 [(0, vr 12 230), (1, vi k)] [] (xhp (tm_bring s 61)) Φ
          replace g := g.2
          exact g
    · replace g := g.2 hc
      exact xW.ret (v0 := some (vi 6)) (h1 := xhp s) 2 (fun _ _ _ _ => rfl) g
  · replace g := g.2 (Decidable.not_not.mp hc)
    exact xW.ret (v0 := some (vi 5)) (h1 := xhp s) 2 (fun _ _ _ _ => rfl) g
noncomputable def tm_fresh_d (s : xS) (k : Int32) : Int32 × xS := (if ¬ (gI s 230 32) = 2 then (if ((tm_numbersInRow s) + 1) ≤ 4 then (if (tm_begins k) = false then (tm_fresh_43 s k) else (if (gI s 230 27) = 0 then (tm_fresh_43 s k) else (tm_fresh_43 (tm_bring s 61) k))) else (6, s)) else (5, s))
noncomputable def tm_fresh : xS → Int32 → Int32 × xS := Classical.choose (⟨tm_fresh_d, rfl⟩ : ∃ f, f = tm_fresh_d)
set_option maxRecDepth 100000 in
theorem tm_fresh_eq : tm_fresh = tm_fresh_d := Classical.choose_spec (⟨tm_fresh_d, rfl⟩ : ∃ f, f = tm_fresh_d)
def tm_fresh_ok (s : xS) (k : Int32) : Prop := (¬ (gI s 230 32) = 2 → ((tm_numbersInRow_ok s) ∧ (((tm_numbersInRow s) + 1) ≤ 4 → (((tm_begins k) = false → (tm_fresh_43_ok s k)) ∧ ((tm_begins k) = true → (((gI s 230 27) = 0 → (tm_fresh_43_ok s k)) ∧ (¬ ((gI s 230 27) = 0) → ((tm_bring_ok s 61) ∧ (tm_fresh_43_ok (tm_bring s 61) k)))))))))
set_option maxRecDepth 100000 in
theorem m109 {xs : Nat → Int32} {Ls : Nat} {Ψ : xO → xH → Prop} (s : xS) (k : Int32) (gq : tm_fresh_ok s k) (h : Ψ (.inl (some (vi (tm_fresh s k).1))) (xhp (tm_fresh s k).2)) : xM (xX0 xs Ls) 109 [vr 12 230, vi k] (xhp s) Ψ := by
  rw [tm_fresh_eq] at h
  unfold tm_fresh_d at h
  unfold tm_fresh_ok at gq
  exact xM.of (P := p109) rfl rfl rfl (b109_0 s k (⟨fun hc => by rw [if_pos hc] at h; replace gq := gq hc; exact ⟨gq.1, by replace gq := gq.2; exact ⟨fun hc => by rw [if_pos hc] at h; replace gq := gq hc; exact ⟨fun hc => by rw [if_pos hc] at h; replace gq := gq.1 hc; exact n109_43 _ _ gq h, fun hc => by rw [if_neg (by rw [hc]; decide)] at h; replace gq := gq.2 hc; exact ⟨fun hc => by rw [if_pos hc] at h; replace gq := gq.1 hc; exact n109_43 _ _ gq h, fun hc => by rw [if_neg hc] at h; replace gq := gq.2 hc; exact ⟨gq.1, by replace gq := gq.2; exact n109_43 _ _ gq h⟩⟩⟩, fun hc => by rw [if_neg hc] at h; exact (by (try dsimp only at h); exact h)⟩⟩, fun hc => by rw [if_neg (fun z => z hc)] at h; exact (by (try dsimp only at h); exact h)⟩))
/-! tm_bracket -/
theorem b110_104 {xs : Nat → Int32} {Ls : Nat} {Φ : Option xV → xH → Prop} (s : xS) (g : ((vp_in ((gI s 230 26) - 1) 8) ∧ (((gI s 241 (((gI s 230 26) - 1).toNatClampNeg)) = 0 → ((tm_shut_ok s) ∧ Φ (some (vi 0)) (xhp (tm_shut s)))) ∧ (¬ ((gI s 241 (((gI s 230 26) - 1).toNatClampNeg)) = 0) → ((tm_shut_ok s) ∧ xW (xX0 xs Ls) p110 104 [(0, vr 12 230)] [] (xhp (sI (tm_shut s) 230 27 0)) Φ))))) : xW (xX0 xs Ls) p110 104 [(0, vr 12 230)] [] (xhp s) Φ := by
  refine xW.side (c := vp_in ((gI s 230 26) - 1) 8) (pc1 := 115) (L1 := [(0, vr 12 230)]) (st1 := [vi (gI s 241 (((gI s 230 26) - 1).toNatClampNeg))]) (h1 := xhp s) 7 (fun _ _ _ _ => rfl) g.1 ?_
  replace g := g.2
  refine xW.br (c := (gI s 241 (((gI s 230 26) - 1).toNatClampNeg)) = 0) (pc1 := 130) (L1 := [(0, vr 12 230)]) (st1 := []) (h1 := xhp s) (pc2 := 118) (L2 := [(0, vr 12 230)]) (st2 := []) (h2 := xhp s) 1 (fun _ _ _ _ => rfl) (fun hc => ?_) (fun hc => ?_)
  · replace g := g.1 hc
    refine xW.call (y := 108) (as := [vr 12 230]) (h0 := xhp s) (pc0 := 131) (len := 3) (L0 := [(0, vr 12 230)]) (rest := []) 2 (fun _ _ _ _ => rfl) (m108 _ g.1 ?_)
    show xW (xX0 xs Ls) p110 134 [(0, vr 12 230)] [] (xhp (tm_shut s)) Φ
    replace g := g.2
    exact xW.ret (v0 := some (vi 0)) (h1 := xhp (tm_shut s)) 2 (fun _ _ _ _ => rfl) g
  · replace g := g.2 hc
    refine xW.call (y := 108) (as := [vr 12 230]) (h0 := xhp s) (pc0 := 119) (len := 3) (L0 := [(0, vr 12 230)]) (rest := []) 2 (fun _ _ _ _ => rfl) (m108 _ g.1 ?_)
    show xW (xX0 xs Ls) p110 122 [(0, vr 12 230)] [] (xhp (tm_shut s)) Φ
    replace g := g.2
    refine xW.side (c := (0 : Int32) = 0 ∨ (0 : Int32) = 1) (pc1 := 127) (L1 := [(0, vr 12 230)]) (st1 := []) (h1 := xhp (sI (tm_shut s) 230 27 0)) 3 (fun _ _ _ _ => rfl) (Or.inl rfl) ?_
    refine xW.seg (pc1 := 104) (L1 := [(0, vr 12 230)]) (st1 := []) (h1 := xhp (sI (tm_shut s) 230 27 0)) 1 (fun _ _ _ _ => rfl) ?_
    exact g
noncomputable def tm_bracket_104 : Nat → xS → Int32 × xS
  | 0, s => (0, s)
  | n + 1, s => (if (gI s 241 (((gI s 230 26) - 1).toNatClampNeg)) = 0 then (0, (tm_shut s)) else (tm_bracket_104 n (sI (tm_shut s) 230 27 0)))
def tm_bracket_104_ok : Nat → xS → Prop
  | 0, _ => False
  | n + 1, s => ((vp_in ((gI s 230 26) - 1) 8) ∧ (((gI s 241 (((gI s 230 26) - 1).toNatClampNeg)) = 0 → (tm_shut_ok s)) ∧ (¬ ((gI s 241 (((gI s 230 26) - 1).toNatClampNeg)) = 0) → ((tm_shut_ok s) ∧ (tm_bracket_104_ok n (sI (tm_shut s) 230 27 0))))))
set_option maxRecDepth 100000 in
theorem n110_104 {xs : Nat → Int32} {Ls : Nat} {Φ : Option xV → xH → Prop} : ∀ (n : Nat) (s : xS), tm_bracket_104_ok n s → Φ (some (vi (tm_bracket_104 n s).1)) (xhp (tm_bracket_104 n s).2) → xW (xX0 xs Ls) p110 104 [(0, vr 12 230)] [] (xhp s) Φ := by
  intro n
  induction n with
  | zero => intro s gq; exact gq.elim
  | succ n ih =>
    intro s gq h
    unfold tm_bracket_104_ok at gq
    unfold tm_bracket_104 at h
    exact b110_104 s (⟨gq.1, by replace gq := gq.2; exact ⟨fun hc => by rw [if_pos hc] at h; replace gq := gq.1 hc; exact ⟨gq, (by (try dsimp only at h); exact h)⟩, fun hc => by rw [if_neg hc] at h; replace gq := gq.2 hc; exact ⟨gq.1, by replace gq := gq.2; exact ih _ gq h⟩⟩⟩)
set_option maxRecDepth 100000 in
theorem b110_66 {xs : Nat → Int32} {Ls : Nat} {Φ : Option xV → xH → Prop} (s : xS) (x1 : Int32) (g : ((¬ x1 = 40 → xW (xX0 xs Ls) p110 104 [(0, vr 12 230)] [] (xhp (sI s 230 33 0)) Φ) ∧ (x1 = 40 → ((vp_in (gI s 230 26) 8) ∧ Φ (some (vi 0)) (xhp (sI (sI (sI (sI s 230 33 0) 241 ((gI s 230 26).toNatClampNeg) 0) 230 26 ((gI s 230 26) + 1)) 230 32 1)))))) : xW (xX0 xs Ls) p110 66 [(0, vr 12 230), (1, vi x1)] [] (xhp s) Φ := by
  refine xW.side (c := (0 : Int32) = 0 ∨ (0 : Int32) = 1) (pc1 := 71) (L1 := [(0, vr 12 230), (1, vi x1)]) (st1 := []) (h1 := xhp (sI s 230 33 0)) 3 (fun _ _ _ _ => rfl) (Or.inl rfl) ?_
  refine xW.br (c := ¬ x1 = 40) (pc1 := 104) (L1 := [(0, vr 12 230), (1, vi x1)]) (st1 := []) (h1 := xhp (sI s 230 33 0)) (pc2 := 77) (L2 := [(0, vr 12 230), (1, vi x1)]) (st2 := []) (h2 := xhp (sI s 230 33 0)) 3 (fun _ _ _ _ => rfl) (fun hc => ?_) (fun hc => ?_)
  · replace g := g.1 hc
    exact xW.locs (L := [(0, vr 12 230)]) ⟨rfl, trivial⟩ rfl g
  · replace g := g.2 (Decidable.not_not.mp hc)
    refine xW.side (c := vp_in (gI s 230 26) 8) (pc1 := 87) (L1 := [(0, vr 12 230), (1, vi x1)]) (st1 := []) (h1 := xhp (sI (sI s 230 33 0) 241 ((gI s 230 26).toNatClampNeg) 0)) 6 (fun _ _ _ _ => rfl) g.1 ?_
    replace g := g.2
    exact xW.ret (v0 := some (vi 0)) (h1 := xhp (sI (sI (sI (sI s 230 33 0) 241 ((gI s 230 26).toNatClampNeg) 0) 230 26 ((gI s 230 26) + 1)) 230 32 1)) 11 (fun _ _ _ _ => rfl) g
noncomputable def tm_bracket_66_d (s : xS) (x1 : Int32) : Int32 × xS := (if ¬ x1 = 40 then (tm_bracket_104 xfu (sI s 230 33 0)) else (0, (sI (sI (sI (sI s 230 33 0) 241 ((gI s 230 26).toNatClampNeg) 0) 230 26 ((gI s 230 26) + 1)) 230 32 1)))
noncomputable def tm_bracket_66 : xS → Int32 → Int32 × xS := Classical.choose (⟨tm_bracket_66_d, rfl⟩ : ∃ f, f = tm_bracket_66_d)
set_option maxRecDepth 100000 in
theorem tm_bracket_66_eq : tm_bracket_66 = tm_bracket_66_d := Classical.choose_spec (⟨tm_bracket_66_d, rfl⟩ : ∃ f, f = tm_bracket_66_d)
def tm_bracket_66_ok (s : xS) (x1 : Int32) : Prop := ((¬ x1 = 40 → (tm_bracket_104_ok xfu (sI s 230 33 0))) ∧ (x1 = 40 → (vp_in (gI s 230 26) 8)))
set_option maxRecDepth 100000 in
theorem n110_66 {xs : Nat → Int32} {Ls : Nat} {Φ : Option xV → xH → Prop} (s : xS) (x1 : Int32) (gq : tm_bracket_66_ok s x1) (h : Φ (some (vi (tm_bracket_66 s x1).1)) (xhp (tm_bracket_66 s x1).2)) : xW (xX0 xs Ls) p110 66 [(0, vr 12 230), (1, vi x1)] [] (xhp s) Φ := by
  rw [tm_bracket_66_eq] at h
  unfold tm_bracket_66_d at h
  unfold tm_bracket_66_ok at gq
  exact b110_66 s x1 (⟨fun hc => by rw [if_pos hc] at h; replace gq := gq.1 hc; exact n110_104 _ _ gq h, fun hc => by rw [if_neg (fun z => z hc)] at h; replace gq := gq.2 hc; exact ⟨gq, (by (try dsimp only at h); exact h)⟩⟩)
set_option maxRecDepth 100000 in
theorem b110_48 {xs : Nat → Int32} {Ls : Nat} {Φ : Option xV → xH → Prop} (s : xS) (x1 : Int32) (g : ((¬ x1 = 40 → xW (xX0 xs Ls) p110 66 [(0, vr 12 230), (1, vi x1)] [] (xhp s) Φ) ∧ (x1 = 40 → ((¬ (gI s 230 26) = 8 → xW (xX0 xs Ls) p110 66 [(0, vr 12 230), (1, vi x1)] [] (xhp s) Φ) ∧ ((gI s 230 26) = 8 → Φ (some (vi 6)) (xhp s)))))) : xW (xX0 xs Ls) p110 48 [(0, vr 12 230), (1, vi x1)] [] (xhp s) Φ := by
  refine xW.br (c := ¬ x1 = 40) (pc1 := 66) (L1 := [(0, vr 12 230), (1, vi x1)]) (st1 := []) (h1 := xhp s) (pc2 := 54) (L2 := [(0, vr 12 230), (1, vi x1)]) (st2 := []) (h2 := xhp s) 3 (fun _ _ _ _ => rfl) (fun hc => ?_) (fun hc => ?_)
  · replace g := g.1 hc
    exact g
  · replace g := g.2 (Decidable.not_not.mp hc)
    refine xW.br (c := ¬ (gI s 230 26) = 8) (pc1 := 66) (L1 := [(0, vr 12 230), (1, vi x1)]) (st1 := []) (h1 := xhp s) (pc2 := 63) (L2 := [(0, vr 12 230), (1, vi x1)]) (st2 := []) (h2 := xhp s) 4 (fun _ _ _ _ => rfl) (fun hc => ?_) (fun hc => ?_)
    · replace g := g.1 hc
      exact g
    · replace g := g.2 (Decidable.not_not.mp hc)
      exact xW.ret (v0 := some (vi 6)) (h1 := xhp s) 2 (fun _ _ _ _ => rfl) g
noncomputable def tm_bracket_48_d (s : xS) (x1 : Int32) : Int32 × xS := (if ¬ x1 = 40 then (tm_bracket_66 s x1) else (if ¬ (gI s 230 26) = 8 then (tm_bracket_66 s x1) else (6, s)))
noncomputable def tm_bracket_48 : xS → Int32 → Int32 × xS := Classical.choose (⟨tm_bracket_48_d, rfl⟩ : ∃ f, f = tm_bracket_48_d)
set_option maxRecDepth 100000 in
theorem tm_bracket_48_eq : tm_bracket_48 = tm_bracket_48_d := Classical.choose_spec (⟨tm_bracket_48_d, rfl⟩ : ∃ f, f = tm_bracket_48_d)
def tm_bracket_48_ok (s : xS) (x1 : Int32) : Prop := ((¬ x1 = 40 → (tm_bracket_66_ok s x1)) ∧ (x1 = 40 → (¬ (gI s 230 26) = 8 → (tm_bracket_66_ok s x1))))
set_option maxRecDepth 100000 in
theorem n110_48 {xs : Nat → Int32} {Ls : Nat} {Φ : Option xV → xH → Prop} (s : xS) (x1 : Int32) (gq : tm_bracket_48_ok s x1) (h : Φ (some (vi (tm_bracket_48 s x1).1)) (xhp (tm_bracket_48 s x1).2)) : xW (xX0 xs Ls) p110 48 [(0, vr 12 230), (1, vi x1)] [] (xhp s) Φ := by
  rw [tm_bracket_48_eq] at h
  unfold tm_bracket_48_d at h
  unfold tm_bracket_48_ok at gq
  exact b110_48 s x1 (⟨fun hc => by rw [if_pos hc] at h; replace gq := gq.1 hc; exact n110_66 _ _ gq h, fun hc => by rw [if_neg (fun z => z hc)] at h; replace gq := gq.2 hc; exact ⟨fun hc => by rw [if_pos hc] at h; replace gq := gq hc; exact n110_66 _ _ gq h, fun hc => by rw [if_neg (fun z => z hc)] at h; exact (by (try dsimp only at h); exact h)⟩⟩)
set_option maxRecDepth 100000 in
theorem b110_0 {xs : Nat → Int32} {Ls : Nat} {Φ : Option xV → xH → Prop} (s : xS) (k : Int32) (g : ((tm_numbersInRow_ok s) ∧ ((¬ k = 40 → ((¬ (gI s 230 32) = 2 → Φ (some (vi 5)) (xhp s)) ∧ ((gI s 230 32) = 2 → (((!decide ((gI s 230 26) ≤ (tm_numbersInRow s))) = true → xW (xX0 xs Ls) p110 48 [(0, vr 12 230), (1, vi k)] [] (xhp s) Φ) ∧ ((!decide ((gI s 230 26) ≤ (tm_numbersInRow s))) = false → Φ (some (vi 5)) (xhp s)))))) ∧ (k = 40 → ((¬ (gI s 230 32) = 2 → xW (xX0 xs Ls) p110 48 [(0, vr 12 230), (1, vi k)] [] (xhp s) Φ) ∧ ((gI s 230 32) = 2 → Φ (some (vi 5)) (xhp s))))))) : xW (xX0 xs Ls) p110 0 [(0, vr 12 230), (1, vi k)] [] (xhp s) Φ := by
  refine xW.call (y := 107) (as := [vr 12 230]) (h0 := xhp s) (pc0 := 1) (len := 3) (L0 := [(0, vr 12 230), (1, vi k)]) (rest := []) 2 (fun _ _ _ _ => rfl) (m107 _ g.1 ?_)
  show xW (xX0 xs Ls) p110 4 [(0, vr 12 230), (1, vi k)] [vi (tm_numbersInRow s)] (xhp s) Φ
  replace g := g.2
  refine xW.seg (pc1 := 8) (L1 := [(0, vr 12 230), (1, vi k)]) (st1 := [vi (gI s 230 26), vi (tm_numbersInRow s)]) (h1 := xhp s) 2 (fun _ _ _ _ => rfl) ?_
  suffices J : xW (xX0 xs Ls) p110 16 [(0, vr 12 230), (1, vi k)] [vi (zb (!decide ((gI s 230 26) ≤ (tm_numbersInRow s))))] (xhp s) Φ by
    refine xW.br (c := (gI s 230 26) ≤ (tm_numbersInRow s)) (pc1 := 15) (L1 := [(0, vr 12 230), (1, vi k)]) (st1 := []) (h1 := xhp s) (pc2 := 11) (L2 := [(0, vr 12 230), (1, vi k)]) (st2 := []) (h2 := xhp s) 1 (fun _ _ _ _ => rfl) (fun hc => ?_) (fun hc => ?_)
    · have hc1 : (gI s 230 26) ≤ (tm_numbersInRow s) := hc
      refine xW.seg (pc1 := 16) (L1 := [(0, vr 12 230), (1, vi k)]) (st1 := [vi 0]) (h1 := xhp s) 1 (fun _ _ _ _ => rfl) ?_
      refine xW.to (v := vi (zb (!decide ((gI s 230 26) ≤ (tm_numbersInRow s))))) (zb_f (by simp only [decide_eq_true hc1, Bool.true_or, Bool.or_true, Bool.false_or, Bool.or_false, Bool.true_and, Bool.and_true, Bool.false_and, Bool.and_false, Bool.not_true, Bool.not_false, cond_true, cond_false])) ?_
      exact J
    · have hc1 : ¬ ((gI s 230 26) ≤ (tm_numbersInRow s)) := hc
      refine xW.seg (pc1 := 16) (L1 := [(0, vr 12 230), (1, vi k)]) (st1 := [vi 1]) (h1 := xhp s) 2 (fun _ _ _ _ => rfl) ?_
      refine xW.to (v := vi (zb (!decide ((gI s 230 26) ≤ (tm_numbersInRow s))))) (zb_t (by simp only [decide_eq_false hc1, Bool.true_or, Bool.or_true, Bool.false_or, Bool.or_false, Bool.true_and, Bool.and_true, Bool.false_and, Bool.and_false, Bool.not_true, Bool.not_false, cond_true, cond_false])) ?_
      exact J
  refine xW.br (c := ¬ k = 40) (pc1 := 34) (L1 := [(2, vi (zb (!decide ((gI s 230 26) ≤ (tm_numbersInRow s))))), (0, vr 12 230), (1, vi k)]) (st1 := []) (h1 := xhp s) (pc2 := 23) (L2 := [(2, vi (zb (!decide ((gI s 230 26) ≤ (tm_numbersInRow s))))), (0, vr 12 230), (1, vi k)]) (st2 := []) (h2 := xhp s) 4 (fun _ _ _ _ => rfl) (fun hc => ?_) (fun hc => ?_)
  · replace g := g.1 hc
    refine xW.br (c := ¬ (gI s 230 32) = 2) (pc1 := 46) (L1 := [(2, vi (zb (!decide ((gI s 230 26) ≤ (tm_numbersInRow s))))), (0, vr 12 230), (1, vi k)]) (st1 := []) (h1 := xhp s) (pc2 := 42) (L2 := [(2, vi (zb (!decide ((gI s 230 26) ≤ (tm_numbersInRow s))))), (0, vr 12 230), (1, vi k)]) (st2 := []) (h2 := xhp s) 4 (fun _ _ _ _ => rfl) (fun hc => ?_) (fun hc => ?_)
    · replace g := g.1 hc
      exact xW.ret (v0 := some (vi 5)) (h1 := xhp s) 2 (fun _ _ _ _ => rfl) g
    · replace g := g.2 (Decidable.not_not.mp hc)
      refine xW.br (c := ¬ (zb (!decide ((gI s 230 26) ≤ (tm_numbersInRow s)))) = 0) (pc1 := 48) (L1 := [(2, vi (zb (!decide ((gI s 230 26) ≤ (tm_numbersInRow s))))), (0, vr 12 230), (1, vi k)]) (st1 := []) (h1 := xhp s) (pc2 := 46) (L2 := [(2, vi (zb (!decide ((gI s 230 26) ≤ (tm_numbersInRow s))))), (0, vr 12 230), (1, vi k)]) (st2 := []) (h2 := xhp s) 2 (fun _ _ _ _ => rfl) (fun hc => ?_) (fun hc => ?_)
      · replace g := g.1 (zb_ne0.mp hc)
        exact xW.locs (L := [(0, vr 12 230), (1, vi k)]) ⟨rfl, rfl, trivial⟩ rfl g
      · replace g := g.2 (zb_eq0.mp (Decidable.not_not.mp hc))
        exact xW.ret (v0 := some (vi 5)) (h1 := xhp s) 2 (fun _ _ _ _ => rfl) g
  · replace g := g.2 (Decidable.not_not.mp hc)
    refine xW.br (c := ¬ (gI s 230 32) = 2) (pc1 := 48) (L1 := [(2, vi (zb (!decide ((gI s 230 26) ≤ (tm_numbersInRow s))))), (0, vr 12 230), (1, vi k)]) (st1 := []) (h1 := xhp s) (pc2 := 31) (L2 := [(2, vi (zb (!decide ((gI s 230 26) ≤ (tm_numbersInRow s))))), (0, vr 12 230), (1, vi k)]) (st2 := []) (h2 := xhp s) 4 (fun _ _ _ _ => rfl) (fun hc => ?_) (fun hc => ?_)
    · replace g := g.1 hc
      exact xW.locs (L := [(0, vr 12 230), (1, vi k)]) ⟨rfl, rfl, trivial⟩ rfl g
    · replace g := g.2 (Decidable.not_not.mp hc)
      exact xW.ret (v0 := some (vi 5)) (h1 := xhp s) 3 (fun _ _ _ _ => rfl) g
noncomputable def tm_bracket_d (s : xS) (k : Int32) : Int32 × xS := (if ¬ k = 40 then (if ¬ (gI s 230 32) = 2 then (5, s) else (if (!decide ((gI s 230 26) ≤ (tm_numbersInRow s))) = true then (tm_bracket_48 s k) else (5, s))) else (if ¬ (gI s 230 32) = 2 then (tm_bracket_48 s k) else (5, s)))
noncomputable def tm_bracket : xS → Int32 → Int32 × xS := Classical.choose (⟨tm_bracket_d, rfl⟩ : ∃ f, f = tm_bracket_d)
set_option maxRecDepth 100000 in
theorem tm_bracket_eq : tm_bracket = tm_bracket_d := Classical.choose_spec (⟨tm_bracket_d, rfl⟩ : ∃ f, f = tm_bracket_d)
def tm_bracket_ok (s : xS) (k : Int32) : Prop := ((tm_numbersInRow_ok s) ∧ ((¬ k = 40 → ((gI s 230 32) = 2 → ((!decide ((gI s 230 26) ≤ (tm_numbersInRow s))) = true → (tm_bracket_48_ok s k)))) ∧ (k = 40 → (¬ (gI s 230 32) = 2 → (tm_bracket_48_ok s k)))))
set_option maxRecDepth 100000 in
theorem m110 {xs : Nat → Int32} {Ls : Nat} {Ψ : xO → xH → Prop} (s : xS) (k : Int32) (gq : tm_bracket_ok s k) (h : Ψ (.inl (some (vi (tm_bracket s k).1))) (xhp (tm_bracket s k).2)) : xM (xX0 xs Ls) 110 [vr 12 230, vi k] (xhp s) Ψ := by
  rw [tm_bracket_eq] at h
  unfold tm_bracket_d at h
  unfold tm_bracket_ok at gq
  exact xM.of (P := p110) rfl rfl rfl (b110_0 s k (⟨gq.1, by replace gq := gq.2; exact ⟨fun hc => by rw [if_pos hc] at h; replace gq := gq.1 hc; exact ⟨fun hc => by rw [if_pos hc] at h; exact (by (try dsimp only at h); exact h), fun hc => by rw [if_neg (fun z => z hc)] at h; replace gq := gq hc; exact ⟨fun hc => by rw [if_pos hc] at h; replace gq := gq hc; exact n110_48 _ _ gq h, fun hc => by rw [if_neg (by rw [hc]; decide)] at h; exact (by (try dsimp only at h); exact h)⟩⟩, fun hc => by rw [if_neg (fun z => z hc)] at h; replace gq := gq.2 hc; exact ⟨fun hc => by rw [if_pos hc] at h; replace gq := gq hc; exact n110_48 _ _ gq h, fun hc => by rw [if_neg (fun z => z hc)] at h; exact (by (try dsimp only at h); exact h)⟩⟩⟩))
/-! tm_operator -/
theorem b111_55 {xs : Nat → Int32} {Ls : Nat} {Φ : Option xV → xH → Prop} (s : xS) (x1 : Int32) (g : ((¬ (gI s 230 26) = 8 → ((vp_in (gI s 230 26) 8) ∧ Φ (some (vi 0)) (xhp (sI (sI (sI s 241 ((gI s 230 26).toNatClampNeg) x1) 230 26 ((gI s 230 26) + 1)) 230 32 1)))) ∧ ((gI s 230 26) = 8 → Φ (some (vi 6)) (xhp s)))) : xW (xX0 xs Ls) p111 55 [(0, vr 12 230), (1, vi x1)] [] (xhp s) Φ := by
  refine xW.br (c := ¬ (gI s 230 26) = 8) (pc1 := 67) (L1 := [(0, vr 12 230), (1, vi x1)]) (st1 := []) (h1 := xhp s) (pc2 := 64) (L2 := [(0, vr 12 230), (1, vi x1)]) (st2 := []) (h2 := xhp s) 4 (fun _ _ _ _ => rfl) (fun hc => ?_) (fun hc => ?_)
  · replace g := g.1 hc
    refine xW.side (c := vp_in (gI s 230 26) 8) (pc1 := 77) (L1 := [(0, vr 12 230), (1, vi x1)]) (st1 := []) (h1 := xhp (sI s 241 ((gI s 230 26).toNatClampNeg) x1)) 6 (fun _ _ _ _ => rfl) g.1 ?_
    replace g := g.2
    exact xW.ret (v0 := some (vi 0)) (h1 := xhp (sI (sI (sI s 241 ((gI s 230 26).toNatClampNeg) x1) 230 26 ((gI s 230 26) + 1)) 230 32 1)) 11 (fun _ _ _ _ => rfl) g
  · replace g := g.2 (Decidable.not_not.mp hc)
    exact xW.ret (v0 := some (vi 6)) (h1 := xhp s) 2 (fun _ _ _ _ => rfl) g
noncomputable def tm_operator_55_d (s : xS) (x1 : Int32) : Int32 × xS := (if ¬ (gI s 230 26) = 8 then (0, (sI (sI (sI s 241 ((gI s 230 26).toNatClampNeg) x1) 230 26 ((gI s 230 26) + 1)) 230 32 1)) else (6, s))
noncomputable def tm_operator_55 : xS → Int32 → Int32 × xS := Classical.choose (⟨tm_operator_55_d, rfl⟩ : ∃ f, f = tm_operator_55_d)
set_option maxRecDepth 100000 in
theorem tm_operator_55_eq : tm_operator_55 = tm_operator_55_d := Classical.choose_spec (⟨tm_operator_55_d, rfl⟩ : ∃ f, f = tm_operator_55_d)
def tm_operator_55_ok (s : xS) (x1 : Int32) : Prop := (¬ (gI s 230 26) = 8 → (vp_in (gI s 230 26) 8))
set_option maxRecDepth 100000 in
theorem n111_55 {xs : Nat → Int32} {Ls : Nat} {Φ : Option xV → xH → Prop} (s : xS) (x1 : Int32) (gq : tm_operator_55_ok s x1) (h : Φ (some (vi (tm_operator_55 s x1).1)) (xhp (tm_operator_55 s x1).2)) : xW (xX0 xs Ls) p111 55 [(0, vr 12 230), (1, vi x1)] [] (xhp s) Φ := by
  rw [tm_operator_55_eq] at h
  unfold tm_operator_55_d at h
  unfold tm_operator_55_ok at gq
  exact b111_55 s x1 (⟨fun hc => by rw [if_pos hc] at h; replace gq := gq hc; exact ⟨gq, (by (try dsimp only at h); exact h)⟩, fun hc => by rw [if_neg (fun z => z hc)] at h; exact (by (try dsimp only at h); exact h)⟩)
set_option maxRecDepth 100000 in
theorem b111_15 {xs : Nat → Int32} {Ls : Nat} {Φ : Option xV → xH → Prop} (s : xS) (x1 : Int32) (g : (((gI s 230 26) ≤ 0 → xW (xX0 xs Ls) p111 55 [(0, vr 12 230), (1, vi x1)] [] (xhp s) Φ) ∧ (¬ ((gI s 230 26) ≤ 0) → ((vp_in ((gI s 230 26) - 1) 8) ∧ (((tm_tightness (gI s 241 (((gI s 230 26) - 1).toNatClampNeg))) < (tm_tightness x1) → xW (xX0 xs Ls) p111 55 [(0, vr 12 230), (1, vi x1)] [] (xhp s) Φ) ∧ (¬ ((tm_tightness (gI s 241 (((gI s 230 26) - 1).toNatClampNeg))) < (tm_tightness x1)) → ((tm_shut_ok s) ∧ xW (xX0 xs Ls) p111 15 [(0, vr 12 230), (1, vi x1)] [] (xhp (sI (tm_shut s) 230 27 0)) Φ))))))) : xW (xX0 xs Ls) p111 15 [(0, vr 12 230), (1, vi x1)] [] (xhp s) Φ := by
  refine xW.br (c := (gI s 230 26) ≤ 0) (pc1 := 55) (L1 := [(0, vr 12 230), (1, vi x1)]) (st1 := []) (h1 := xhp s) (pc2 := 22) (L2 := [(0, vr 12 230), (1, vi x1)]) (st2 := []) (h2 := xhp s) 3 (fun _ _ _ _ => rfl) (fun hc => ?_) (fun hc => ?_)
  · replace g := g.1 hc
    exact g
  · replace g := g.2 hc
    refine xW.side (c := vp_in ((gI s 230 26) - 1) 8) (pc1 := 33) (L1 := [(0, vr 12 230), (1, vi x1)]) (st1 := [vi (gI s 241 (((gI s 230 26) - 1).toNatClampNeg))]) (h1 := xhp s) 7 (fun _ _ _ _ => rfl) g.1 ?_
    replace g := g.2
    refine xW.call (y := 65) (as := [vi (gI s 241 (((gI s 230 26) - 1).toNatClampNeg))]) (h0 := xhp s) (pc0 := 33) (len := 3) (L0 := [(0, vr 12 230), (1, vi x1)]) (rest := []) 1 (fun _ _ _ _ => rfl) (m65 _ _ ?_)
    show xW (xX0 xs Ls) p111 36 [(0, vr 12 230), (1, vi x1)] [vi (tm_tightness (gI s 241 (((gI s 230 26) - 1).toNatClampNeg)))] (xhp s) Φ
    refine xW.call (y := 65) (as := [vi x1]) (h0 := xhp s) (pc0 := 37) (len := 3) (L0 := [(0, vr 12 230), (1, vi x1)]) (rest := [vi (tm_tightness (gI s 241 (((gI s 230 26) - 1).toNatClampNeg)))]) 2 (fun _ _ _ _ => rfl) (m65 _ _ ?_)
    show xW (xX0 xs Ls) p111 40 [(0, vr 12 230), (1, vi x1)] [vi (tm_tightness x1), vi (tm_tightness (gI s 241 (((gI s 230 26) - 1).toNatClampNeg)))] (xhp s) Φ
    refine xW.br (c := (tm_tightness (gI s 241 (((gI s 230 26) - 1).toNatClampNeg))) < (tm_tightness x1)) (pc1 := 55) (L1 := [(0, vr 12 230), (1, vi x1)]) (st1 := []) (h1 := xhp s) (pc2 := 43) (L2 := [(0, vr 12 230), (1, vi x1)]) (st2 := []) (h2 := xhp s) 1 (fun _ _ _ _ => rfl) (fun hc => ?_) (fun hc => ?_)
    · replace g := g.1 hc
      exact g
    · replace g := g.2 hc
      refine xW.call (y := 108) (as := [vr 12 230]) (h0 := xhp s) (pc0 := 44) (len := 3) (L0 := [(0, vr 12 230), (1, vi x1)]) (rest := []) 2 (fun _ _ _ _ => rfl) (m108 _ g.1 ?_)
      show xW (xX0 xs Ls) p111 47 [(0, vr 12 230), (1, vi x1)] [] (xhp (tm_shut s)) Φ
      replace g := g.2
      refine xW.side (c := (0 : Int32) = 0 ∨ (0 : Int32) = 1) (pc1 := 52) (L1 := [(0, vr 12 230), (1, vi x1)]) (st1 := []) (h1 := xhp (sI (tm_shut s) 230 27 0)) 3 (fun _ _ _ _ => rfl) (Or.inl rfl) ?_
      refine xW.seg (pc1 := 15) (L1 := [(0, vr 12 230), (1, vi x1)]) (st1 := []) (h1 := xhp (sI (tm_shut s) 230 27 0)) 1 (fun _ _ _ _ => rfl) ?_
      exact g
noncomputable def tm_operator_15 : Nat → xS → Int32 → Int32 × xS
  | 0, s, _ => (0, s)
  | n + 1, s, x1 => (if (gI s 230 26) ≤ 0 then (tm_operator_55 s x1) else (if (tm_tightness (gI s 241 (((gI s 230 26) - 1).toNatClampNeg))) < (tm_tightness x1) then (tm_operator_55 s x1) else (tm_operator_15 n (sI (tm_shut s) 230 27 0) x1)))
def tm_operator_15_ok : Nat → xS → Int32 → Prop
  | 0, _, _ => False
  | n + 1, s, x1 => (((gI s 230 26) ≤ 0 → (tm_operator_55_ok s x1)) ∧ (¬ ((gI s 230 26) ≤ 0) → ((vp_in ((gI s 230 26) - 1) 8) ∧ (((tm_tightness (gI s 241 (((gI s 230 26) - 1).toNatClampNeg))) < (tm_tightness x1) → (tm_operator_55_ok s x1)) ∧ (¬ ((tm_tightness (gI s 241 (((gI s 230 26) - 1).toNatClampNeg))) < (tm_tightness x1)) → ((tm_shut_ok s) ∧ (tm_operator_15_ok n (sI (tm_shut s) 230 27 0) x1)))))))
set_option maxRecDepth 100000 in
theorem n111_15 {xs : Nat → Int32} {Ls : Nat} {Φ : Option xV → xH → Prop} : ∀ (n : Nat) (s : xS) (x1 : Int32), tm_operator_15_ok n s x1 → Φ (some (vi (tm_operator_15 n s x1).1)) (xhp (tm_operator_15 n s x1).2) → xW (xX0 xs Ls) p111 15 [(0, vr 12 230), (1, vi x1)] [] (xhp s) Φ := by
  intro n
  induction n with
  | zero => intro s _ gq; exact gq.elim
  | succ n ih =>
    intro s x1 gq h
    unfold tm_operator_15_ok at gq
    unfold tm_operator_15 at h
    exact b111_15 s x1 (⟨fun hc => by rw [if_pos hc] at h; replace gq := gq.1 hc; exact n111_55 _ _ gq h, fun hc => by rw [if_neg hc] at h; replace gq := gq.2 hc; exact ⟨gq.1, by replace gq := gq.2; exact ⟨fun hc => by rw [if_pos hc] at h; replace gq := gq.1 hc; exact n111_55 _ _ gq h, fun hc => by rw [if_neg hc] at h; replace gq := gq.2 hc; exact ⟨gq.1, by replace gq := gq.2; exact ih _ _ gq h⟩⟩⟩⟩)
set_option maxRecDepth 100000 in
theorem b111_0 {xs : Nat → Int32} {Ls : Nat} {Φ : Option xV → xH → Prop} (s : xS) (k : Int32) (g : (((gI s 230 32) = 2 → xW (xX0 xs Ls) p111 15 [(0, vr 12 230), (1, vi k)] [] (xhp (sI s 230 33 0)) Φ) ∧ (¬ ((gI s 230 32) = 2) → Φ (some (vi 5)) (xhp s)))) : xW (xX0 xs Ls) p111 0 [(0, vr 12 230), (1, vi k)] [] (xhp s) Φ := by
  refine xW.br (c := (gI s 230 32) = 2) (pc1 := 10) (L1 := [(0, vr 12 230), (1, vi k)]) (st1 := []) (h1 := xhp s) (pc2 := 8) (L2 := [(0, vr 12 230), (1, vi k)]) (st2 := []) (h2 := xhp s) 4 (fun _ _ _ _ => rfl) (fun hc => ?_) (fun hc => ?_)
  · replace g := g.1 hc
    refine xW.side (c := (0 : Int32) = 0 ∨ (0 : Int32) = 1) (pc1 := 15) (L1 := [(0, vr 12 230), (1, vi k)]) (st1 := []) (h1 := xhp (sI s 230 33 0)) 3 (fun _ _ _ _ => rfl) (Or.inl rfl) ?_
    exact g
  · replace g := g.2 hc
    exact xW.ret (v0 := some (vi 5)) (h1 := xhp s) 2 (fun _ _ _ _ => rfl) g
noncomputable def tm_operator_d (s : xS) (k : Int32) : Int32 × xS := (if (gI s 230 32) = 2 then (tm_operator_15 xfu (sI s 230 33 0) k) else (5, s))
noncomputable def tm_operator : xS → Int32 → Int32 × xS := Classical.choose (⟨tm_operator_d, rfl⟩ : ∃ f, f = tm_operator_d)
set_option maxRecDepth 100000 in
theorem tm_operator_eq : tm_operator = tm_operator_d := Classical.choose_spec (⟨tm_operator_d, rfl⟩ : ∃ f, f = tm_operator_d)
def tm_operator_ok (s : xS) (k : Int32) : Prop := ((gI s 230 32) = 2 → (tm_operator_15_ok xfu (sI s 230 33 0) k))
set_option maxRecDepth 100000 in
theorem m111 {xs : Nat → Int32} {Ls : Nat} {Ψ : xO → xH → Prop} (s : xS) (k : Int32) (gq : tm_operator_ok s k) (h : Ψ (.inl (some (vi (tm_operator s k).1))) (xhp (tm_operator s k).2)) : xM (xX0 xs Ls) 111 [vr 12 230, vi k] (xhp s) Ψ := by
  rw [tm_operator_eq] at h
  unfold tm_operator_d at h
  unfold tm_operator_ok at gq
  exact xM.of (P := p111) rfl rfl rfl (b111_0 s k (⟨fun hc => by rw [if_pos hc] at h; replace gq := gq hc; exact n111_15 _ _ _ gq h, fun hc => by rw [if_neg hc] at h; exact (by (try dsimp only at h); exact h)⟩))
/-! tm_translated -/
theorem b112_91 {xs : Nat → Int32} {Ls : Nat} {Φ : Option xV → xH → Prop} (s : xS) (x2 : Int32) (g : ((tm_bring_ok s x2) ∧ Φ (some (vi 0)) (xhp (sI (tm_bring s x2) 230 27 1)))) : xW (xX0 xs Ls) p112 91 [(0, vr 12 230), (2, vi x2)] [] (xhp s) Φ := by
  refine xW.call (y := 106) (as := [vr 12 230, vi x2]) (h0 := xhp s) (pc0 := 93) (len := 3) (L0 := [(0, vr 12 230), (2, vi x2)]) (rest := []) 3 (fun _ _ _ _ => rfl) (m106 _ _ g.1 ?_)
  show xW (xX0 xs Ls) p112 96 [(0, vr 12 230), (2, vi x2)] [] (xhp (tm_bring s x2)) Φ
  replace g := g.2
  refine xW.side (c := (1 : Int32) = 0 ∨ (1 : Int32) = 1) (pc1 := 101) (L1 := [(0, vr 12 230), (2, vi x2)]) (st1 := []) (h1 := xhp (sI (tm_bring s x2) 230 27 1)) 3 (fun _ _ _ _ => rfl) (Or.inr rfl) ?_
  exact xW.ret (v0 := some (vi 0)) (h1 := xhp (sI (tm_bring s x2) 230 27 1)) 2 (fun _ _ _ _ => rfl) g
noncomputable def tm_translated_91_d (s : xS) (x2 : Int32) : Int32 × xS := (0, (sI (tm_bring s x2) 230 27 1))
noncomputable def tm_translated_91 : xS → Int32 → Int32 × xS := Classical.choose (⟨tm_translated_91_d, rfl⟩ : ∃ f, f = tm_translated_91_d)
set_option maxRecDepth 100000 in
theorem tm_translated_91_eq : tm_translated_91 = tm_translated_91_d := Classical.choose_spec (⟨tm_translated_91_d, rfl⟩ : ∃ f, f = tm_translated_91_d)
def tm_translated_91_ok (s : xS) (x2 : Int32) : Prop := (tm_bring_ok s x2)
set_option maxRecDepth 100000 in
theorem n112_91 {xs : Nat → Int32} {Ls : Nat} {Φ : Option xV → xH → Prop} (s : xS) (x2 : Int32) (gq : tm_translated_91_ok s x2) (h : Φ (some (vi (tm_translated_91 s x2).1)) (xhp (tm_translated_91 s x2).2)) : xW (xX0 xs Ls) p112 91 [(0, vr 12 230), (2, vi x2)] [] (xhp s) Φ := by
  rw [tm_translated_91_eq] at h
  unfold tm_translated_91_d at h
  unfold tm_translated_91_ok at gq
  exact b112_91 s x2 (⟨gq, (by (try dsimp only at h); exact h)⟩)
set_option maxRecDepth 100000 in
theorem b112_140 {xs : Nat → Int32} {Ls : Nat} {Φ : Option xV → xH → Prop} (s : xS) (x2 : Int32) (g : ((tm_bracket_ok s x2) ∧ Φ (some (vi ((tm_bracket s x2).1))) (xhp ((tm_bracket s x2).2)))) : xW (xX0 xs Ls) p112 140 [(0, vr 12 230), (2, vi x2)] [] (xhp s) Φ := by
  refine xW.call (y := 110) (as := [vr 12 230, vi x2]) (h0 := xhp s) (pc0 := 142) (len := 3) (L0 := [(0, vr 12 230), (2, vi x2)]) (rest := []) 3 (fun _ _ _ _ => rfl) (m110 _ _ g.1 ?_)
  show xW (xX0 xs Ls) p112 145 [(0, vr 12 230), (2, vi x2)] [vi ((tm_bracket s x2).1)] (xhp ((tm_bracket s x2).2)) Φ
  replace g := g.2
  exact xW.ret (v0 := some (vi ((tm_bracket s x2).1))) (h1 := xhp ((tm_bracket s x2).2)) 1 (fun _ _ _ _ => rfl) g
noncomputable def tm_translated_140_d (s : xS) (x2 : Int32) : Int32 × xS := (tm_bracket s x2)
noncomputable def tm_translated_140 : xS → Int32 → Int32 × xS := Classical.choose (⟨tm_translated_140_d, rfl⟩ : ∃ f, f = tm_translated_140_d)
set_option maxRecDepth 100000 in
theorem tm_translated_140_eq : tm_translated_140 = tm_translated_140_d := Classical.choose_spec (⟨tm_translated_140_d, rfl⟩ : ∃ f, f = tm_translated_140_d)
def tm_translated_140_ok (s : xS) (x2 : Int32) : Prop := (tm_bracket_ok s x2)
set_option maxRecDepth 100000 in
theorem n112_140 {xs : Nat → Int32} {Ls : Nat} {Φ : Option xV → xH → Prop} (s : xS) (x2 : Int32) (gq : tm_translated_140_ok s x2) (h : Φ (some (vi (tm_translated_140 s x2).1)) (xhp (tm_translated_140 s x2).2)) : xW (xX0 xs Ls) p112 140 [(0, vr 12 230), (2, vi x2)] [] (xhp s) Φ := by
  rw [tm_translated_140_eq] at h
  unfold tm_translated_140_d at h
  unfold tm_translated_140_ok at gq
  exact b112_140 s x2 (⟨gq, (by (try dsimp only at h); exact h)⟩)
set_option maxRecDepth 100000 in
theorem b112_205 {xs : Nat → Int32} {Ls : Nat} {Φ : Option xV → xH → Prop} (s : xS) (x2 : Int32) (g : ((tm_bring_ok s x2) ∧ Φ (some (vi 0)) (xhp (sI (tm_bring s x2) 230 27 0)))) : xW (xX0 xs Ls) p112 205 [(0, vr 12 230), (2, vi x2)] [] (xhp s) Φ := by
  refine xW.call (y := 106) (as := [vr 12 230, vi x2]) (h0 := xhp s) (pc0 := 207) (len := 3) (L0 := [(0, vr 12 230), (2, vi x2)]) (rest := []) 3 (fun _ _ _ _ => rfl) (m106 _ _ g.1 ?_)
  show xW (xX0 xs Ls) p112 210 [(0, vr 12 230), (2, vi x2)] [] (xhp (tm_bring s x2)) Φ
  replace g := g.2
  refine xW.side (c := (0 : Int32) = 0 ∨ (0 : Int32) = 1) (pc1 := 215) (L1 := [(0, vr 12 230), (2, vi x2)]) (st1 := []) (h1 := xhp (sI (tm_bring s x2) 230 27 0)) 3 (fun _ _ _ _ => rfl) (Or.inl rfl) ?_
  exact xW.ret (v0 := some (vi 0)) (h1 := xhp (sI (tm_bring s x2) 230 27 0)) 2 (fun _ _ _ _ => rfl) g
noncomputable def tm_translated_205_d (s : xS) (x2 : Int32) : Int32 × xS := (0, (sI (tm_bring s x2) 230 27 0))
noncomputable def tm_translated_205 : xS → Int32 → Int32 × xS := Classical.choose (⟨tm_translated_205_d, rfl⟩ : ∃ f, f = tm_translated_205_d)
set_option maxRecDepth 100000 in
theorem tm_translated_205_eq : tm_translated_205 = tm_translated_205_d := Classical.choose_spec (⟨tm_translated_205_d, rfl⟩ : ∃ f, f = tm_translated_205_d)
def tm_translated_205_ok (s : xS) (x2 : Int32) : Prop := (tm_bring_ok s x2)
set_option maxRecDepth 100000 in
theorem n112_205 {xs : Nat → Int32} {Ls : Nat} {Φ : Option xV → xH → Prop} (s : xS) (x2 : Int32) (gq : tm_translated_205_ok s x2) (h : Φ (some (vi (tm_translated_205 s x2).1)) (xhp (tm_translated_205 s x2).2)) : xW (xX0 xs Ls) p112 205 [(0, vr 12 230), (2, vi x2)] [] (xhp s) Φ := by
  rw [tm_translated_205_eq] at h
  unfold tm_translated_205_d at h
  unfold tm_translated_205_ok at gq
  exact b112_205 s x2 (⟨gq, (by (try dsimp only at h); exact h)⟩)
set_option maxRecDepth 100000 in
theorem b112_128 {xs : Nat → Int32} {Ls : Nat} {Φ : Option xV → xH → Prop} (s : xS) (x2 : Int32) (x3 : Int32) (g : ((x2 = 40 → xW (xX0 xs Ls) p112 140 [(0, vr 12 230), (2, vi x2)] [] (xhp s) Φ) ∧ (¬ (x2 = 40) → ((¬ x2 = 41 → (((tm_isOperation x2) = false → ((¬ x3 = 0 → (((gI s 230 32) = 2 → ((¬ x2 = 78 → xW (xX0 xs Ls) p112 205 [(0, vr 12 230), (2, vi x2)] [] (xhp (sI s 230 33 0)) Φ) ∧ (x2 = 78 → (((gI s 230 27) = 0 → xW (xX0 xs Ls) p112 205 [(0, vr 12 230), (2, vi x2)] [] (xhp (sI s 230 33 0)) Φ) ∧ (¬ ((gI s 230 27) = 0) → ((tm_bring_ok (sI s 230 33 0) 87) ∧ ((tm_bring_ok (tm_bring (sI s 230 33 0) 87) 87) ∧ xW (xX0 xs Ls) p112 205 [(0, vr 12 230), (2, vi x2)] [] (xhp (tm_bring (tm_bring (sI s 230 33 0) 87) 87)) Φ))))))) ∧ (¬ ((gI s 230 32) = 2) → Φ (some (vi 5)) (xhp s)))) ∧ (x3 = 0 → Φ (some (vi 1)) (xhp s)))) ∧ ((tm_isOperation x2) = true → ((tm_operator_ok s x2) ∧ Φ (some (vi ((tm_operator s x2).1))) (xhp ((tm_operator s x2).2)))))) ∧ (x2 = 41 → xW (xX0 xs Ls) p112 140 [(0, vr 12 230), (2, vi x2)] [] (xhp s) Φ))))) : xW (xX0 xs Ls) p112 128 [(0, vr 12 230), (2, vi x2), (3, vi x3)] [] (xhp s) Φ := by
  refine xW.br (c := x2 = 40) (pc1 := 140) (L1 := [(0, vr 12 230), (2, vi x2), (3, vi x3)]) (st1 := []) (h1 := xhp s) (pc2 := 134) (L2 := [(0, vr 12 230), (2, vi x2), (3, vi x3)]) (st2 := []) (h2 := xhp s) 3 (fun _ _ _ _ => rfl) (fun hc => ?_) (fun hc => ?_)
  · replace g := g.1 hc
    exact xW.locs (L := [(0, vr 12 230), (2, vi x2)]) ⟨rfl, rfl, trivial⟩ rfl g
  · replace g := g.2 hc
    refine xW.br (c := ¬ x2 = 41) (pc1 := 146) (L1 := [(0, vr 12 230), (2, vi x2), (3, vi x3)]) (st1 := []) (h1 := xhp s) (pc2 := 140) (L2 := [(0, vr 12 230), (2, vi x2), (3, vi x3)]) (st2 := []) (h2 := xhp s) 3 (fun _ _ _ _ => rfl) (fun hc => ?_) (fun hc => ?_)
    · replace g := g.1 hc
      refine xW.call (y := 59) (as := [vi x2]) (h0 := xhp s) (pc0 := 147) (len := 3) (L0 := [(0, vr 12 230), (2, vi x2), (3, vi x3)]) (rest := []) 2 (fun _ _ _ _ => rfl) (m59 _ _ ?_)
      show xW (xX0 xs Ls) p112 150 [(0, vr 12 230), (2, vi x2), (3, vi x3)] [vi (zb (tm_isOperation x2))] (xhp s) Φ
      refine xW.br (c := (zb (tm_isOperation x2)) = 0) (pc1 := 159) (L1 := [(0, vr 12 230), (2, vi x2), (3, vi x3)]) (st1 := []) (h1 := xhp s) (pc2 := 153) (L2 := [(0, vr 12 230), (2, vi x2), (3, vi x3)]) (st2 := []) (h2 := xhp s) 1 (fun _ _ _ _ => rfl) (fun hc => ?_) (fun hc => ?_)
      · replace g := g.1 (zb_eq0.mp hc)
        refine xW.br (c := ¬ x3 = 0) (pc1 := 165) (L1 := [(0, vr 12 230), (2, vi x2), (3, vi x3)]) (st1 := []) (h1 := xhp s) (pc2 := 163) (L2 := [(0, vr 12 230), (2, vi x2), (3, vi x3)]) (st2 := []) (h2 := xhp s) 2 (fun _ _ _ _ => rfl) (fun hc => ?_) (fun hc => ?_)
        · replace g := g.1 hc
          refine xW.br (c := (gI s 230 32) = 2) (pc1 := 175) (L1 := [(0, vr 12 230), (2, vi x2), (3, vi x3)]) (st1 := []) (h1 := xhp s) (pc2 := 173) (L2 := [(0, vr 12 230), (2, vi x2), (3, vi x3)]) (st2 := []) (h2 := xhp s) 4 (fun _ _ _ _ => rfl) (fun hc => ?_) (fun hc => ?_)
          · replace g := g.1 hc
            refine xW.side (c := (0 : Int32) = 0 ∨ (0 : Int32) = 1) (pc1 := 180) (L1 := [(0, vr 12 230), (2, vi x2), (3, vi x3)]) (st1 := []) (h1 := xhp (sI s 230 33 0)) 3 (fun _ _ _ _ => rfl) (Or.inl rfl) ?_
            refine xW.br (c := ¬ x2 = 78) (pc1 := 205) (L1 := [(0, vr 12 230), (2, vi x2), (3, vi x3)]) (st1 := []) (h1 := xhp (sI s 230 33 0)) (pc2 := 186) (L2 := [(0, vr 12 230), (2, vi x2), (3, vi x3)]) (st2 := []) (h2 := xhp (sI s 230 33 0)) 3 (fun _ _ _ _ => rfl) (fun hc => ?_) (fun hc => ?_)
            · replace g := g.1 hc
              exact xW.locs (L := [(0, vr 12 230), (2, vi x2)]) ⟨rfl, rfl, trivial⟩ rfl g
            · replace g := g.2 (Decidable.not_not.mp hc)
              refine xW.br (c := (gI s 230 27) = 0) (pc1 := 205) (L1 := [(0, vr 12 230), (2, vi x2), (3, vi x3)]) (st1 := []) (h1 := xhp (sI s 230 33 0)) (pc2 := 193) (L2 := [(0, vr 12 230), (2, vi x2), (3, vi x3)]) (st2 := []) (h2 := xhp (sI s 230 33 0)) 3 (fun _ _ _ _ => rfl) (fun hc => ?_) (fun hc => ?_)
              · replace g := g.1 hc
                exact xW.locs (L := [(0, vr 12 230), (2, vi x2)]) ⟨rfl, rfl, trivial⟩ rfl g
              · replace g := g.2 hc
                refine xW.call (y := 106) (as := [vr 12 230, vi 87]) (h0 := xhp (sI s 230 33 0)) (pc0 := 196) (len := 3) (L0 := [(0, vr 12 230), (2, vi x2), (3, vi x3)]) (rest := []) 3 (fun _ _ _ _ => rfl) (m106 _ _ g.1 ?_)
                show xW (xX0 xs Ls) p112 199 [(0, vr 12 230), (2, vi x2), (3, vi x3)] [] (xhp (tm_bring (sI s 230 33 0) 87)) Φ
                replace g := g.2
                refine xW.call (y := 106) (as := [vr 12 230, vi 87]) (h0 := xhp (tm_bring (sI s 230 33 0) 87)) (pc0 := 202) (len := 3) (L0 := [(0, vr 12 230), (2, vi x2), (3, vi x3)]) (rest := []) 3 (fun _ _ _ _ => rfl) (m106 _ _ g.1 ?_)
                show xW (xX0 xs Ls) p112 205 [(0, vr 12 230), (2, vi x2), (3, vi x3)] [] (xhp (tm_bring (tm_bring (sI s 230 33 0) 87) 87)) Φ
                replace g := g.2
                exact xW.locs (L := [(0, vr 12 230), (2, vi x2)]) ⟨rfl, rfl, trivial⟩ rfl g
          · replace g := g.2 hc
            exact xW.ret (v0 := some (vi 5)) (h1 := xhp s) 2 (fun _ _ _ _ => rfl) g
        · replace g := g.2 (Decidable.not_not.mp hc)
          exact xW.ret (v0 := some (vi 1)) (h1 := xhp s) 2 (fun _ _ _ _ => rfl) g
      · replace g := g.2 (zb_ne0.mp hc)
        refine xW.call (y := 111) (as := [vr 12 230, vi x2]) (h0 := xhp s) (pc0 := 155) (len := 3) (L0 := [(0, vr 12 230), (2, vi x2), (3, vi x3)]) (rest := []) 3 (fun _ _ _ _ => rfl) (m111 _ _ g.1 ?_)
        show xW (xX0 xs Ls) p112 158 [(0, vr 12 230), (2, vi x2), (3, vi x3)] [vi ((tm_operator s x2).1)] (xhp ((tm_operator s x2).2)) Φ
        replace g := g.2
        exact xW.ret (v0 := some (vi ((tm_operator s x2).1))) (h1 := xhp ((tm_operator s x2).2)) 1 (fun _ _ _ _ => rfl) g
    · replace g := g.2 (Decidable.not_not.mp hc)
      exact xW.locs (L := [(0, vr 12 230), (2, vi x2)]) ⟨rfl, rfl, trivial⟩ rfl g
noncomputable def tm_translated_128_d (s : xS) (x2 : Int32) (x3 : Int32) : Int32 × xS := (if x2 = 40 then (tm_translated_140 s x2) else (if ¬ x2 = 41 then (if (tm_isOperation x2) = false then (if ¬ x3 = 0 then (if (gI s 230 32) = 2 then (if ¬ x2 = 78 then (tm_translated_205 (sI s 230 33 0) x2) else (if (gI s 230 27) = 0 then (tm_translated_205 (sI s 230 33 0) x2) else (tm_translated_205 (tm_bring (tm_bring (sI s 230 33 0) 87) 87) x2))) else (5, s)) else (1, s)) else (tm_operator s x2)) else (tm_translated_140 s x2)))
noncomputable def tm_translated_128 : xS → Int32 → Int32 → Int32 × xS := Classical.choose (⟨tm_translated_128_d, rfl⟩ : ∃ f, f = tm_translated_128_d)
set_option maxRecDepth 100000 in
theorem tm_translated_128_eq : tm_translated_128 = tm_translated_128_d := Classical.choose_spec (⟨tm_translated_128_d, rfl⟩ : ∃ f, f = tm_translated_128_d)
def tm_translated_128_ok (s : xS) (x2 : Int32) (x3 : Int32) : Prop := ((x2 = 40 → (tm_translated_140_ok s x2)) ∧ (¬ (x2 = 40) → ((¬ x2 = 41 → (((tm_isOperation x2) = false → (¬ x3 = 0 → ((gI s 230 32) = 2 → ((¬ x2 = 78 → (tm_translated_205_ok (sI s 230 33 0) x2)) ∧ (x2 = 78 → (((gI s 230 27) = 0 → (tm_translated_205_ok (sI s 230 33 0) x2)) ∧ (¬ ((gI s 230 27) = 0) → ((tm_bring_ok (sI s 230 33 0) 87) ∧ ((tm_bring_ok (tm_bring (sI s 230 33 0) 87) 87) ∧ (tm_translated_205_ok (tm_bring (tm_bring (sI s 230 33 0) 87) 87) x2)))))))))) ∧ ((tm_isOperation x2) = true → (tm_operator_ok s x2)))) ∧ (x2 = 41 → (tm_translated_140_ok s x2)))))
set_option maxRecDepth 100000 in
theorem n112_128 {xs : Nat → Int32} {Ls : Nat} {Φ : Option xV → xH → Prop} (s : xS) (x2 : Int32) (x3 : Int32) (gq : tm_translated_128_ok s x2 x3) (h : Φ (some (vi (tm_translated_128 s x2 x3).1)) (xhp (tm_translated_128 s x2 x3).2)) : xW (xX0 xs Ls) p112 128 [(0, vr 12 230), (2, vi x2), (3, vi x3)] [] (xhp s) Φ := by
  rw [tm_translated_128_eq] at h
  unfold tm_translated_128_d at h
  unfold tm_translated_128_ok at gq
  exact b112_128 s x2 x3 (⟨fun hc => by rw [if_pos hc] at h; replace gq := gq.1 hc; exact n112_140 _ _ gq h, fun hc => by rw [if_neg hc] at h; replace gq := gq.2 hc; exact ⟨fun hc => by rw [if_pos hc] at h; replace gq := gq.1 hc; exact ⟨fun hc => by rw [if_pos hc] at h; replace gq := gq.1 hc; exact ⟨fun hc => by rw [if_pos hc] at h; replace gq := gq hc; exact ⟨fun hc => by rw [if_pos hc] at h; replace gq := gq hc; exact ⟨fun hc => by rw [if_pos hc] at h; replace gq := gq.1 hc; exact n112_205 _ _ gq h, fun hc => by rw [if_neg (fun z => z hc)] at h; replace gq := gq.2 hc; exact ⟨fun hc => by rw [if_pos hc] at h; replace gq := gq.1 hc; exact n112_205 _ _ gq h, fun hc => by rw [if_neg hc] at h; replace gq := gq.2 hc; exact ⟨gq.1, by replace gq := gq.2; exact ⟨gq.1, by replace gq := gq.2; exact n112_205 _ _ gq h⟩⟩⟩⟩, fun hc => by rw [if_neg hc] at h; exact (by (try dsimp only at h); exact h)⟩, fun hc => by rw [if_neg (fun z => z hc)] at h; exact (by (try dsimp only at h); exact h)⟩, fun hc => by rw [if_neg (by rw [hc]; decide)] at h; replace gq := gq.2 hc; exact ⟨gq, (by (try dsimp only at h); exact h)⟩⟩, fun hc => by rw [if_neg (fun z => z hc)] at h; replace gq := gq.2 hc; exact n112_140 _ _ gq h⟩⟩)
set_option maxRecDepth 100000 in
theorem b112_122 {xs : Nat → Int32} {Ls : Nat} {Φ : Option xV → xH → Prop} (s : xS) (x2 : Int32) (g : ((tm_fresh_ok s x2) ∧ Φ (some (vi ((tm_fresh s x2).1))) (xhp ((tm_fresh s x2).2)))) : xW (xX0 xs Ls) p112 122 [(0, vr 12 230), (2, vi x2)] [] (xhp s) Φ := by
  refine xW.call (y := 109) (as := [vr 12 230, vi x2]) (h0 := xhp s) (pc0 := 124) (len := 3) (L0 := [(0, vr 12 230), (2, vi x2)]) (rest := []) 3 (fun _ _ _ _ => rfl) (m109 _ _ g.1 ?_)
  show xW (xX0 xs Ls) p112 127 [(0, vr 12 230), (2, vi x2)] [vi ((tm_fresh s x2).1)] (xhp ((tm_fresh s x2).2)) Φ
  replace g := g.2
  exact xW.ret (v0 := some (vi ((tm_fresh s x2).1))) (h1 := xhp ((tm_fresh s x2).2)) 1 (fun _ _ _ _ => rfl) g
noncomputable def tm_translated_122_d (s : xS) (x2 : Int32) : Int32 × xS := (tm_fresh s x2)
noncomputable def tm_translated_122 : xS → Int32 → Int32 × xS := Classical.choose (⟨tm_translated_122_d, rfl⟩ : ∃ f, f = tm_translated_122_d)
set_option maxRecDepth 100000 in
theorem tm_translated_122_eq : tm_translated_122 = tm_translated_122_d := Classical.choose_spec (⟨tm_translated_122_d, rfl⟩ : ∃ f, f = tm_translated_122_d)
def tm_translated_122_ok (s : xS) (x2 : Int32) : Prop := (tm_fresh_ok s x2)
set_option maxRecDepth 100000 in
theorem n112_122 {xs : Nat → Int32} {Ls : Nat} {Φ : Option xV → xH → Prop} (s : xS) (x2 : Int32) (gq : tm_translated_122_ok s x2) (h : Φ (some (vi (tm_translated_122 s x2).1)) (xhp (tm_translated_122 s x2).2)) : xW (xX0 xs Ls) p112 122 [(0, vr 12 230), (2, vi x2)] [] (xhp s) Φ := by
  rw [tm_translated_122_eq] at h
  unfold tm_translated_122_d at h
  unfold tm_translated_122_ok at gq
  exact b112_122 s x2 (⟨gq, (by (try dsimp only at h); exact h)⟩)
set_option maxRecDepth 100000 in
theorem b112_103 {xs : Nat → Int32} {Ls : Nat} {Φ : Option xV → xH → Prop} (s : xS) (x2 : Int32) (x3 : Int32) (g : (((tm_begins x2) = true → xW (xX0 xs Ls) p112 122 [(0, vr 12 230), (2, vi x2)] [] (xhp s) Φ) ∧ ((tm_begins x2) = false → ((x2 < 97 → xW (xX0 xs Ls) p112 128 [(0, vr 12 230), (2, vi x2), (3, vi x3)] [] (xhp s) Φ) ∧ (¬ (x2 < 97) → ((106 < x2 → xW (xX0 xs Ls) p112 128 [(0, vr 12 230), (2, vi x2), (3, vi x3)] [] (xhp s) Φ) ∧ (¬ (106 < x2) → xW (xX0 xs Ls) p112 122 [(0, vr 12 230), (2, vi x2)] [] (xhp s) Φ))))))) : xW (xX0 xs Ls) p112 103 [(0, vr 12 230), (2, vi x2), (3, vi x3)] [] (xhp s) Φ := by
  refine xW.call (y := 47) (as := [vi x2]) (h0 := xhp s) (pc0 := 104) (len := 3) (L0 := [(0, vr 12 230), (2, vi x2), (3, vi x3)]) (rest := []) 2 (fun _ _ _ _ => rfl) (m47 _ _ ?_)
  show xW (xX0 xs Ls) p112 107 [(0, vr 12 230), (2, vi x2), (3, vi x3)] [vi (zb (tm_begins x2))] (xhp s) Φ
  refine xW.br (c := ¬ (zb (tm_begins x2)) = 0) (pc1 := 122) (L1 := [(0, vr 12 230), (2, vi x2), (3, vi x3)]) (st1 := []) (h1 := xhp s) (pc2 := 110) (L2 := [(0, vr 12 230), (2, vi x2), (3, vi x3)]) (st2 := []) (h2 := xhp s) 1 (fun _ _ _ _ => rfl) (fun hc => ?_) (fun hc => ?_)
  · replace g := g.1 (zb_ne0.mp hc)
    exact xW.locs (L := [(0, vr 12 230), (2, vi x2)]) ⟨rfl, rfl, trivial⟩ rfl g
  · replace g := g.2 (zb_eq0.mp (Decidable.not_not.mp hc))
    refine xW.br (c := x2 < 97) (pc1 := 128) (L1 := [(0, vr 12 230), (2, vi x2), (3, vi x3)]) (st1 := []) (h1 := xhp s) (pc2 := 116) (L2 := [(0, vr 12 230), (2, vi x2), (3, vi x3)]) (st2 := []) (h2 := xhp s) 3 (fun _ _ _ _ => rfl) (fun hc => ?_) (fun hc => ?_)
    · replace g := g.1 hc
      exact g
    · replace g := g.2 hc
      refine xW.br (c := 106 < x2) (pc1 := 128) (L1 := [(0, vr 12 230), (2, vi x2), (3, vi x3)]) (st1 := []) (h1 := xhp s) (pc2 := 122) (L2 := [(0, vr 12 230), (2, vi x2), (3, vi x3)]) (st2 := []) (h2 := xhp s) 3 (fun _ _ _ _ => rfl) (fun hc => ?_) (fun hc => ?_)
      · replace g := g.1 hc
        exact g
      · replace g := g.2 hc
        exact xW.locs (L := [(0, vr 12 230), (2, vi x2)]) ⟨rfl, rfl, trivial⟩ rfl g
noncomputable def tm_translated_103_d (s : xS) (x2 : Int32) (x3 : Int32) : Int32 × xS := (if (tm_begins x2) = true then (tm_translated_122 s x2) else (if x2 < 97 then (tm_translated_128 s x2 x3) else (if 106 < x2 then (tm_translated_128 s x2 x3) else (tm_translated_122 s x2))))
noncomputable def tm_translated_103 : xS → Int32 → Int32 → Int32 × xS := Classical.choose (⟨tm_translated_103_d, rfl⟩ : ∃ f, f = tm_translated_103_d)
set_option maxRecDepth 100000 in
theorem tm_translated_103_eq : tm_translated_103 = tm_translated_103_d := Classical.choose_spec (⟨tm_translated_103_d, rfl⟩ : ∃ f, f = tm_translated_103_d)
def tm_translated_103_ok (s : xS) (x2 : Int32) (x3 : Int32) : Prop := (((tm_begins x2) = true → (tm_translated_122_ok s x2)) ∧ ((tm_begins x2) = false → ((x2 < 97 → (tm_translated_128_ok s x2 x3)) ∧ (¬ (x2 < 97) → ((106 < x2 → (tm_translated_128_ok s x2 x3)) ∧ (¬ (106 < x2) → (tm_translated_122_ok s x2)))))))
set_option maxRecDepth 100000 in
theorem n112_103 {xs : Nat → Int32} {Ls : Nat} {Φ : Option xV → xH → Prop} (s : xS) (x2 : Int32) (x3 : Int32) (gq : tm_translated_103_ok s x2 x3) (h : Φ (some (vi (tm_translated_103 s x2 x3).1)) (xhp (tm_translated_103 s x2 x3).2)) : xW (xX0 xs Ls) p112 103 [(0, vr 12 230), (2, vi x2), (3, vi x3)] [] (xhp s) Φ := by
  rw [tm_translated_103_eq] at h
  unfold tm_translated_103_d at h
  unfold tm_translated_103_ok at gq
  exact b112_103 s x2 x3 (⟨fun hc => by rw [if_pos hc] at h; replace gq := gq.1 hc; exact n112_122 _ _ gq h, fun hc => by rw [if_neg (by rw [hc]; decide)] at h; replace gq := gq.2 hc; exact ⟨fun hc => by rw [if_pos hc] at h; replace gq := gq.1 hc; exact n112_128 _ _ _ gq h, fun hc => by rw [if_neg hc] at h; replace gq := gq.2 hc; exact ⟨fun hc => by rw [if_pos hc] at h; replace gq := gq.1 hc; exact n112_128 _ _ _ gq h, fun hc => by rw [if_neg hc] at h; replace gq := gq.2 hc; exact n112_122 _ _ gq h⟩⟩⟩)
set_option maxRecDepth 100000 in
theorem b112_0 {xs : Nat → Int32} {Ls : Nat} {Φ : Option xV → xH → Prop} (s : xS) (k : Int32) (g : ((vp_in k 40) ∧ ((¬ (gI s 239 k.toNatClampNeg) = 61 → (((gI s 230 33) = 0 → xW (xX0 xs Ls) p112 103 [(0, vr 12 230), (2, vi (gI s 239 k.toNatClampNeg)), (3, vi (zb ((decide ((gI s 239 k.toNatClampNeg) = 81)) || ((decide ((gI s 239 k.toNatClampNeg) = 83)) || ((decide ((gI s 239 k.toNatClampNeg) = 73)) || (decide ((gI s 239 k.toNatClampNeg) = 78)))))))] [] (xhp s) Φ) ∧ (¬ ((gI s 230 33) = 0) → (((tm_begins (gI s 239 k.toNatClampNeg)) = true → xW (xX0 xs Ls) p112 91 [(0, vr 12 230), (2, vi (gI s 239 k.toNatClampNeg))] [] (xhp s) Φ) ∧ ((tm_begins (gI s 239 k.toNatClampNeg)) = false → ((¬ (gI s 239 k.toNatClampNeg) = 78 → xW (xX0 xs Ls) p112 103 [(0, vr 12 230), (2, vi (gI s 239 k.toNatClampNeg)), (3, vi (zb ((decide ((gI s 239 k.toNatClampNeg) = 81)) || ((decide ((gI s 239 k.toNatClampNeg) = 83)) || ((decide ((gI s 239 k.toNatClampNeg) = 73)) || (decide ((gI s 239 k.toNatClampNeg) = 78)))))))] [] (xhp s) Φ) ∧ ((gI s 239 k.toNatClampNeg) = 78 → xW (xX0 xs Ls) p112 91 [(0, vr 12 230), (2, vi (gI s 239 k.toNatClampNeg))] [] (xhp s) Φ))))))) ∧ ((gI s 239 k.toNatClampNeg) = 61 → Φ (some (vi (if ((gI s 230 22) - 1) ≤ k then (if (gI s 230 32) = 1 then (5 : Int32) else 0) else 1))) (xhp s))))) : xW (xX0 xs Ls) p112 0 [(0, vr 12 230), (1, vi k)] [] (xhp s) Φ := by
  refine xW.side (c := vp_in k 40) (pc1 := 6) (L1 := [(0, vr 12 230), (1, vi k)]) (st1 := [vi (gI s 239 k.toNatClampNeg)]) (h1 := xhp s) 4 (fun _ _ _ _ => rfl) g.1 ?_
  replace g := g.2
  refine xW.seg (pc1 := 10) (L1 := [(2, vi (gI s 239 k.toNatClampNeg)), (0, vr 12 230), (1, vi k)]) (st1 := [vi 81, vi (gI s 239 k.toNatClampNeg)]) (h1 := xhp s) 3 (fun _ _ _ _ => rfl) ?_
  suffices J : xW (xX0 xs Ls) p112 36 [(2, vi (gI s 239 k.toNatClampNeg)), (0, vr 12 230), (1, vi k)] [vi (zb ((decide ((gI s 239 k.toNatClampNeg) = 81)) || ((decide ((gI s 239 k.toNatClampNeg) = 83)) || ((decide ((gI s 239 k.toNatClampNeg) = 73)) || (decide ((gI s 239 k.toNatClampNeg) = 78))))))] (xhp s) Φ by
    refine xW.br (c := (gI s 239 k.toNatClampNeg) = 81) (pc1 := 31) (L1 := [(2, vi (gI s 239 k.toNatClampNeg)), (0, vr 12 230), (1, vi k)]) (st1 := []) (h1 := xhp s) (pc2 := 13) (L2 := [(2, vi (gI s 239 k.toNatClampNeg)), (0, vr 12 230), (1, vi k)]) (st2 := []) (h2 := xhp s) 1 (fun _ _ _ _ => rfl) (fun hc => ?_) (fun hc => ?_)
    · have hc1 : (gI s 239 k.toNatClampNeg) = 81 := hc
      refine xW.seg (pc1 := 36) (L1 := [(2, vi (gI s 239 k.toNatClampNeg)), (0, vr 12 230), (1, vi k)]) (st1 := [vi 1]) (h1 := xhp s) 2 (fun _ _ _ _ => rfl) ?_
      refine xW.to (v := vi (zb ((decide ((gI s 239 k.toNatClampNeg) = 81)) || ((decide ((gI s 239 k.toNatClampNeg) = 83)) || ((decide ((gI s 239 k.toNatClampNeg) = 73)) || (decide ((gI s 239 k.toNatClampNeg) = 78))))))) (zb_t (by simp only [decide_eq_true hc1, Bool.true_or, Bool.or_true, Bool.false_or, Bool.or_false, Bool.true_and, Bool.and_true, Bool.false_and, Bool.and_false, Bool.not_true, Bool.not_false, cond_true, cond_false])) ?_
      exact J
    · have hc1 : ¬ ((gI s 239 k.toNatClampNeg) = 81) := hc
      refine xW.br (c := (gI s 239 k.toNatClampNeg) = 83) (pc1 := 31) (L1 := [(2, vi (gI s 239 k.toNatClampNeg)), (0, vr 12 230), (1, vi k)]) (st1 := []) (h1 := xhp s) (pc2 := 19) (L2 := [(2, vi (gI s 239 k.toNatClampNeg)), (0, vr 12 230), (1, vi k)]) (st2 := []) (h2 := xhp s) 3 (fun _ _ _ _ => rfl) (fun hc => ?_) (fun hc => ?_)
      · have hc2 : (gI s 239 k.toNatClampNeg) = 83 := hc
        refine xW.seg (pc1 := 36) (L1 := [(2, vi (gI s 239 k.toNatClampNeg)), (0, vr 12 230), (1, vi k)]) (st1 := [vi 1]) (h1 := xhp s) 2 (fun _ _ _ _ => rfl) ?_
        refine xW.to (v := vi (zb ((decide ((gI s 239 k.toNatClampNeg) = 81)) || ((decide ((gI s 239 k.toNatClampNeg) = 83)) || ((decide ((gI s 239 k.toNatClampNeg) = 73)) || (decide ((gI s 239 k.toNatClampNeg) = 78))))))) (zb_t (by simp only [decide_eq_false hc1, decide_eq_true hc2, Bool.true_or, Bool.or_true, Bool.false_or, Bool.or_false, Bool.true_and, Bool.and_true, Bool.false_and, Bool.and_false, Bool.not_true, Bool.not_false, cond_true, cond_false])) ?_
        exact J
      · have hc2 : ¬ ((gI s 239 k.toNatClampNeg) = 83) := hc
        refine xW.br (c := (gI s 239 k.toNatClampNeg) = 73) (pc1 := 31) (L1 := [(2, vi (gI s 239 k.toNatClampNeg)), (0, vr 12 230), (1, vi k)]) (st1 := []) (h1 := xhp s) (pc2 := 25) (L2 := [(2, vi (gI s 239 k.toNatClampNeg)), (0, vr 12 230), (1, vi k)]) (st2 := []) (h2 := xhp s) 3 (fun _ _ _ _ => rfl) (fun hc => ?_) (fun hc => ?_)
        · have hc3 : (gI s 239 k.toNatClampNeg) = 73 := hc
          refine xW.seg (pc1 := 36) (L1 := [(2, vi (gI s 239 k.toNatClampNeg)), (0, vr 12 230), (1, vi k)]) (st1 := [vi 1]) (h1 := xhp s) 2 (fun _ _ _ _ => rfl) ?_
          refine xW.to (v := vi (zb ((decide ((gI s 239 k.toNatClampNeg) = 81)) || ((decide ((gI s 239 k.toNatClampNeg) = 83)) || ((decide ((gI s 239 k.toNatClampNeg) = 73)) || (decide ((gI s 239 k.toNatClampNeg) = 78))))))) (zb_t (by simp only [decide_eq_false hc1, decide_eq_false hc2, decide_eq_true hc3, Bool.true_or, Bool.or_true, Bool.false_or, Bool.or_false, Bool.true_and, Bool.and_true, Bool.false_and, Bool.and_false, Bool.not_true, Bool.not_false, cond_true, cond_false])) ?_
          exact J
        · have hc3 : ¬ ((gI s 239 k.toNatClampNeg) = 73) := hc
          refine xW.br (c := ¬ (gI s 239 k.toNatClampNeg) = 78) (pc1 := 35) (L1 := [(2, vi (gI s 239 k.toNatClampNeg)), (0, vr 12 230), (1, vi k)]) (st1 := []) (h1 := xhp s) (pc2 := 31) (L2 := [(2, vi (gI s 239 k.toNatClampNeg)), (0, vr 12 230), (1, vi k)]) (st2 := []) (h2 := xhp s) 3 (fun _ _ _ _ => rfl) (fun hc => ?_) (fun hc => ?_)
          · have hc4 : ¬ (gI s 239 k.toNatClampNeg) = 78 := hc
            refine xW.seg (pc1 := 36) (L1 := [(2, vi (gI s 239 k.toNatClampNeg)), (0, vr 12 230), (1, vi k)]) (st1 := [vi 0]) (h1 := xhp s) 1 (fun _ _ _ _ => rfl) ?_
            refine xW.to (v := vi (zb ((decide ((gI s 239 k.toNatClampNeg) = 81)) || ((decide ((gI s 239 k.toNatClampNeg) = 83)) || ((decide ((gI s 239 k.toNatClampNeg) = 73)) || (decide ((gI s 239 k.toNatClampNeg) = 78))))))) (zb_f (by simp only [decide_eq_false hc1, decide_eq_false hc2, decide_eq_false hc3, decide_eq_false hc4, Bool.true_or, Bool.or_true, Bool.false_or, Bool.or_false, Bool.true_and, Bool.and_true, Bool.false_and, Bool.and_false, Bool.not_true, Bool.not_false, cond_true, cond_false])) ?_
            exact J
          · have hc4 : (gI s 239 k.toNatClampNeg) = 78 := (Decidable.not_not.mp hc)
            refine xW.seg (pc1 := 36) (L1 := [(2, vi (gI s 239 k.toNatClampNeg)), (0, vr 12 230), (1, vi k)]) (st1 := [vi 1]) (h1 := xhp s) 2 (fun _ _ _ _ => rfl) ?_
            refine xW.to (v := vi (zb ((decide ((gI s 239 k.toNatClampNeg) = 81)) || ((decide ((gI s 239 k.toNatClampNeg) = 83)) || ((decide ((gI s 239 k.toNatClampNeg) = 73)) || (decide ((gI s 239 k.toNatClampNeg) = 78))))))) (zb_t (by simp only [decide_eq_false hc1, decide_eq_false hc2, decide_eq_false hc3, decide_eq_true hc4, Bool.true_or, Bool.or_true, Bool.false_or, Bool.or_false, Bool.true_and, Bool.and_true, Bool.false_and, Bool.and_false, Bool.not_true, Bool.not_false, cond_true, cond_false])) ?_
            exact J
  refine xW.br (c := ¬ (gI s 239 k.toNatClampNeg) = 61) (pc1 := 71) (L1 := [(3, vi (zb ((decide ((gI s 239 k.toNatClampNeg) = 81)) || ((decide ((gI s 239 k.toNatClampNeg) = 83)) || ((decide ((gI s 239 k.toNatClampNeg) = 73)) || (decide ((gI s 239 k.toNatClampNeg) = 78))))))), (2, vi (gI s 239 k.toNatClampNeg)), (0, vr 12 230), (1, vi k)]) (st1 := []) (h1 := xhp s) (pc2 := 43) (L2 := [(3, vi (zb ((decide ((gI s 239 k.toNatClampNeg) = 81)) || ((decide ((gI s 239 k.toNatClampNeg) = 83)) || ((decide ((gI s 239 k.toNatClampNeg) = 73)) || (decide ((gI s 239 k.toNatClampNeg) = 78))))))), (2, vi (gI s 239 k.toNatClampNeg)), (0, vr 12 230), (1, vi k)]) (st2 := []) (h2 := xhp s) 4 (fun _ _ _ _ => rfl) (fun hc => ?_) (fun hc => ?_)
  · replace g := g.1 hc
    refine xW.br (c := (gI s 230 33) = 0) (pc1 := 103) (L1 := [(3, vi (zb ((decide ((gI s 239 k.toNatClampNeg) = 81)) || ((decide ((gI s 239 k.toNatClampNeg) = 83)) || ((decide ((gI s 239 k.toNatClampNeg) = 73)) || (decide ((gI s 239 k.toNatClampNeg) = 78))))))), (2, vi (gI s 239 k.toNatClampNeg)), (0, vr 12 230), (1, vi k)]) (st1 := []) (h1 := xhp s) (pc2 := 78) (L2 := [(3, vi (zb ((decide ((gI s 239 k.toNatClampNeg) = 81)) || ((decide ((gI s 239 k.toNatClampNeg) = 83)) || ((decide ((gI s 239 k.toNatClampNeg) = 73)) || (decide ((gI s 239 k.toNatClampNeg) = 78))))))), (2, vi (gI s 239 k.toNatClampNeg)), (0, vr 12 230), (1, vi k)]) (st2 := []) (h2 := xhp s) 3 (fun _ _ _ _ => rfl) (fun hc => ?_) (fun hc => ?_)
    · replace g := g.1 hc
      exact xW.locs (L := [(0, vr 12 230), (2, vi (gI s 239 k.toNatClampNeg)), (3, vi (zb ((decide ((gI s 239 k.toNatClampNeg) = 81)) || ((decide ((gI s 239 k.toNatClampNeg) = 83)) || ((decide ((gI s 239 k.toNatClampNeg) = 73)) || (decide ((gI s 239 k.toNatClampNeg) = 78)))))))]) ⟨rfl, rfl, rfl, trivial⟩ rfl g
    · replace g := g.2 hc
      refine xW.call (y := 47) (as := [vi (gI s 239 k.toNatClampNeg)]) (h0 := xhp s) (pc0 := 79) (len := 3) (L0 := [(3, vi (zb ((decide ((gI s 239 k.toNatClampNeg) = 81)) || ((decide ((gI s 239 k.toNatClampNeg) = 83)) || ((decide ((gI s 239 k.toNatClampNeg) = 73)) || (decide ((gI s 239 k.toNatClampNeg) = 78))))))), (2, vi (gI s 239 k.toNatClampNeg)), (0, vr 12 230), (1, vi k)]) (rest := []) 2 (fun _ _ _ _ => rfl) (m47 _ _ ?_)
      show xW (xX0 xs Ls) p112 82 [(3, vi (zb ((decide ((gI s 239 k.toNatClampNeg) = 81)) || ((decide ((gI s 239 k.toNatClampNeg) = 83)) || ((decide ((gI s 239 k.toNatClampNeg) = 73)) || (decide ((gI s 239 k.toNatClampNeg) = 78))))))), (2, vi (gI s 239 k.toNatClampNeg)), (0, vr 12 230), (1, vi k)] [vi (zb (tm_begins (gI s 239 k.toNatClampNeg)))] (xhp s) Φ
      refine xW.br (c := ¬ (zb (tm_begins (gI s 239 k.toNatClampNeg))) = 0) (pc1 := 91) (L1 := [(3, vi (zb ((decide ((gI s 239 k.toNatClampNeg) = 81)) || ((decide ((gI s 239 k.toNatClampNeg) = 83)) || ((decide ((gI s 239 k.toNatClampNeg) = 73)) || (decide ((gI s 239 k.toNatClampNeg) = 78))))))), (2, vi (gI s 239 k.toNatClampNeg)), (0, vr 12 230), (1, vi k)]) (st1 := []) (h1 := xhp s) (pc2 := 85) (L2 := [(3, vi (zb ((decide ((gI s 239 k.toNatClampNeg) = 81)) || ((decide ((gI s 239 k.toNatClampNeg) = 83)) || ((decide ((gI s 239 k.toNatClampNeg) = 73)) || (decide ((gI s 239 k.toNatClampNeg) = 78))))))), (2, vi (gI s 239 k.toNatClampNeg)), (0, vr 12 230), (1, vi k)]) (st2 := []) (h2 := xhp s) 1 (fun _ _ _ _ => rfl) (fun hc => ?_) (fun hc => ?_)
      · replace g := g.1 (zb_ne0.mp hc)
        exact xW.locs (L := [(0, vr 12 230), (2, vi (gI s 239 k.toNatClampNeg))]) ⟨rfl, rfl, trivial⟩ rfl g
      · replace g := g.2 (zb_eq0.mp (Decidable.not_not.mp hc))
        refine xW.br (c := ¬ (gI s 239 k.toNatClampNeg) = 78) (pc1 := 103) (L1 := [(3, vi (zb ((decide ((gI s 239 k.toNatClampNeg) = 81)) || ((decide ((gI s 239 k.toNatClampNeg) = 83)) || ((decide ((gI s 239 k.toNatClampNeg) = 73)) || (decide ((gI s 239 k.toNatClampNeg) = 78))))))), (2, vi (gI s 239 k.toNatClampNeg)), (0, vr 12 230), (1, vi k)]) (st1 := []) (h1 := xhp s) (pc2 := 91) (L2 := [(3, vi (zb ((decide ((gI s 239 k.toNatClampNeg) = 81)) || ((decide ((gI s 239 k.toNatClampNeg) = 83)) || ((decide ((gI s 239 k.toNatClampNeg) = 73)) || (decide ((gI s 239 k.toNatClampNeg) = 78))))))), (2, vi (gI s 239 k.toNatClampNeg)), (0, vr 12 230), (1, vi k)]) (st2 := []) (h2 := xhp s) 3 (fun _ _ _ _ => rfl) (fun hc => ?_) (fun hc => ?_)
        · replace g := g.1 hc
          exact xW.locs (L := [(0, vr 12 230), (2, vi (gI s 239 k.toNatClampNeg)), (3, vi (zb ((decide ((gI s 239 k.toNatClampNeg) = 81)) || ((decide ((gI s 239 k.toNatClampNeg) = 83)) || ((decide ((gI s 239 k.toNatClampNeg) = 73)) || (decide ((gI s 239 k.toNatClampNeg) = 78)))))))]) ⟨rfl, rfl, rfl, trivial⟩ rfl g
        · replace g := g.2 (Decidable.not_not.mp hc)
          exact xW.locs (L := [(0, vr 12 230), (2, vi (gI s 239 k.toNatClampNeg))]) ⟨rfl, rfl, trivial⟩ rfl g
  · replace g := g.2 (Decidable.not_not.mp hc)
    refine xW.seg (pc1 := 50) (L1 := [(3, vi (zb ((decide ((gI s 239 k.toNatClampNeg) = 81)) || ((decide ((gI s 239 k.toNatClampNeg) = 83)) || ((decide ((gI s 239 k.toNatClampNeg) = 73)) || (decide ((gI s 239 k.toNatClampNeg) = 78))))))), (2, vi (gI s 239 k.toNatClampNeg)), (0, vr 12 230), (1, vi k)]) (st1 := [vi ((gI s 230 22) - 1), vi k]) (h1 := xhp s) 5 (fun _ _ _ _ => rfl) ?_
    suffices J : xW (xX0 xs Ls) p112 70 [(3, vi (zb ((decide ((gI s 239 k.toNatClampNeg) = 81)) || ((decide ((gI s 239 k.toNatClampNeg) = 83)) || ((decide ((gI s 239 k.toNatClampNeg) = 73)) || (decide ((gI s 239 k.toNatClampNeg) = 78))))))), (2, vi (gI s 239 k.toNatClampNeg)), (0, vr 12 230), (1, vi k)] [vi (if ((gI s 230 22) - 1) ≤ k then (if (gI s 230 32) = 1 then (5 : Int32) else 0) else 1)] (xhp s) Φ by
      refine xW.br (c := ((gI s 230 22) - 1) ≤ k) (pc1 := 57) (L1 := [(3, vi (zb ((decide ((gI s 239 k.toNatClampNeg) = 81)) || ((decide ((gI s 239 k.toNatClampNeg) = 83)) || ((decide ((gI s 239 k.toNatClampNeg) = 73)) || (decide ((gI s 239 k.toNatClampNeg) = 78))))))), (2, vi (gI s 239 k.toNatClampNeg)), (0, vr 12 230), (1, vi k)]) (st1 := []) (h1 := xhp s) (pc2 := 53) (L2 := [(3, vi (zb ((decide ((gI s 239 k.toNatClampNeg) = 81)) || ((decide ((gI s 239 k.toNatClampNeg) = 83)) || ((decide ((gI s 239 k.toNatClampNeg) = 73)) || (decide ((gI s 239 k.toNatClampNeg) = 78))))))), (2, vi (gI s 239 k.toNatClampNeg)), (0, vr 12 230), (1, vi k)]) (st2 := []) (h2 := xhp s) 1 (fun _ _ _ _ => rfl) (fun hc => ?_) (fun hc => ?_)
      · have hc5 : ((gI s 230 22) - 1) ≤ k := hc
        refine xW.br (c := ¬ (gI s 230 32) = 1) (pc1 := 69) (L1 := [(3, vi (zb ((decide ((gI s 239 k.toNatClampNeg) = 81)) || ((decide ((gI s 239 k.toNatClampNeg) = 83)) || ((decide ((gI s 239 k.toNatClampNeg) = 73)) || (decide ((gI s 239 k.toNatClampNeg) = 78))))))), (2, vi (gI s 239 k.toNatClampNeg)), (0, vr 12 230), (1, vi k)]) (st1 := []) (h1 := xhp s) (pc2 := 65) (L2 := [(3, vi (zb ((decide ((gI s 239 k.toNatClampNeg) = 81)) || ((decide ((gI s 239 k.toNatClampNeg) = 83)) || ((decide ((gI s 239 k.toNatClampNeg) = 73)) || (decide ((gI s 239 k.toNatClampNeg) = 78))))))), (2, vi (gI s 239 k.toNatClampNeg)), (0, vr 12 230), (1, vi k)]) (st2 := []) (h2 := xhp s) 4 (fun _ _ _ _ => rfl) (fun hc => ?_) (fun hc => ?_)
        · have hc6 : ¬ (gI s 230 32) = 1 := hc
          refine xW.seg (pc1 := 70) (L1 := [(3, vi (zb ((decide ((gI s 239 k.toNatClampNeg) = 81)) || ((decide ((gI s 239 k.toNatClampNeg) = 83)) || ((decide ((gI s 239 k.toNatClampNeg) = 73)) || (decide ((gI s 239 k.toNatClampNeg) = 78))))))), (2, vi (gI s 239 k.toNatClampNeg)), (0, vr 12 230), (1, vi k)]) (st1 := [vi 0]) (h1 := xhp s) 1 (fun _ _ _ _ => rfl) ?_
          refine xW.to (v := vi (if ((gI s 230 22) - 1) ≤ k then (if (gI s 230 32) = 1 then (5 : Int32) else 0) else 1)) ((congrArg vi ((if_pos hc5).trans (if_neg hc6))).symm) ?_
          exact J
        · have hc6 : (gI s 230 32) = 1 := (Decidable.not_not.mp hc)
          refine xW.seg (pc1 := 70) (L1 := [(3, vi (zb ((decide ((gI s 239 k.toNatClampNeg) = 81)) || ((decide ((gI s 239 k.toNatClampNeg) = 83)) || ((decide ((gI s 239 k.toNatClampNeg) = 73)) || (decide ((gI s 239 k.toNatClampNeg) = 78))))))), (2, vi (gI s 239 k.toNatClampNeg)), (0, vr 12 230), (1, vi k)]) (st1 := [vi 5]) (h1 := xhp s) 2 (fun _ _ _ _ => rfl) ?_
          refine xW.to (v := vi (if ((gI s 230 22) - 1) ≤ k then (if (gI s 230 32) = 1 then (5 : Int32) else 0) else 1)) ((congrArg vi ((if_pos hc5).trans (if_pos hc6))).symm) ?_
          exact J
      · have hc5 : ¬ (((gI s 230 22) - 1) ≤ k) := hc
        refine xW.seg (pc1 := 70) (L1 := [(3, vi (zb ((decide ((gI s 239 k.toNatClampNeg) = 81)) || ((decide ((gI s 239 k.toNatClampNeg) = 83)) || ((decide ((gI s 239 k.toNatClampNeg) = 73)) || (decide ((gI s 239 k.toNatClampNeg) = 78))))))), (2, vi (gI s 239 k.toNatClampNeg)), (0, vr 12 230), (1, vi k)]) (st1 := [vi 1]) (h1 := xhp s) 2 (fun _ _ _ _ => rfl) ?_
        refine xW.to (v := vi (if ((gI s 230 22) - 1) ≤ k then (if (gI s 230 32) = 1 then (5 : Int32) else 0) else 1)) ((congrArg vi (if_neg hc5)).symm) ?_
        exact J
    exact xW.ret (v0 := some (vi (if ((gI s 230 22) - 1) ≤ k then (if (gI s 230 32) = 1 then (5 : Int32) else 0) else 1))) (h1 := xhp s) 1 (fun _ _ _ _ => rfl) g
noncomputable def tm_translated_d (s : xS) (k : Int32) : Int32 × xS := (if ¬ (gI s 239 k.toNatClampNeg) = 61 then (if (gI s 230 33) = 0 then (tm_translated_103 s (gI s 239 k.toNatClampNeg) (zb ((decide ((gI s 239 k.toNatClampNeg) = 81)) || ((decide ((gI s 239 k.toNatClampNeg) = 83)) || ((decide ((gI s 239 k.toNatClampNeg) = 73)) || (decide ((gI s 239 k.toNatClampNeg) = 78))))))) else (if (tm_begins (gI s 239 k.toNatClampNeg)) = true then (tm_translated_91 s (gI s 239 k.toNatClampNeg)) else (if ¬ (gI s 239 k.toNatClampNeg) = 78 then (tm_translated_103 s (gI s 239 k.toNatClampNeg) (zb ((decide ((gI s 239 k.toNatClampNeg) = 81)) || ((decide ((gI s 239 k.toNatClampNeg) = 83)) || ((decide ((gI s 239 k.toNatClampNeg) = 73)) || (decide ((gI s 239 k.toNatClampNeg) = 78))))))) else (tm_translated_91 s (gI s 239 k.toNatClampNeg))))) else ((if ((gI s 230 22) - 1) ≤ k then (if (gI s 230 32) = 1 then (5 : Int32) else 0) else 1), s))
noncomputable def tm_translated : xS → Int32 → Int32 × xS := Classical.choose (⟨tm_translated_d, rfl⟩ : ∃ f, f = tm_translated_d)
set_option maxRecDepth 100000 in
theorem tm_translated_eq : tm_translated = tm_translated_d := Classical.choose_spec (⟨tm_translated_d, rfl⟩ : ∃ f, f = tm_translated_d)
def tm_translated_ok (s : xS) (k : Int32) : Prop := ((vp_in k 40) ∧ (¬ (gI s 239 k.toNatClampNeg) = 61 → (((gI s 230 33) = 0 → (tm_translated_103_ok s (gI s 239 k.toNatClampNeg) (zb ((decide ((gI s 239 k.toNatClampNeg) = 81)) || ((decide ((gI s 239 k.toNatClampNeg) = 83)) || ((decide ((gI s 239 k.toNatClampNeg) = 73)) || (decide ((gI s 239 k.toNatClampNeg) = 78)))))))) ∧ (¬ ((gI s 230 33) = 0) → (((tm_begins (gI s 239 k.toNatClampNeg)) = true → (tm_translated_91_ok s (gI s 239 k.toNatClampNeg))) ∧ ((tm_begins (gI s 239 k.toNatClampNeg)) = false → ((¬ (gI s 239 k.toNatClampNeg) = 78 → (tm_translated_103_ok s (gI s 239 k.toNatClampNeg) (zb ((decide ((gI s 239 k.toNatClampNeg) = 81)) || ((decide ((gI s 239 k.toNatClampNeg) = 83)) || ((decide ((gI s 239 k.toNatClampNeg) = 73)) || (decide ((gI s 239 k.toNatClampNeg) = 78)))))))) ∧ ((gI s 239 k.toNatClampNeg) = 78 → (tm_translated_91_ok s (gI s 239 k.toNatClampNeg))))))))))
set_option maxRecDepth 100000 in
theorem m112 {xs : Nat → Int32} {Ls : Nat} {Ψ : xO → xH → Prop} (s : xS) (k : Int32) (gq : tm_translated_ok s k) (h : Ψ (.inl (some (vi (tm_translated s k).1))) (xhp (tm_translated s k).2)) : xM (xX0 xs Ls) 112 [vr 12 230, vi k] (xhp s) Ψ := by
  rw [tm_translated_eq] at h
  unfold tm_translated_d at h
  unfold tm_translated_ok at gq
  exact xM.of (P := p112) rfl rfl rfl (b112_0 s k (⟨gq.1, by replace gq := gq.2; exact ⟨fun hc => by rw [if_pos hc] at h; replace gq := gq hc; exact ⟨fun hc => by rw [if_pos hc] at h; replace gq := gq.1 hc; exact n112_103 _ _ _ gq h, fun hc => by rw [if_neg hc] at h; replace gq := gq.2 hc; exact ⟨fun hc => by rw [if_pos hc] at h; replace gq := gq.1 hc; exact n112_91 _ _ gq h, fun hc => by rw [if_neg (by rw [hc]; decide)] at h; replace gq := gq.2 hc; exact ⟨fun hc => by rw [if_pos hc] at h; replace gq := gq.1 hc; exact n112_103 _ _ _ gq h, fun hc => by rw [if_neg (fun z => z hc)] at h; replace gq := gq.2 hc; exact n112_91 _ _ gq h⟩⟩⟩, fun hc => by rw [if_neg (fun z => z hc)] at h; exact (by (try dsimp only at h); exact h)⟩⟩))
/-! tm_translate -/
theorem b113_101 {xs : Nat → Int32} {Ls : Nat} {Φ : Option xV → xH → Prop} (s : xS) (x1 : Int32) (g : Φ (some (vi (if x1 ≤ 0 then (if x1 ≤ 0 then (gI s 230 24) else 0) else (-x1)))) (xhp (sI s 230 24 (if x1 ≤ 0 then (gI s 230 24) else 0)))) : xW (xX0 xs Ls) p113 101 [(0, vr 12 230), (1, vi x1)] [] (xhp s) Φ := by
  refine xW.seg (pc1 := 103) (L1 := [(0, vr 12 230), (1, vi x1)]) (st1 := [vi x1, vr 12 230]) (h1 := xhp s) 2 (fun _ _ _ _ => rfl) ?_
  suffices J : xW (xX0 xs Ls) p113 114 [(0, vr 12 230), (1, vi x1)] [vi (if x1 ≤ 0 then (gI s 230 24) else 0), vr 12 230] (xhp s) Φ by
    refine xW.br (c := x1 ≤ 0) (pc1 := 110) (L1 := [(0, vr 12 230), (1, vi x1)]) (st1 := [vr 12 230]) (h1 := xhp s) (pc2 := 106) (L2 := [(0, vr 12 230), (1, vi x1)]) (st2 := [vr 12 230]) (h2 := xhp s) 1 (fun _ _ _ _ => rfl) (fun hc => ?_) (fun hc => ?_)
    · have hc1 : x1 ≤ 0 := hc
      refine xW.seg (pc1 := 114) (L1 := [(0, vr 12 230), (1, vi x1)]) (st1 := [vi (gI s 230 24), vr 12 230]) (h1 := xhp s) 2 (fun _ _ _ _ => rfl) ?_
      refine xW.to (v := vi (if x1 ≤ 0 then (gI s 230 24) else 0)) ((congrArg vi (if_pos hc1)).symm) ?_
      exact J
    · have hc1 : ¬ (x1 ≤ 0) := hc
      refine xW.seg (pc1 := 114) (L1 := [(0, vr 12 230), (1, vi x1)]) (st1 := [vi 0, vr 12 230]) (h1 := xhp s) 2 (fun _ _ _ _ => rfl) ?_
      refine xW.to (v := vi (if x1 ≤ 0 then (gI s 230 24) else 0)) ((congrArg vi (if_neg hc1)).symm) ?_
      exact J
  refine xW.seg (pc1 := 118) (L1 := [(0, vr 12 230), (1, vi x1)]) (st1 := [vi x1]) (h1 := xhp (sI s 230 24 (if x1 ≤ 0 then (gI s 230 24) else 0))) 2 (fun _ _ _ _ => rfl) ?_
  suffices J : xW (xX0 xs Ls) p113 130 [(0, vr 12 230), (1, vi x1)] [vi (if x1 ≤ 0 then (if x1 ≤ 0 then (gI s 230 24) else 0) else (-x1))] (xhp (sI s 230 24 (if x1 ≤ 0 then (gI s 230 24) else 0))) Φ by
    refine xW.br (c := x1 ≤ 0) (pc1 := 126) (L1 := [(0, vr 12 230), (1, vi x1)]) (st1 := []) (h1 := xhp (sI s 230 24 (if x1 ≤ 0 then (gI s 230 24) else 0))) (pc2 := 121) (L2 := [(0, vr 12 230), (1, vi x1)]) (st2 := []) (h2 := xhp (sI s 230 24 (if x1 ≤ 0 then (gI s 230 24) else 0))) 1 (fun _ _ _ _ => rfl) (fun hc => ?_) (fun hc => ?_)
    · have hc2 : x1 ≤ 0 := hc
      refine xW.seg (pc1 := 130) (L1 := [(0, vr 12 230), (1, vi x1)]) (st1 := [vi (if x1 ≤ 0 then (gI s 230 24) else 0)]) (h1 := xhp (sI s 230 24 (if x1 ≤ 0 then (gI s 230 24) else 0))) 2 (fun _ _ _ _ => rfl) ?_
      refine xW.to (v := vi (if x1 ≤ 0 then (if x1 ≤ 0 then (gI s 230 24) else 0) else (-x1))) ((congrArg vi (if_pos hc2)).symm) ?_
      exact J
    · have hc2 : ¬ (x1 ≤ 0) := hc
      refine xW.seg (pc1 := 130) (L1 := [(0, vr 12 230), (1, vi x1)]) (st1 := [vi (-x1)]) (h1 := xhp (sI s 230 24 (if x1 ≤ 0 then (gI s 230 24) else 0))) 3 (fun _ _ _ _ => rfl) ?_
      refine xW.to (v := vi (if x1 ≤ 0 then (if x1 ≤ 0 then (gI s 230 24) else 0) else (-x1))) ((congrArg vi (if_neg hc2)).symm) ?_
      exact J
  exact xW.ret (v0 := some (vi (if x1 ≤ 0 then (if x1 ≤ 0 then (gI s 230 24) else 0) else (-x1)))) (h1 := xhp (sI s 230 24 (if x1 ≤ 0 then (gI s 230 24) else 0))) 1 (fun _ _ _ _ => rfl) g
noncomputable def tm_translate_101_d (s : xS) (x1 : Int32) : Int32 × xS := ((if x1 ≤ 0 then (if x1 ≤ 0 then (gI s 230 24) else 0) else (-x1)), (sI s 230 24 (if x1 ≤ 0 then (gI s 230 24) else 0)))
noncomputable def tm_translate_101 : xS → Int32 → Int32 × xS := Classical.choose (⟨tm_translate_101_d, rfl⟩ : ∃ f, f = tm_translate_101_d)
set_option maxRecDepth 100000 in
theorem tm_translate_101_eq : tm_translate_101 = tm_translate_101_d := Classical.choose_spec (⟨tm_translate_101_d, rfl⟩ : ∃ f, f = tm_translate_101_d)
set_option maxRecDepth 100000 in
theorem n113_101 {xs : Nat → Int32} {Ls : Nat} {Φ : Option xV → xH → Prop} (s : xS) (x1 : Int32) (h : Φ (some (vi (tm_translate_101 s x1).1)) (xhp (tm_translate_101 s x1).2)) : xW (xX0 xs Ls) p113 101 [(0, vr 12 230), (1, vi x1)] [] (xhp s) Φ := by
  rw [tm_translate_101_eq] at h
  unfold tm_translate_101_d at h
  exact b113_101 s x1 ((by (try dsimp only at h); exact h))
set_option maxRecDepth 100000 in
theorem b113_83 {xs : Nat → Int32} {Ls : Nat} {Φ : Option xV → xH → Prop} (s : xS) (x1 : Int32) (g : ((¬ x1 = 0 → xW (xX0 xs Ls) p113 101 [(0, vr 12 230), (1, vi x1)] [] (xhp s) Φ) ∧ (x1 = 0 → (((gI s 230 26) ≤ 0 → xW (xX0 xs Ls) p113 101 [(0, vr 12 230), (1, vi x1)] [] (xhp s) Φ) ∧ (¬ ((gI s 230 26) ≤ 0) → ((tm_shut_ok s) ∧ xW (xX0 xs Ls) p113 83 [(0, vr 12 230), (1, vi x1)] [] (xhp (tm_shut s)) Φ)))))) : xW (xX0 xs Ls) p113 83 [(0, vr 12 230), (1, vi x1)] [] (xhp s) Φ := by
  refine xW.br (c := ¬ x1 = 0) (pc1 := 101) (L1 := [(0, vr 12 230), (1, vi x1)]) (st1 := []) (h1 := xhp s) (pc2 := 87) (L2 := [(0, vr 12 230), (1, vi x1)]) (st2 := []) (h2 := xhp s) 2 (fun _ _ _ _ => rfl) (fun hc => ?_) (fun hc => ?_)
  · replace g := g.1 hc
    exact g
  · replace g := g.2 (Decidable.not_not.mp hc)
    refine xW.br (c := (gI s 230 26) ≤ 0) (pc1 := 101) (L1 := [(0, vr 12 230), (1, vi x1)]) (st1 := []) (h1 := xhp s) (pc2 := 94) (L2 := [(0, vr 12 230), (1, vi x1)]) (st2 := []) (h2 := xhp s) 3 (fun _ _ _ _ => rfl) (fun hc => ?_) (fun hc => ?_)
    · replace g := g.1 hc
      exact g
    · replace g := g.2 hc
      refine xW.call (y := 108) (as := [vr 12 230]) (h0 := xhp s) (pc0 := 95) (len := 3) (L0 := [(0, vr 12 230), (1, vi x1)]) (rest := []) 2 (fun _ _ _ _ => rfl) (m108 _ g.1 ?_)
      show xW (xX0 xs Ls) p113 98 [(0, vr 12 230), (1, vi x1)] [] (xhp (tm_shut s)) Φ
      replace g := g.2
      refine xW.seg (pc1 := 83) (L1 := [(0, vr 12 230), (1, vi x1)]) (st1 := []) (h1 := xhp (tm_shut s)) 1 (fun _ _ _ _ => rfl) ?_
      exact g
noncomputable def tm_translate_83 : Nat → xS → Int32 → Int32 × xS
  | 0, s, _ => (0, s)
  | n + 1, s, x1 => (if ¬ x1 = 0 then (tm_translate_101 s x1) else (if (gI s 230 26) ≤ 0 then (tm_translate_101 s x1) else (tm_translate_83 n (tm_shut s) x1)))
def tm_translate_83_ok : Nat → xS → Int32 → Prop
  | 0, _, _ => False
  | n + 1, s, x1 => (x1 = 0 → (¬ ((gI s 230 26) ≤ 0) → ((tm_shut_ok s) ∧ (tm_translate_83_ok n (tm_shut s) x1))))
set_option maxRecDepth 100000 in
theorem n113_83 {xs : Nat → Int32} {Ls : Nat} {Φ : Option xV → xH → Prop} : ∀ (n : Nat) (s : xS) (x1 : Int32), tm_translate_83_ok n s x1 → Φ (some (vi (tm_translate_83 n s x1).1)) (xhp (tm_translate_83 n s x1).2) → xW (xX0 xs Ls) p113 83 [(0, vr 12 230), (1, vi x1)] [] (xhp s) Φ := by
  intro n
  induction n with
  | zero => intro s _ gq; exact gq.elim
  | succ n ih =>
    intro s x1 gq h
    unfold tm_translate_83_ok at gq
    unfold tm_translate_83 at h
    exact b113_83 s x1 (⟨fun hc => by rw [if_pos hc] at h; exact n113_101 _ _ h, fun hc => by rw [if_neg (fun z => z hc)] at h; replace gq := gq hc; exact ⟨fun hc => by rw [if_pos hc] at h; exact n113_101 _ _ h, fun hc => by rw [if_neg hc] at h; replace gq := gq hc; exact ⟨gq.1, by replace gq := gq.2; exact ih _ _ gq h⟩⟩⟩)
set_option maxRecDepth 100000 in
theorem b113_58 {xs : Nat → Int32} {Ls : Nat} {Φ : Option xV → xH → Prop} (s : xS) (x1 : Int32) (g : ((¬ x1 = 0 → xW (xX0 xs Ls) p113 83 [(0, vr 12 230), (1, vi x1)] [] (xhp s) Φ) ∧ (x1 = 0 → ((¬ (gI s 230 32) = 2 → xW (xX0 xs Ls) p113 83 [(0, vr 12 230), (1, vi 5)] [] (xhp s) Φ) ∧ ((gI s 230 32) = 2 → ((tm_numbersInRow_ok s) ∧ (((gI s 230 26) ≤ (tm_numbersInRow s) → xW (xX0 xs Ls) p113 83 [(0, vr 12 230), (1, vi x1)] [] (xhp s) Φ) ∧ (¬ ((gI s 230 26) ≤ (tm_numbersInRow s)) → xW (xX0 xs Ls) p113 83 [(0, vr 12 230), (1, vi 5)] [] (xhp s) Φ)))))))) : xW (xX0 xs Ls) p113 58 [(0, vr 12 230), (1, vi x1)] [] (xhp s) Φ := by
  refine xW.br (c := ¬ x1 = 0) (pc1 := 83) (L1 := [(0, vr 12 230), (1, vi x1)]) (st1 := []) (h1 := xhp s) (pc2 := 62) (L2 := [(0, vr 12 230), (1, vi x1)]) (st2 := []) (h2 := xhp s) 2 (fun _ _ _ _ => rfl) (fun hc => ?_) (fun hc => ?_)
  · replace g := g.1 hc
    exact g
  · replace g := g.2 (Decidable.not_not.mp hc)
    refine xW.br (c := ¬ (gI s 230 32) = 2) (pc1 := 81) (L1 := [(0, vr 12 230), (1, vi x1)]) (st1 := []) (h1 := xhp s) (pc2 := 70) (L2 := [(0, vr 12 230), (1, vi x1)]) (st2 := []) (h2 := xhp s) 4 (fun _ _ _ _ => rfl) (fun hc => ?_) (fun hc => ?_)
    · replace g := g.1 hc
      refine xW.seg (pc1 := 83) (L1 := [(1, vi 5), (0, vr 12 230)]) (st1 := []) (h1 := xhp s) 2 (fun _ _ _ _ => rfl) ?_
      exact xW.locs (L := [(0, vr 12 230), (1, vi 5)]) ⟨rfl, rfl, trivial⟩ rfl g
    · replace g := g.2 (Decidable.not_not.mp hc)
      refine xW.call (y := 107) (as := [vr 12 230]) (h0 := xhp s) (pc0 := 71) (len := 3) (L0 := [(0, vr 12 230), (1, vi x1)]) (rest := []) 2 (fun _ _ _ _ => rfl) (m107 _ g.1 ?_)
      show xW (xX0 xs Ls) p113 74 [(0, vr 12 230), (1, vi x1)] [vi (tm_numbersInRow s)] (xhp s) Φ
      replace g := g.2
      refine xW.br (c := (gI s 230 26) ≤ (tm_numbersInRow s)) (pc1 := 83) (L1 := [(0, vr 12 230), (1, vi x1)]) (st1 := []) (h1 := xhp s) (pc2 := 81) (L2 := [(0, vr 12 230), (1, vi x1)]) (st2 := []) (h2 := xhp s) 3 (fun _ _ _ _ => rfl) (fun hc => ?_) (fun hc => ?_)
      · replace g := g.1 hc
        exact g
      · replace g := g.2 hc
        refine xW.seg (pc1 := 83) (L1 := [(1, vi 5), (0, vr 12 230)]) (st1 := []) (h1 := xhp s) 2 (fun _ _ _ _ => rfl) ?_
        exact xW.locs (L := [(0, vr 12 230), (1, vi 5)]) ⟨rfl, rfl, trivial⟩ rfl g
noncomputable def tm_translate_58_d (s : xS) (x1 : Int32) : Int32 × xS := (if ¬ x1 = 0 then (tm_translate_83 xfu s x1) else (if ¬ (gI s 230 32) = 2 then (tm_translate_83 xfu s 5) else (if (gI s 230 26) ≤ (tm_numbersInRow s) then (tm_translate_83 xfu s x1) else (tm_translate_83 xfu s 5))))
noncomputable def tm_translate_58 : xS → Int32 → Int32 × xS := Classical.choose (⟨tm_translate_58_d, rfl⟩ : ∃ f, f = tm_translate_58_d)
set_option maxRecDepth 100000 in
theorem tm_translate_58_eq : tm_translate_58 = tm_translate_58_d := Classical.choose_spec (⟨tm_translate_58_d, rfl⟩ : ∃ f, f = tm_translate_58_d)
def tm_translate_58_ok (s : xS) (x1 : Int32) : Prop := ((¬ x1 = 0 → (tm_translate_83_ok xfu s x1)) ∧ (x1 = 0 → ((¬ (gI s 230 32) = 2 → (tm_translate_83_ok xfu s 5)) ∧ ((gI s 230 32) = 2 → ((tm_numbersInRow_ok s) ∧ (((gI s 230 26) ≤ (tm_numbersInRow s) → (tm_translate_83_ok xfu s x1)) ∧ (¬ ((gI s 230 26) ≤ (tm_numbersInRow s)) → (tm_translate_83_ok xfu s 5))))))))
set_option maxRecDepth 100000 in
theorem n113_58 {xs : Nat → Int32} {Ls : Nat} {Φ : Option xV → xH → Prop} (s : xS) (x1 : Int32) (gq : tm_translate_58_ok s x1) (h : Φ (some (vi (tm_translate_58 s x1).1)) (xhp (tm_translate_58 s x1).2)) : xW (xX0 xs Ls) p113 58 [(0, vr 12 230), (1, vi x1)] [] (xhp s) Φ := by
  rw [tm_translate_58_eq] at h
  unfold tm_translate_58_d at h
  unfold tm_translate_58_ok at gq
  exact b113_58 s x1 (⟨fun hc => by rw [if_pos hc] at h; replace gq := gq.1 hc; exact n113_83 _ _ _ gq h, fun hc => by rw [if_neg (fun z => z hc)] at h; replace gq := gq.2 hc; exact ⟨fun hc => by rw [if_pos hc] at h; replace gq := gq.1 hc; exact n113_83 _ _ _ gq h, fun hc => by rw [if_neg (fun z => z hc)] at h; replace gq := gq.2 hc; exact ⟨gq.1, by replace gq := gq.2; exact ⟨fun hc => by rw [if_pos hc] at h; replace gq := gq.1 hc; exact n113_83 _ _ _ gq h, fun hc => by rw [if_neg hc] at h; replace gq := gq.2 hc; exact n113_83 _ _ _ gq h⟩⟩⟩⟩)
set_option maxRecDepth 100000 in
theorem b113_34 {xs : Nat → Int32} {Ls : Nat} {Φ : Option xV → xH → Prop} (s : xS) (x1 : Int32) (x2 : Int32) (g : (((gI s 230 22) ≤ x2 → xW (xX0 xs Ls) p113 58 [(0, vr 12 230), (1, vi x1)] [] (xhp s) Φ) ∧ (¬ ((gI s 230 22) ≤ x2) → ((¬ x1 = 0 → xW (xX0 xs Ls) p113 58 [(0, vr 12 230), (1, vi x1)] [] (xhp s) Φ) ∧ (x1 = 0 → ((tm_translated_ok s x2) ∧ xW (xX0 xs Ls) p113 34 [(0, vr 12 230), (1, vi ((tm_translated s x2).1)), (2, vi (x2 + 1))] [] (xhp ((tm_translated s x2).2)) Φ)))))) : xW (xX0 xs Ls) p113 34 [(0, vr 12 230), (1, vi x1), (2, vi x2)] [] (xhp s) Φ := by
  refine xW.br (c := (gI s 230 22) ≤ x2) (pc1 := 58) (L1 := [(0, vr 12 230), (1, vi x1), (2, vi x2)]) (st1 := []) (h1 := xhp s) (pc2 := 42) (L2 := [(0, vr 12 230), (1, vi x1), (2, vi x2)]) (st2 := []) (h2 := xhp s) 4 (fun _ _ _ _ => rfl) (fun hc => ?_) (fun hc => ?_)
  · replace g := g.1 hc
    exact xW.locs (L := [(0, vr 12 230), (1, vi x1)]) ⟨rfl, rfl, trivial⟩ rfl g
  · replace g := g.2 hc
    refine xW.br (c := ¬ x1 = 0) (pc1 := 58) (L1 := [(0, vr 12 230), (1, vi x1), (2, vi x2)]) (st1 := []) (h1 := xhp s) (pc2 := 46) (L2 := [(0, vr 12 230), (1, vi x1), (2, vi x2)]) (st2 := []) (h2 := xhp s) 2 (fun _ _ _ _ => rfl) (fun hc => ?_) (fun hc => ?_)
    · replace g := g.1 hc
      exact xW.locs (L := [(0, vr 12 230), (1, vi x1)]) ⟨rfl, rfl, trivial⟩ rfl g
    · replace g := g.2 (Decidable.not_not.mp hc)
      refine xW.call (y := 112) (as := [vr 12 230, vi x2]) (h0 := xhp s) (pc0 := 48) (len := 3) (L0 := [(0, vr 12 230), (1, vi x1), (2, vi x2)]) (rest := []) 3 (fun _ _ _ _ => rfl) (m112 _ _ g.1 ?_)
      show xW (xX0 xs Ls) p113 51 [(0, vr 12 230), (1, vi x1), (2, vi x2)] [vi ((tm_translated s x2).1)] (xhp ((tm_translated s x2).2)) Φ
      replace g := g.2
      refine xW.seg (pc1 := 34) (L1 := [(2, vi (x2 + 1)), (1, vi ((tm_translated s x2).1)), (0, vr 12 230)]) (st1 := []) (h1 := xhp ((tm_translated s x2).2)) 3 (fun _ _ _ _ => rfl) ?_
      exact xW.locs (L := [(0, vr 12 230), (1, vi ((tm_translated s x2).1)), (2, vi (x2 + 1))]) ⟨rfl, rfl, rfl, trivial⟩ rfl g
noncomputable def tm_translate_34 : Nat → xS → Int32 → Int32 → Int32 × xS
  | 0, s, _, _ => (0, s)
  | n + 1, s, x1, x2 => (if (gI s 230 22) ≤ x2 then (tm_translate_58 s x1) else (if ¬ x1 = 0 then (tm_translate_58 s x1) else (tm_translate_34 n ((tm_translated s x2).2) ((tm_translated s x2).1) (x2 + 1))))
def tm_translate_34_ok : Nat → xS → Int32 → Int32 → Prop
  | 0, _, _, _ => False
  | n + 1, s, x1, x2 => (((gI s 230 22) ≤ x2 → (tm_translate_58_ok s x1)) ∧ (¬ ((gI s 230 22) ≤ x2) → ((¬ x1 = 0 → (tm_translate_58_ok s x1)) ∧ (x1 = 0 → ((tm_translated_ok s x2) ∧ (tm_translate_34_ok n ((tm_translated s x2).2) ((tm_translated s x2).1) (x2 + 1)))))))
set_option maxRecDepth 100000 in
theorem n113_34 {xs : Nat → Int32} {Ls : Nat} {Φ : Option xV → xH → Prop} : ∀ (n : Nat) (s : xS) (x1 : Int32) (x2 : Int32), tm_translate_34_ok n s x1 x2 → Φ (some (vi (tm_translate_34 n s x1 x2).1)) (xhp (tm_translate_34 n s x1 x2).2) → xW (xX0 xs Ls) p113 34 [(0, vr 12 230), (1, vi x1), (2, vi x2)] [] (xhp s) Φ := by
  intro n
  induction n with
  | zero => intro s _ _ gq; exact gq.elim
  | succ n ih =>
    intro s x1 x2 gq h
    unfold tm_translate_34_ok at gq
    unfold tm_translate_34 at h
    exact b113_34 s x1 x2 (⟨fun hc => by rw [if_pos hc] at h; replace gq := gq.1 hc; exact n113_58 _ _ gq h, fun hc => by rw [if_neg hc] at h; replace gq := gq.2 hc; exact ⟨fun hc => by rw [if_pos hc] at h; replace gq := gq.1 hc; exact n113_58 _ _ gq h, fun hc => by rw [if_neg (fun z => z hc)] at h; replace gq := gq.2 hc; exact ⟨gq.1, by replace gq := gq.2; exact ih _ _ _ gq h⟩⟩⟩)
set_option maxRecDepth 100000 in
theorem b113_0 {xs : Nat → Int32} {Ls : Nat} {Φ : Option xV → xH → Prop} (s : xS) (g : xW (xX0 xs Ls) p113 34 [(0, vr 12 230), (1, vi 0), (2, vi 0)] [] (xhp (sI (sI (sI (sI (sI (sI s 230 0 0) 230 24 0) 230 26 0) 230 32 0) 230 33 0) 230 27 0)) Φ) : xW (xX0 xs Ls) p113 0 [(0, vr 12 230)] [] (xhp s) Φ := by
  refine xW.side (c := (0 : Int32) = 0 ∨ (0 : Int32) = 1) (pc1 := 25) (L1 := [(0, vr 12 230)]) (st1 := []) (h1 := xhp (sI (sI (sI (sI (sI s 230 0 0) 230 24 0) 230 26 0) 230 32 0) 230 33 0)) 15 (fun _ _ _ _ => rfl) (Or.inl rfl) ?_
  refine xW.side (c := (0 : Int32) = 0 ∨ (0 : Int32) = 1) (pc1 := 30) (L1 := [(0, vr 12 230)]) (st1 := []) (h1 := xhp (sI (sI (sI (sI (sI (sI s 230 0 0) 230 24 0) 230 26 0) 230 32 0) 230 33 0) 230 27 0)) 3 (fun _ _ _ _ => rfl) (Or.inl rfl) ?_
  refine xW.seg (pc1 := 34) (L1 := [(2, vi 0), (1, vi 0), (0, vr 12 230)]) (st1 := []) (h1 := xhp (sI (sI (sI (sI (sI (sI s 230 0 0) 230 24 0) 230 26 0) 230 32 0) 230 33 0) 230 27 0)) 4 (fun _ _ _ _ => rfl) ?_
  exact xW.locs (L := [(0, vr 12 230), (1, vi 0), (2, vi 0)]) ⟨rfl, rfl, rfl, trivial⟩ rfl g
noncomputable def tm_translate_d (s : xS) : Int32 × xS := (tm_translate_34 xfu (sI (sI (sI (sI (sI (sI s 230 0 0) 230 24 0) 230 26 0) 230 32 0) 230 33 0) 230 27 0) 0 0)
noncomputable def tm_translate : xS → Int32 × xS := Classical.choose (⟨tm_translate_d, rfl⟩ : ∃ f, f = tm_translate_d)
set_option maxRecDepth 100000 in
theorem tm_translate_eq : tm_translate = tm_translate_d := Classical.choose_spec (⟨tm_translate_d, rfl⟩ : ∃ f, f = tm_translate_d)
def tm_translate_ok (s : xS) : Prop := (tm_translate_34_ok xfu (sI (sI (sI (sI (sI (sI s 230 0 0) 230 24 0) 230 26 0) 230 32 0) 230 33 0) 230 27 0) 0 0)
set_option maxRecDepth 100000 in
theorem m113 {xs : Nat → Int32} {Ls : Nat} {Ψ : xO → xH → Prop} (s : xS) (gq : tm_translate_ok s) (h : Ψ (.inl (some (vi (tm_translate s).1))) (xhp (tm_translate s).2)) : xM (xX0 xs Ls) 113 [vr 12 230] (xhp s) Ψ := by
  rw [tm_translate_eq] at h
  unfold tm_translate_d at h
  unfold tm_translate_ok at gq
  exact xM.of (P := p113) rfl rfl rfl (b113_0 s (n113_34 _ _ _ _ gq h))
/-! tm_out -/
theorem b114_0 {xs : Nat → Int32} {Ls : Nat} {Φ : Option xV → xH → Prop} (s : xS) (i : Int32) (g : (((zb ((decide (i < 0)) || (!decide (i < (gI s 230 24))))) ≤ 0 → ((vp_in i 100) ∧ Φ (some (vi (gI s 240 i.toNatClampNeg))) (xhp (sI s 230 0 (zb ((decide (i < 0)) || (!decide (i < (gI s 230 24))))))))) ∧ (¬ ((zb ((decide (i < 0)) || (!decide (i < (gI s 230 24))))) ≤ 0) → Φ (some (vi 0)) (xhp (sI s 230 0 (zb ((decide (i < 0)) || (!decide (i < (gI s 230 24)))))))))) : xW (xX0 xs Ls) p114 0 [(0, vr 12 230), (1, vi i)] [] (xhp s) Φ := by
  refine xW.seg (pc1 := 2) (L1 := [(0, vr 12 230), (1, vi i)]) (st1 := [vi i, vr 12 230]) (h1 := xhp s) 2 (fun _ _ _ _ => rfl) ?_
  suffices J : xW (xX0 xs Ls) p114 18 [(0, vr 12 230), (1, vi i)] [vi (zb ((decide (i < 0)) || (!decide (i < (gI s 230 24))))), vr 12 230] (xhp s) Φ by
    refine xW.br (c := i < 0) (pc1 := 13) (L1 := [(0, vr 12 230), (1, vi i)]) (st1 := [vr 12 230]) (h1 := xhp s) (pc2 := 5) (L2 := [(0, vr 12 230), (1, vi i)]) (st2 := [vr 12 230]) (h2 := xhp s) 1 (fun _ _ _ _ => rfl) (fun hc => ?_) (fun hc => ?_)
    · have hc1 : i < 0 := hc
      refine xW.seg (pc1 := 18) (L1 := [(0, vr 12 230), (1, vi i)]) (st1 := [vi 1, vr 12 230]) (h1 := xhp s) 2 (fun _ _ _ _ => rfl) ?_
      refine xW.to (v := vi (zb ((decide (i < 0)) || (!decide (i < (gI s 230 24)))))) (zb_t (by simp only [decide_eq_true hc1, Bool.true_or, Bool.or_true, Bool.false_or, Bool.or_false, Bool.true_and, Bool.and_true, Bool.false_and, Bool.and_false, Bool.not_true, Bool.not_false, cond_true, cond_false])) ?_
      exact J
    · have hc1 : ¬ (i < 0) := hc
      refine xW.br (c := i < (gI s 230 24)) (pc1 := 17) (L1 := [(0, vr 12 230), (1, vi i)]) (st1 := [vr 12 230]) (h1 := xhp s) (pc2 := 13) (L2 := [(0, vr 12 230), (1, vi i)]) (st2 := [vr 12 230]) (h2 := xhp s) 4 (fun _ _ _ _ => rfl) (fun hc => ?_) (fun hc => ?_)
      · have hc2 : i < (gI s 230 24) := hc
        refine xW.seg (pc1 := 18) (L1 := [(0, vr 12 230), (1, vi i)]) (st1 := [vi 0, vr 12 230]) (h1 := xhp s) 1 (fun _ _ _ _ => rfl) ?_
        refine xW.to (v := vi (zb ((decide (i < 0)) || (!decide (i < (gI s 230 24)))))) (zb_f (by simp only [decide_eq_false hc1, decide_eq_true hc2, Bool.true_or, Bool.or_true, Bool.false_or, Bool.or_false, Bool.true_and, Bool.and_true, Bool.false_and, Bool.and_false, Bool.not_true, Bool.not_false, cond_true, cond_false])) ?_
        exact J
      · have hc2 : ¬ (i < (gI s 230 24)) := hc
        refine xW.seg (pc1 := 18) (L1 := [(0, vr 12 230), (1, vi i)]) (st1 := [vi 1, vr 12 230]) (h1 := xhp s) 2 (fun _ _ _ _ => rfl) ?_
        refine xW.to (v := vi (zb ((decide (i < 0)) || (!decide (i < (gI s 230 24)))))) (zb_t (by simp only [decide_eq_false hc1, decide_eq_false hc2, Bool.true_or, Bool.or_true, Bool.false_or, Bool.or_false, Bool.true_and, Bool.and_true, Bool.false_and, Bool.and_false, Bool.not_true, Bool.not_false, cond_true, cond_false])) ?_
        exact J
  refine xW.br (c := (zb ((decide (i < 0)) || (!decide (i < (gI s 230 24))))) ≤ 0) (pc1 := 32) (L1 := [(0, vr 12 230), (1, vi i)]) (st1 := []) (h1 := xhp (sI s 230 0 (zb ((decide (i < 0)) || (!decide (i < (gI s 230 24))))))) (pc2 := 28) (L2 := [(0, vr 12 230), (1, vi i)]) (st2 := []) (h2 := xhp (sI s 230 0 (zb ((decide (i < 0)) || (!decide (i < (gI s 230 24))))))) 4 (fun _ _ _ _ => rfl) (fun hc => ?_) (fun hc => ?_)
  · replace g := g.1 hc
    refine xW.side (c := vp_in i 100) (pc1 := 38) (L1 := [(0, vr 12 230), (1, vi i)]) (st1 := [vi (gI s 240 i.toNatClampNeg)]) (h1 := xhp (sI s 230 0 (zb ((decide (i < 0)) || (!decide (i < (gI s 230 24))))))) 4 (fun _ _ _ _ => rfl) g.1 ?_
    replace g := g.2
    exact xW.ret (v0 := some (vi (gI s 240 i.toNatClampNeg))) (h1 := xhp (sI s 230 0 (zb ((decide (i < 0)) || (!decide (i < (gI s 230 24))))))) 1 (fun _ _ _ _ => rfl) g
  · replace g := g.2 hc
    exact xW.ret (v0 := some (vi 0)) (h1 := xhp (sI s 230 0 (zb ((decide (i < 0)) || (!decide (i < (gI s 230 24))))))) 3 (fun _ _ _ _ => rfl) g
noncomputable def tm_out_d (s : xS) (i : Int32) : Int32 × xS := (if (zb ((decide (i < 0)) || (!decide (i < (gI s 230 24))))) ≤ 0 then ((gI s 240 i.toNatClampNeg), (sI s 230 0 (zb ((decide (i < 0)) || (!decide (i < (gI s 230 24))))))) else (0, (sI s 230 0 (zb ((decide (i < 0)) || (!decide (i < (gI s 230 24))))))))
noncomputable def tm_out : xS → Int32 → Int32 × xS := Classical.choose (⟨tm_out_d, rfl⟩ : ∃ f, f = tm_out_d)
set_option maxRecDepth 100000 in
theorem tm_out_eq : tm_out = tm_out_d := Classical.choose_spec (⟨tm_out_d, rfl⟩ : ∃ f, f = tm_out_d)
def tm_out_ok (s : xS) (i : Int32) : Prop := ((zb ((decide (i < 0)) || (!decide (i < (gI s 230 24))))) ≤ 0 → (vp_in i 100))
set_option maxRecDepth 100000 in
theorem m114 {xs : Nat → Int32} {Ls : Nat} {Ψ : xO → xH → Prop} (s : xS) (i : Int32) (gq : tm_out_ok s i) (h : Ψ (.inl (some (vi (tm_out s i).1))) (xhp (tm_out s i).2)) : xM (xX0 xs Ls) 114 [vr 12 230, vi i] (xhp s) Ψ := by
  rw [tm_out_eq] at h
  unfold tm_out_d at h
  unfold tm_out_ok at gq
  exact xM.of (P := p114) rfl rfl rfl (b114_0 s i (⟨fun hc => by rw [if_pos hc] at h; replace gq := gq hc; exact ⟨gq, (by (try dsimp only at h); exact h)⟩, fun hc => by rw [if_neg hc] at h; exact (by (try dsimp only at h); exact h)⟩))
