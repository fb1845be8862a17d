/-! ar_round -/
theorem b123_130 {xs : Nat → Int32} {Ls : Nat} {Φ : Option xV → xH → Prop} (s : xS) (a : Nat) (x3 : Int64) (x5 : Int32) (g : ((x5 ≤ 99 → (((-99) ≤ x5 → Φ (some (vi 0)) (xhp (sI (sJ s a 0 (if (gI s 31 0) = 0 then x3 else (-x3))) a 1 x5))) ∧ (¬ ((-99) ≤ x5) → Φ (some (vi 0)) (xhp (de_clear s a))))) ∧ (¬ (x5 ≤ 99) → Φ (some (vi 2)) (xhp s)))) : xW (xX0 xs Ls) p123 130 [(0, vr 6 31), (1, vr 5 a), (3, vl x3), (5, vi x5)] [] (xhp s) Φ := by
  refine xW.br (c := x5 ≤ 99) (pc1 := 139) (L1 := [(0, vr 6 31), (1, vr 5 a), (3, vl x3), (5, vi x5)]) (st1 := []) (h1 := xhp s) (pc2 := 137) (L2 := [(0, vr 6 31), (1, vr 5 a), (3, vl x3), (5, vi x5)]) (st2 := []) (h2 := xhp s) 3 (fun _ _ _ _ => rfl) (fun hc => ?_) (fun hc => ?_)
  · replace g := g.1 hc
    refine xW.br (c := (-99) ≤ x5) (pc1 := 152) (L1 := [(0, vr 6 31), (1, vr 5 a), (3, vl x3), (5, vi x5)]) (st1 := []) (h1 := xhp s) (pc2 := 146) (L2 := [(0, vr 6 31), (1, vr 5 a), (3, vl x3), (5, vi x5)]) (st2 := []) (h2 := xhp s) 3 (fun _ _ _ _ => rfl) (fun hc => ?_) (fun hc => ?_)
    · replace g := g.1 hc
      refine xW.seg (pc1 := 157) (L1 := [(0, vr 6 31), (1, vr 5 a), (3, vl x3), (5, vi x5)]) (st1 := [vi (gI s 31 0), vr 5 a]) (h1 := xhp s) 3 (fun _ _ _ _ => rfl) ?_
      suffices J : xW (xX0 xs Ls) p123 166 [(0, vr 6 31), (1, vr 5 a), (3, vl x3), (5, vi x5)] [vl (if (gI s 31 0) = 0 then x3 else (-x3)), vr 5 a] (xhp s) Φ by
        refine xW.br (c := (gI s 31 0) = 0) (pc1 := 165) (L1 := [(0, vr 6 31), (1, vr 5 a), (3, vl x3), (5, vi x5)]) (st1 := [vr 5 a]) (h1 := xhp s) (pc2 := 160) (L2 := [(0, vr 6 31), (1, vr 5 a), (3, vl x3), (5, vi x5)]) (st2 := [vr 5 a]) (h2 := xhp s) 1 (fun _ _ _ _ => rfl) (fun hc => ?_) (fun hc => ?_)
        · have hc1 : (gI s 31 0) = 0 := hc
          refine xW.seg (pc1 := 166) (L1 := [(0, vr 6 31), (1, vr 5 a), (3, vl x3), (5, vi x5)]) (st1 := [vl x3, vr 5 a]) (h1 := xhp s) 1 (fun _ _ _ _ => rfl) ?_
          refine xW.to (v := vl (if (gI s 31 0) = 0 then x3 else (-x3))) ((congrArg vl (if_pos hc1)).symm) ?_
          exact J
        · have hc1 : ¬ ((gI s 31 0) = 0) := hc
          refine xW.seg (pc1 := 166) (L1 := [(0, vr 6 31), (1, vr 5 a), (3, vl x3), (5, vi x5)]) (st1 := [vl (-x3), vr 5 a]) (h1 := xhp s) 3 (fun _ _ _ _ => rfl) ?_
          refine xW.to (v := vl (if (gI s 31 0) = 0 then x3 else (-x3))) ((congrArg vl (if_neg hc1)).symm) ?_
          exact J
      exact xW.ret (v0 := some (vi 0)) (h1 := xhp (sI (sJ s a 0 (if (gI s 31 0) = 0 then x3 else (-x3))) a 1 x5)) 6 (fun _ _ _ _ => rfl) g
    · replace g := g.2 hc
      refine xW.call (y := 139) (as := [vr 5 a]) (h0 := xhp s) (pc0 := 147) (len := 3) (L0 := [(0, vr 6 31), (1, vr 5 a), (3, vl x3), (5, vi x5)]) (rest := []) 2 (fun _ _ _ _ => rfl) (m139 _ _ ?_)
      show xW (xX0 xs Ls) p123 150 [(0, vr 6 31), (1, vr 5 a), (3, vl x3), (5, vi x5)] [] (xhp (de_clear s a)) Φ
      exact xW.ret (v0 := some (vi 0)) (h1 := xhp (de_clear s a)) 2 (fun _ _ _ _ => rfl) g
  · replace g := g.2 hc
    exact xW.ret (v0 := some (vi 2)) (h1 := xhp s) 2 (fun _ _ _ _ => rfl) g
noncomputable def ar_round_130_d (s : xS) (a : Nat) (x3 : Int64) (x5 : Int32) : Int32 × xS := (if x5 ≤ 99 then (if (-99) ≤ x5 then (0, (sI (sJ s a 0 (if (gI s 31 0) = 0 then x3 else (-x3))) a 1 x5)) else (0, (de_clear s a))) else (2, s))
noncomputable def ar_round_130 : xS → Nat → Int64 → Int32 → Int32 × xS := Classical.choose (⟨ar_round_130_d, rfl⟩ : ∃ f, f = ar_round_130_d)
set_option maxRecDepth 100000 in
theorem ar_round_130_eq : ar_round_130 = ar_round_130_d := Classical.choose_spec (⟨ar_round_130_d, rfl⟩ : ∃ f, f = ar_round_130_d)
set_option maxRecDepth 100000 in
theorem n123_130 {xs : Nat → Int32} {Ls : Nat} {Φ : Option xV → xH → Prop} (s : xS) (a : Nat) (x3 : Int64) (x5 : Int32) (h : Φ (some (vi (ar_round_130 s a x3 x5).1)) (xhp (ar_round_130 s a x3 x5).2)) : xW (xX0 xs Ls) p123 130 [(0, vr 6 31), (1, vr 5 a), (3, vl x3), (5, vi x5)] [] (xhp s) Φ := by
  rw [ar_round_130_eq] at h
  unfold ar_round_130_d at h
  exact b123_130 s a x3 x5 (⟨fun hc => by rw [if_pos hc] at h; exact ⟨fun hc => by rw [if_pos hc] at h; exact (by (try dsimp only at h); exact h), fun hc => by rw [if_neg hc] at h; exact (by (try dsimp only at h); exact h)⟩, fun hc => by rw [if_neg hc] at h; exact (by (try dsimp only at h); exact h)⟩)
set_option maxRecDepth 100000 in
theorem b123_97 {xs : Nat → Int32} {Ls : Nat} {Φ : Option xV → xH → Prop} (s : xS) (a : Nat) (x3 : Int64) (x5 : Int32) (x6 : Int32) (g : ((11 ≤ x6 → xW (xX0 xs Ls) p123 130 [(0, vr 6 31), (1, vr 5 a), (3, vl x3), (5, vi x5)] [] (xhp s) Φ) ∧ (¬ (11 ≤ x6) → ((100000000000 ≤ x3 → xW (xX0 xs Ls) p123 130 [(0, vr 6 31), (1, vr 5 a), (3, vl x3), (5, vi x5)] [] (xhp s) Φ) ∧ (¬ (100000000000 ≤ x3) → xW (xX0 xs Ls) p123 97 [(0, vr 6 31), (1, vr 5 a), (3, vl (x3 * 10)), (5, vi (x5 + (-1))), (6, vi (x6 + 1))] [] (xhp s) Φ))))) : xW (xX0 xs Ls) p123 97 [(0, vr 6 31), (1, vr 5 a), (3, vl x3), (5, vi x5), (6, vi x6)] [] (xhp s) Φ := by
  refine xW.br (c := 11 ≤ x6) (pc1 := 130) (L1 := [(0, vr 6 31), (1, vr 5 a), (3, vl x3), (5, vi x5), (6, vi x6)]) (st1 := []) (h1 := xhp s) (pc2 := 104) (L2 := [(0, vr 6 31), (1, vr 5 a), (3, vl x3), (5, vi x5), (6, vi x6)]) (st2 := []) (h2 := xhp s) 3 (fun _ _ _ _ => rfl) (fun hc => ?_) (fun hc => ?_)
  · replace g := g.1 hc
    exact xW.locs (L := [(0, vr 6 31), (1, vr 5 a), (3, vl x3), (5, vi x5)]) ⟨rfl, rfl, rfl, rfl, trivial⟩ rfl g
  · replace g := g.2 hc
    refine xW.side (c := vp_in 11 19) (pc1 := 111) (L1 := [(0, vr 6 31), (1, vr 5 a), (3, vl x3), (5, vi x5), (6, vi x6)]) (st1 := [vl 100000000000, vl x3]) (h1 := xhp s) 4 (fun _ _ _ _ => rfl) (vp_lit rfl) ?_
    refine xW.br (c := 0 ≤ (lg_cmp x3 100000000000)) (pc1 := 130) (L1 := [(0, vr 6 31), (1, vr 5 a), (3, vl x3), (5, vi x5), (6, vi x6)]) (st1 := []) (h1 := xhp s) (pc2 := 115) (L2 := [(0, vr 6 31), (1, vr 5 a), (3, vl x3), (5, vi x5), (6, vi x6)]) (st2 := []) (h2 := xhp s) 2 (fun _ _ _ _ => rfl) (fun hc => ?_) (fun hc => ?_)
    · replace g := g.1 (lc_ge.mp hc)
      exact xW.locs (L := [(0, vr 6 31), (1, vr 5 a), (3, vl x3), (5, vi x5)]) ⟨rfl, rfl, rfl, rfl, trivial⟩ rfl g
    · replace g := g.2 (fun q => hc (lc_ge.mpr q))
      refine xW.seg (pc1 := 97) (L1 := [(6, vi (x6 + 1)), (5, vi (x5 + (-1))), (3, vl (x3 * 10)), (0, vr 6 31), (1, vr 5 a)]) (st1 := []) (h1 := xhp s) 7 (fun _ _ _ _ => rfl) ?_
      exact xW.locs (L := [(0, vr 6 31), (1, vr 5 a), (3, vl (x3 * 10)), (5, vi (x5 + (-1))), (6, vi (x6 + 1))]) ⟨rfl, rfl, rfl, rfl, rfl, trivial⟩ rfl g
noncomputable def ar_round_97 : Nat → xS → Nat → Int64 → Int32 → Int32 → Int32 × xS
  | 0, s, _, _, _, _ => (0, s)
  | n + 1, s, a, x3, x5, x6 => (if 11 ≤ x6 then (ar_round_130 s a x3 x5) else (if 100000000000 ≤ x3 then (ar_round_130 s a x3 x5) else (ar_round_97 n s a (x3 * 10) (x5 + (-1)) (x6 + 1))))
def ar_round_97_ok : Nat → xS → Nat → Int64 → Int32 → Int32 → Prop
  | 0, _, _, _, _, _ => False
  | n + 1, s, a, x3, x5, x6 => (¬ (11 ≤ x6) → (¬ (100000000000 ≤ x3) → (ar_round_97_ok n s a (x3 * 10) (x5 + (-1)) (x6 + 1))))
set_option maxRecDepth 100000 in
theorem n123_97 {xs : Nat → Int32} {Ls : Nat} {Φ : Option xV → xH → Prop} : ∀ (n : Nat) (s : xS) (a : Nat) (x3 : Int64) (x5 : Int32) (x6 : Int32), ar_round_97_ok n s a x3 x5 x6 → Φ (some (vi (ar_round_97 n s a x3 x5 x6).1)) (xhp (ar_round_97 n s a x3 x5 x6).2) → xW (xX0 xs Ls) p123 97 [(0, vr 6 31), (1, vr 5 a), (3, vl x3), (5, vi x5), (6, vi x6)] [] (xhp s) Φ := by
  intro n
  induction n with
  | zero => intro s _ _ _ _ gq; exact gq.elim
  | succ n ih =>
    intro s a x3 x5 x6 gq h
    unfold ar_round_97_ok at gq
    unfold ar_round_97 at h
    exact b123_97 s a x3 x5 x6 (⟨fun hc => by rw [if_pos hc] at h; exact n123_130 _ _ _ _ h, fun hc => by rw [if_neg hc] at h; replace gq := gq hc; exact ⟨fun hc => by rw [if_pos hc] at h; exact n123_130 _ _ _ _ h, fun hc => by rw [if_neg hc] at h; replace gq := gq hc; exact ih _ _ _ _ _ gq h⟩⟩)
set_option maxRecDepth 100000 in
theorem b123_45 {xs : Nat → Int32} {Ls : Nat} {Φ : Option xV → xH → Prop} (s : xS) (a : Nat) (x2 : Int32) (g : ((vp_in x2 19) ∧ ((te_nearest_ok s (gJ s 31 1) (iten x2) (gI s 31 2)) ∧ ((¬ (te_nearest s (gJ s 31 1) (iten x2) (gI s 31 2)) = 1000000000000 → xW (xX0 xs Ls) p123 97 [(0, vr 6 31), (1, vr 5 a), (3, vl (te_nearest s (gJ s 31 1) (iten x2) (gI s 31 2))), (5, vi (((gI s 31 3) + x2) + 11)), (6, vi 0)] [] (xhp s) Φ) ∧ ((te_nearest s (gJ s 31 1) (iten x2) (gI s 31 2)) = 1000000000000 → xW (xX0 xs Ls) p123 97 [(0, vr 6 31), (1, vr 5 a), (3, vl 100000000000), (5, vi ((((gI s 31 3) + x2) + 11) + 1)), (6, vi 0)] [] (xhp s) Φ))))) : xW (xX0 xs Ls) p123 45 [(0, vr 6 31), (1, vr 5 a), (2, vi x2)] [] (xhp s) Φ := by
  refine xW.side (c := vp_in x2 19) (pc1 := 54) (L1 := [(0, vr 6 31), (1, vr 5 a), (2, vi x2)]) (st1 := [vl (iten x2), vl (gJ s 31 1)]) (h1 := xhp s) 5 (fun _ _ _ _ => rfl) g.1 ?_
  replace g := g.2
  refine xW.call (y := 29) (as := [vl (gJ s 31 1), vl (iten x2), vi (gI s 31 2)]) (h0 := xhp s) (pc0 := 58) (len := 3) (L0 := [(0, vr 6 31), (1, vr 5 a), (2, vi x2)]) (rest := []) 3 (fun _ _ _ _ => rfl) (m29 _ _ _ _ g.1 ?_)
  show xW (xX0 xs Ls) p123 61 [(0, vr 6 31), (1, vr 5 a), (2, vi x2)] [vl (te_nearest s (gJ s 31 1) (iten x2) (gI s 31 2))] (xhp s) Φ
  replace g := g.2
  refine xW.side (c := vp_in 12 19) (pc1 := 80) (L1 := [(5, vi (((gI s 31 3) + x2) + 11)), (3, vl (te_nearest s (gJ s 31 1) (iten x2) (gI s 31 2))), (0, vr 6 31), (1, vr 5 a), (2, vi x2)]) (st1 := [vl 1000000000000, vl (te_nearest s (gJ s 31 1) (iten x2) (gI s 31 2))]) (h1 := xhp s) 12 (fun _ _ _ _ => rfl) (vp_lit rfl) ?_
  refine xW.br (c := ¬ (lg_cmp (te_nearest s (gJ s 31 1) (iten x2) (gI s 31 2)) 1000000000000) = 0) (pc1 := 94) (L1 := [(5, vi (((gI s 31 3) + x2) + 11)), (3, vl (te_nearest s (gJ s 31 1) (iten x2) (gI s 31 2))), (0, vr 6 31), (1, vr 5 a), (2, vi x2)]) (st1 := []) (h1 := xhp s) (pc2 := 84) (L2 := [(5, vi (((gI s 31 3) + x2) + 11)), (3, vl (te_nearest s (gJ s 31 1) (iten x2) (gI s 31 2))), (0, vr 6 31), (1, vr 5 a), (2, vi x2)]) (st2 := []) (h2 := xhp s) 2 (fun _ _ _ _ => rfl) (fun hc => ?_) (fun hc => ?_)
  · replace g := g.1 (fun q => hc (lc_eq.mpr q))
    refine xW.seg (pc1 := 97) (L1 := [(6, vi 0), (5, vi (((gI s 31 3) + x2) + 11)), (3, vl (te_nearest s (gJ s 31 1) (iten x2) (gI s 31 2))), (0, vr 6 31), (1, vr 5 a), (2, vi x2)]) (st1 := []) (h1 := xhp s) 2 (fun _ _ _ _ => rfl) ?_
    exact xW.locs (L := [(0, vr 6 31), (1, vr 5 a), (3, vl (te_nearest s (gJ s 31 1) (iten x2) (gI s 31 2))), (5, vi (((gI s 31 3) + x2) + 11)), (6, vi 0)]) ⟨rfl, rfl, rfl, rfl, rfl, trivial⟩ rfl g
  · replace g := g.2 (lc_eq.mp (Decidable.not_not.mp hc))
    refine xW.side (c := vp_in 11 19) (pc1 := 90) (L1 := [(5, vi (((gI s 31 3) + x2) + 11)), (3, vl (te_nearest s (gJ s 31 1) (iten x2) (gI s 31 2))), (0, vr 6 31), (1, vr 5 a), (2, vi x2)]) (st1 := [vl 100000000000]) (h1 := xhp s) 3 (fun _ _ _ _ => rfl) (vp_lit rfl) ?_
    refine xW.seg (pc1 := 97) (L1 := [(6, vi 0), (5, vi ((((gI s 31 3) + x2) + 11) + 1)), (3, vl 100000000000), (0, vr 6 31), (1, vr 5 a), (2, vi x2)]) (st1 := []) (h1 := xhp s) 4 (fun _ _ _ _ => rfl) ?_
    exact xW.locs (L := [(0, vr 6 31), (1, vr 5 a), (3, vl 100000000000), (5, vi ((((gI s 31 3) + x2) + 11) + 1)), (6, vi 0)]) ⟨rfl, rfl, rfl, rfl, rfl, trivial⟩ rfl g
noncomputable def ar_round_45_d (s : xS) (a : Nat) (x2 : Int32) : Int32 × xS := (if ¬ (te_nearest s (gJ s 31 1) (iten x2) (gI s 31 2)) = 1000000000000 then (ar_round_97 xfu s a (te_nearest s (gJ s 31 1) (iten x2) (gI s 31 2)) (((gI s 31 3) + x2) + 11) 0) else (ar_round_97 xfu s a 100000000000 ((((gI s 31 3) + x2) + 11) + 1) 0))
noncomputable def ar_round_45 : xS → Nat → Int32 → Int32 × xS := Classical.choose (⟨ar_round_45_d, rfl⟩ : ∃ f, f = ar_round_45_d)
set_option maxRecDepth 100000 in
theorem ar_round_45_eq : ar_round_45 = ar_round_45_d := Classical.choose_spec (⟨ar_round_45_d, rfl⟩ : ∃ f, f = ar_round_45_d)
def ar_round_45_ok (s : xS) (a : Nat) (x2 : Int32) : Prop := ((vp_in x2 19) ∧ ((te_nearest_ok s (gJ s 31 1) (iten x2) (gI s 31 2)) ∧ ((¬ (te_nearest s (gJ s 31 1) (iten x2) (gI s 31 2)) = 1000000000000 → (ar_round_97_ok xfu s a (te_nearest s (gJ s 31 1) (iten x2) (gI s 31 2)) (((gI s 31 3) + x2) + 11) 0)) ∧ ((te_nearest s (gJ s 31 1) (iten x2) (gI s 31 2)) = 1000000000000 → (ar_round_97_ok xfu s a 100000000000 ((((gI s 31 3) + x2) + 11) + 1) 0)))))
set_option maxRecDepth 100000 in
theorem n123_45 {xs : Nat → Int32} {Ls : Nat} {Φ : Option xV → xH → Prop} (s : xS) (a : Nat) (x2 : Int32) (gq : ar_round_45_ok s a x2) (h : Φ (some (vi (ar_round_45 s a x2).1)) (xhp (ar_round_45 s a x2).2)) : xW (xX0 xs Ls) p123 45 [(0, vr 6 31), (1, vr 5 a), (2, vi x2)] [] (xhp s) Φ := by
  rw [ar_round_45_eq] at h
  unfold ar_round_45_d at h
  unfold ar_round_45_ok at gq
  exact b123_45 s a x2 (⟨gq.1, by replace gq := gq.2; exact ⟨gq.1, by replace gq := gq.2; exact ⟨fun hc => by rw [if_pos hc] at h; replace gq := gq.1 hc; exact n123_97 _ _ _ _ _ _ gq h, fun hc => by rw [if_neg (fun z => z hc)] at h; replace gq := gq.2 hc; exact n123_97 _ _ _ _ _ _ gq h⟩⟩⟩)
set_option maxRecDepth 100000 in
theorem b123_17 {xs : Nat → Int32} {Ls : Nat} {Φ : Option xV → xH → Prop} (s : xS) (a : Nat) (x2 : Int32) (g : ((7 ≤ x2 → xW (xX0 xs Ls) p123 45 [(0, vr 6 31), (1, vr 5 a), (2, vi x2)] [] (xhp s) Φ) ∧ (¬ (7 ≤ x2) → ((vp_in (12 + x2) 19) ∧ (((gJ s 31 1) < (iten (12 + x2)) → xW (xX0 xs Ls) p123 45 [(0, vr 6 31), (1, vr 5 a), (2, vi x2)] [] (xhp s) Φ) ∧ (¬ ((gJ s 31 1) < (iten (12 + x2))) → xW (xX0 xs Ls) p123 17 [(0, vr 6 31), (1, vr 5 a), (2, vi (x2 + 1))] [] (xhp s) Φ)))))) : xW (xX0 xs Ls) p123 17 [(0, vr 6 31), (1, vr 5 a), (2, vi x2)] [] (xhp s) Φ := by
  refine xW.br (c := 7 ≤ x2) (pc1 := 45) (L1 := [(0, vr 6 31), (1, vr 5 a), (2, vi x2)]) (st1 := []) (h1 := xhp s) (pc2 := 23) (L2 := [(0, vr 6 31), (1, vr 5 a), (2, vi x2)]) (st2 := []) (h2 := xhp s) 3 (fun _ _ _ _ => rfl) (fun hc => ?_) (fun hc => ?_)
  · replace g := g.1 hc
    exact g
  · replace g := g.2 hc
    refine xW.side (c := vp_in (12 + x2) 19) (pc1 := 35) (L1 := [(0, vr 6 31), (1, vr 5 a), (2, vi x2)]) (st1 := [vl (iten (12 + x2)), vl (gJ s 31 1)]) (h1 := xhp s) 7 (fun _ _ _ _ => rfl) g.1 ?_
    replace g := g.2
    refine xW.br (c := (lg_cmp (gJ s 31 1) (iten (12 + x2))) < 0) (pc1 := 45) (L1 := [(0, vr 6 31), (1, vr 5 a), (2, vi x2)]) (st1 := []) (h1 := xhp s) (pc2 := 39) (L2 := [(0, vr 6 31), (1, vr 5 a), (2, vi x2)]) (st2 := []) (h2 := xhp s) 2 (fun _ _ _ _ => rfl) (fun hc => ?_) (fun hc => ?_)
    · replace g := g.1 (lc_lt.mp hc)
      exact g
    · replace g := g.2 (fun q => hc (lc_lt.mpr q))
      refine xW.seg (pc1 := 17) (L1 := [(2, vi (x2 + 1)), (0, vr 6 31), (1, vr 5 a)]) (st1 := []) (h1 := xhp s) 2 (fun _ _ _ _ => rfl) ?_
      exact xW.locs (L := [(0, vr 6 31), (1, vr 5 a), (2, vi (x2 + 1))]) ⟨rfl, rfl, rfl, trivial⟩ rfl g
noncomputable def ar_round_17 : Nat → xS → Nat → Int32 → Int32 × xS
  | 0, s, _, _ => (0, s)
  | n + 1, s, a, x2 => (if 7 ≤ x2 then (ar_round_45 s a x2) else (if (gJ s 31 1) < (iten (12 + x2)) then (ar_round_45 s a x2) else (ar_round_17 n s a (x2 + 1))))
def ar_round_17_ok : Nat → xS → Nat → Int32 → Prop
  | 0, _, _, _ => False
  | n + 1, s, a, x2 => ((7 ≤ x2 → (ar_round_45_ok s a x2)) ∧ (¬ (7 ≤ x2) → ((vp_in (12 + x2) 19) ∧ (((gJ s 31 1) < (iten (12 + x2)) → (ar_round_45_ok s a x2)) ∧ (¬ ((gJ s 31 1) < (iten (12 + x2))) → (ar_round_17_ok n s a (x2 + 1)))))))
set_option maxRecDepth 100000 in
theorem n123_17 {xs : Nat → Int32} {Ls : Nat} {Φ : Option xV → xH → Prop} : ∀ (n : Nat) (s : xS) (a : Nat) (x2 : Int32), ar_round_17_ok n s a x2 → Φ (some (vi (ar_round_17 n s a x2).1)) (xhp (ar_round_17 n s a x2).2) → xW (xX0 xs Ls) p123 17 [(0, vr 6 31), (1, vr 5 a), (2, vi x2)] [] (xhp s) Φ := by
  intro n
  induction n with
  | zero => intro s _ _ gq; exact gq.elim
  | succ n ih =>
    intro s a x2 gq h
    unfold ar_round_17_ok at gq
    unfold ar_round_17 at h
    exact b123_17 s a x2 (⟨fun hc => by rw [if_pos hc] at h; replace gq := gq.1 hc; exact n123_45 _ _ _ gq h, fun hc => by rw [if_neg hc] at h; replace gq := gq.2 hc; exact ⟨gq.1, by replace gq := gq.2; exact ⟨fun hc => by rw [if_pos hc] at h; replace gq := gq.1 hc; exact n123_45 _ _ _ gq h, fun hc => by rw [if_neg hc] at h; replace gq := gq.2 hc; exact ih _ _ _ gq h⟩⟩⟩)
set_option maxRecDepth 100000 in
theorem b123_0 {xs : Nat → Int32} {Ls : Nat} {Φ : Option xV → xH → Prop} (s : xS) (a : Nat) (g : ((¬ (gJ s 31 1) = 0 → xW (xX0 xs Ls) p123 17 [(0, vr 6 31), (1, vr 5 a), (2, vi 0)] [] (xhp s) Φ) ∧ ((gJ s 31 1) = 0 → Φ (some (vi 0)) (xhp (de_clear s a))))) : xW (xX0 xs Ls) p123 0 [(0, vr 6 31), (1, vr 5 a)] [] (xhp s) Φ := by
  refine xW.br (c := ¬ (lg_cmp (gJ s 31 1) 0) = 0) (pc1 := 15) (L1 := [(0, vr 6 31), (1, vr 5 a)]) (st1 := []) (h1 := xhp s) (pc2 := 9) (L2 := [(0, vr 6 31), (1, vr 5 a)]) (st2 := []) (h2 := xhp s) 5 (fun _ _ _ _ => rfl) (fun hc => ?_) (fun hc => ?_)
  · replace g := g.1 (fun q => hc (lc_eq.mpr q))
    refine xW.seg (pc1 := 17) (L1 := [(2, vi 0), (0, vr 6 31), (1, vr 5 a)]) (st1 := []) (h1 := xhp s) 2 (fun _ _ _ _ => rfl) ?_
    exact xW.locs (L := [(0, vr 6 31), (1, vr 5 a), (2, vi 0)]) ⟨rfl, rfl, rfl, trivial⟩ rfl g
  · replace g := g.2 (lc_eq.mp (Decidable.not_not.mp hc))
    refine xW.call (y := 139) (as := [vr 5 a]) (h0 := xhp s) (pc0 := 10) (len := 3) (L0 := [(0, vr 6 31), (1, vr 5 a)]) (rest := []) 2 (fun _ _ _ _ => rfl) (m139 _ _ ?_)
    show xW (xX0 xs Ls) p123 13 [(0, vr 6 31), (1, vr 5 a)] [] (xhp (de_clear s a)) Φ
    exact xW.ret (v0 := some (vi 0)) (h1 := xhp (de_clear s a)) 2 (fun _ _ _ _ => rfl) g
noncomputable def ar_round_d (s : xS) (a : Nat) : Int32 × xS := (if ¬ (gJ s 31 1) = 0 then (ar_round_17 xfu s a 0) else (0, (de_clear s a)))
noncomputable def ar_round : xS → Nat → Int32 × xS := Classical.choose (⟨ar_round_d, rfl⟩ : ∃ f, f = ar_round_d)
set_option maxRecDepth 100000 in
theorem ar_round_eq : ar_round = ar_round_d := Classical.choose_spec (⟨ar_round_d, rfl⟩ : ∃ f, f = ar_round_d)
def ar_round_ok (s : xS) (a : Nat) : Prop := (¬ (gJ s 31 1) = 0 → (ar_round_17_ok xfu s a 0))
set_option maxRecDepth 100000 in
theorem m123 {xs : Nat → Int32} {Ls : Nat} {Ψ : xO → xH → Prop} (s : xS) (a : Nat) (gq : ar_round_ok s a) (h : Ψ (.inl (some (vi (ar_round s a).1))) (xhp (ar_round s a).2)) : xM (xX0 xs Ls) 123 [vr 6 31, vr 5 a] (xhp s) Ψ := by
  rw [ar_round_eq] at h
  unfold ar_round_d at h
  unfold ar_round_ok at gq
  exact xM.of (P := p123) rfl rfl rfl (b123_0 s a (⟨fun hc => by rw [if_pos hc] at h; replace gq := gq hc; exact n123_17 _ _ _ _ gq h, fun hc => by rw [if_neg (fun z => z hc)] at h; exact (by (try dsimp only at h); exact h)⟩))
/-! ar_add -/
theorem b119_194 {xs : Nat → Int32} {Ls : Nat} {Φ : Option xV → xH → Prop} (s : xS) (x6 : Int64) (x8 : Int32) (x9 : Int64) (x12 : Int64) (g : (((gI s 31 2) = 0 → Φ none (xhp (sI (sJ (sI s 31 0 (zb (!decide (0 ≤ ((x6 * 1000000) + x12))))) 31 1 (labs ((x6 * 1000000) + x12))) 31 3 (x8 - 17)))) ∧ (¬ ((gI s 31 2) = 0) → (((zb (!decide (0 ≤ x9))) = (zb (!decide (0 ≤ ((x6 * 1000000) + x12)))) → Φ none (xhp (sI (sJ (sI s 31 0 (zb (!decide (0 ≤ ((x6 * 1000000) + x12))))) 31 1 (labs ((x6 * 1000000) + x12))) 31 3 (x8 - 17)))) ∧ (¬ ((zb (!decide (0 ≤ x9))) = (zb (!decide (0 ≤ ((x6 * 1000000) + x12))))) → Φ none (xhp (sI (sJ (sJ (sI s 31 0 (zb (!decide (0 ≤ ((x6 * 1000000) + x12))))) 31 1 (labs ((x6 * 1000000) + x12))) 31 1 ((labs ((x6 * 1000000) + x12)) - 1)) 31 3 (x8 - 17)))))))) : xW (xX0 xs Ls) p119 194 [(0, vr 6 31), (6, vl x6), (8, vi x8), (9, vl x9), (12, vl x12)] [] (xhp s) Φ := by
  refine xW.side (c := vp_in 6 19) (pc1 := 202) (L1 := [(0, vr 6 31), (6, vl x6), (8, vi x8), (9, vl x9), (12, vl x12)]) (st1 := [vl 1000000, vl x6]) (h1 := xhp s) 4 (fun _ _ _ _ => rfl) (vp_lit rfl) ?_
  refine xW.seg (pc1 := 213) (L1 := [(14, vl ((x6 * 1000000) + x12)), (0, vr 6 31), (6, vl x6), (8, vi x8), (9, vl x9), (12, vl x12)]) (st1 := [vi (lg_cmp ((x6 * 1000000) + x12) 0), vr 6 31]) (h1 := xhp s) 8 (fun _ _ _ _ => rfl) ?_
  suffices J : xW (xX0 xs Ls) p119 221 [(14, vl ((x6 * 1000000) + x12)), (0, vr 6 31), (6, vl x6), (8, vi x8), (9, vl x9), (12, vl x12)] [vi (zb (!decide (0 ≤ ((x6 * 1000000) + x12)))), vr 6 31] (xhp s) Φ by
    refine xW.br (c := 0 ≤ (lg_cmp ((x6 * 1000000) + x12) 0)) (pc1 := 220) (L1 := [(14, vl ((x6 * 1000000) + x12)), (0, vr 6 31), (6, vl x6), (8, vi x8), (9, vl x9), (12, vl x12)]) (st1 := [vr 6 31]) (h1 := xhp s) (pc2 := 216) (L2 := [(14, vl ((x6 * 1000000) + x12)), (0, vr 6 31), (6, vl x6), (8, vi x8), (9, vl x9), (12, vl x12)]) (st2 := [vr 6 31]) (h2 := xhp s) 1 (fun _ _ _ _ => rfl) (fun hc => ?_) (fun hc => ?_)
    · have hc1 : 0 ≤ ((x6 * 1000000) + x12) := (lc_ge.mp hc)
      refine xW.seg (pc1 := 221) (L1 := [(14, vl ((x6 * 1000000) + x12)), (0, vr 6 31), (6, vl x6), (8, vi x8), (9, vl x9), (12, vl x12)]) (st1 := [vi 0, vr 6 31]) (h1 := xhp s) 1 (fun _ _ _ _ => rfl) ?_
      refine xW.to (v := vi (zb (!decide (0 ≤ ((x6 * 1000000) + x12))))) (zb_f (by simp only [decide_eq_true hc1, Bool.true_or, Bool.or_true, Bool.false_or, Bool.or_false, Bool.true_and, Bool.and_true, Bool.false_and, Bool.and_false, Bool.not_true, Bool.not_false, cond_true, cond_false])) ?_
      exact J
    · have hc1 : ¬ (0 ≤ ((x6 * 1000000) + x12)) := (fun q => hc (lc_ge.mpr q))
      refine xW.seg (pc1 := 221) (L1 := [(14, vl ((x6 * 1000000) + x12)), (0, vr 6 31), (6, vl x6), (8, vi x8), (9, vl x9), (12, vl x12)]) (st1 := [vi 1, vr 6 31]) (h1 := xhp s) 2 (fun _ _ _ _ => rfl) ?_
      refine xW.to (v := vi (zb (!decide (0 ≤ ((x6 * 1000000) + x12))))) (zb_t (by simp only [decide_eq_false hc1, Bool.true_or, Bool.or_true, Bool.false_or, Bool.or_false, Bool.true_and, Bool.and_true, Bool.false_and, Bool.and_false, Bool.not_true, Bool.not_false, cond_true, cond_false])) ?_
      exact J
  refine xW.side (c := (zb (!decide (0 ≤ ((x6 * 1000000) + x12)))) = 0 ∨ (zb (!decide (0 ≤ ((x6 * 1000000) + x12)))) = 1) (pc1 := 224) (L1 := [(14, vl ((x6 * 1000000) + x12)), (0, vr 6 31), (6, vl x6), (8, vi x8), (9, vl x9), (12, vl x12)]) (st1 := []) (h1 := xhp (sI s 31 0 (zb (!decide (0 ≤ ((x6 * 1000000) + x12)))))) 1 (fun _ _ _ _ => rfl) (zb01 _) ?_
  refine xW.br (c := (gI s 31 2) = 0) (pc1 := 269) (L1 := [(14, vl ((x6 * 1000000) + x12)), (0, vr 6 31), (6, vl x6), (8, vi x8), (9, vl x9), (12, vl x12)]) (st1 := []) (h1 := xhp (sJ (sI s 31 0 (zb (!decide (0 ≤ ((x6 * 1000000) + x12))))) 31 1 (labs ((x6 * 1000000) + x12)))) (pc2 := 240) (L2 := [(14, vl ((x6 * 1000000) + x12)), (0, vr 6 31), (6, vl x6), (8, vi x8), (9, vl x9), (12, vl x12)]) (st2 := []) (h2 := xhp (sJ (sI s 31 0 (zb (!decide (0 ≤ ((x6 * 1000000) + x12))))) 31 1 (labs ((x6 * 1000000) + x12)))) 7 (fun _ _ _ _ => rfl) (fun hc => ?_) (fun hc => ?_)
  · replace g := g.1 hc
    exact xW.ret (v0 := none) (h1 := xhp (sI (sJ (sI s 31 0 (zb (!decide (0 ≤ ((x6 * 1000000) + x12))))) 31 1 (labs ((x6 * 1000000) + x12))) 31 3 (x8 - 17))) 6 (fun _ _ _ _ => rfl) g
  · replace g := g.2 hc
    refine xW.seg (pc1 := 244) (L1 := [(14, vl ((x6 * 1000000) + x12)), (0, vr 6 31), (6, vl x6), (8, vi x8), (9, vl x9), (12, vl x12)]) (st1 := [vi (lg_cmp x9 0)]) (h1 := xhp (sJ (sI s 31 0 (zb (!decide (0 ≤ ((x6 * 1000000) + x12))))) 31 1 (labs ((x6 * 1000000) + x12)))) 3 (fun _ _ _ _ => rfl) ?_
    suffices J : xW (xX0 xs Ls) p119 252 [(14, vl ((x6 * 1000000) + x12)), (0, vr 6 31), (6, vl x6), (8, vi x8), (9, vl x9), (12, vl x12)] [vi (zb (!decide (0 ≤ x9)))] (xhp (sJ (sI s 31 0 (zb (!decide (0 ≤ ((x6 * 1000000) + x12))))) 31 1 (labs ((x6 * 1000000) + x12)))) Φ by
      refine xW.br (c := 0 ≤ (lg_cmp x9 0)) (pc1 := 251) (L1 := [(14, vl ((x6 * 1000000) + x12)), (0, vr 6 31), (6, vl x6), (8, vi x8), (9, vl x9), (12, vl x12)]) (st1 := []) (h1 := xhp (sJ (sI s 31 0 (zb (!decide (0 ≤ ((x6 * 1000000) + x12))))) 31 1 (labs ((x6 * 1000000) + x12)))) (pc2 := 247) (L2 := [(14, vl ((x6 * 1000000) + x12)), (0, vr 6 31), (6, vl x6), (8, vi x8), (9, vl x9), (12, vl x12)]) (st2 := []) (h2 := xhp (sJ (sI s 31 0 (zb (!decide (0 ≤ ((x6 * 1000000) + x12))))) 31 1 (labs ((x6 * 1000000) + x12)))) 1 (fun _ _ _ _ => rfl) (fun hc => ?_) (fun hc => ?_)
      · have hc2 : 0 ≤ x9 := (lc_ge.mp hc)
        refine xW.seg (pc1 := 252) (L1 := [(14, vl ((x6 * 1000000) + x12)), (0, vr 6 31), (6, vl x6), (8, vi x8), (9, vl x9), (12, vl x12)]) (st1 := [vi 0]) (h1 := xhp (sJ (sI s 31 0 (zb (!decide (0 ≤ ((x6 * 1000000) + x12))))) 31 1 (labs ((x6 * 1000000) + x12)))) 1 (fun _ _ _ _ => rfl) ?_
        refine xW.to (v := vi (zb (!decide (0 ≤ x9)))) (zb_f (by simp only [decide_eq_true hc2, Bool.true_or, Bool.or_true, Bool.false_or, Bool.or_false, Bool.true_and, Bool.and_true, Bool.false_and, Bool.and_false, Bool.not_true, Bool.not_false, cond_true, cond_false])) ?_
        exact J
      · have hc2 : ¬ (0 ≤ x9) := (fun q => hc (lc_ge.mpr q))
        refine xW.seg (pc1 := 252) (L1 := [(14, vl ((x6 * 1000000) + x12)), (0, vr 6 31), (6, vl x6), (8, vi x8), (9, vl x9), (12, vl x12)]) (st1 := [vi 1]) (h1 := xhp (sJ (sI s 31 0 (zb (!decide (0 ≤ ((x6 * 1000000) + x12))))) 31 1 (labs ((x6 * 1000000) + x12)))) 2 (fun _ _ _ _ => rfl) ?_
        refine xW.to (v := vi (zb (!decide (0 ≤ x9)))) (zb_t (by simp only [decide_eq_false hc2, Bool.true_or, Bool.or_true, Bool.false_or, Bool.or_false, Bool.true_and, Bool.and_true, Bool.false_and, Bool.and_false, Bool.not_true, Bool.not_false, cond_true, cond_false])) ?_
        exact J
    refine xW.br (c := (zb (!decide (0 ≤ x9))) = (zb (!decide (0 ≤ ((x6 * 1000000) + x12))))) (pc1 := 269) (L1 := [(14, vl ((x6 * 1000000) + x12)), (0, vr 6 31), (6, vl x6), (8, vi x8), (9, vl x9), (12, vl x12)]) (st1 := []) (h1 := xhp (sJ (sI s 31 0 (zb (!decide (0 ≤ ((x6 * 1000000) + x12))))) 31 1 (labs ((x6 * 1000000) + x12)))) (pc2 := 259) (L2 := [(14, vl ((x6 * 1000000) + x12)), (0, vr 6 31), (6, vl x6), (8, vi x8), (9, vl x9), (12, vl x12)]) (st2 := []) (h2 := xhp (sJ (sI s 31 0 (zb (!decide (0 ≤ ((x6 * 1000000) + x12))))) 31 1 (labs ((x6 * 1000000) + x12)))) 3 (fun _ _ _ _ => rfl) (fun hc => ?_) (fun hc => ?_)
    · replace g := g.1 hc
      exact xW.ret (v0 := none) (h1 := xhp (sI (sJ (sI s 31 0 (zb (!decide (0 ≤ ((x6 * 1000000) + x12))))) 31 1 (labs ((x6 * 1000000) + x12))) 31 3 (x8 - 17))) 6 (fun _ _ _ _ => rfl) g
    · replace g := g.2 hc
      exact xW.ret (v0 := none) (h1 := xhp (sI (sJ (sJ (sI s 31 0 (zb (!decide (0 ≤ ((x6 * 1000000) + x12))))) 31 1 (labs ((x6 * 1000000) + x12))) 31 1 ((labs ((x6 * 1000000) + x12)) - 1)) 31 3 (x8 - 17))) 12 (fun _ _ _ _ => rfl) g
noncomputable def ar_add_194_d (s : xS) (x6 : Int64) (x8 : Int32) (x9 : Int64) (x12 : Int64) : xS := (if (gI s 31 2) = 0 then (sI (sJ (sI s 31 0 (zb (!decide (0 ≤ ((x6 * 1000000) + x12))))) 31 1 (labs ((x6 * 1000000) + x12))) 31 3 (x8 - 17)) else (if (zb (!decide (0 ≤ x9))) = (zb (!decide (0 ≤ ((x6 * 1000000) + x12)))) then (sI (sJ (sI s 31 0 (zb (!decide (0 ≤ ((x6 * 1000000) + x12))))) 31 1 (labs ((x6 * 1000000) + x12))) 31 3 (x8 - 17)) else (sI (sJ (sJ (sI s 31 0 (zb (!decide (0 ≤ ((x6 * 1000000) + x12))))) 31 1 (labs ((x6 * 1000000) + x12))) 31 1 ((labs ((x6 * 1000000) + x12)) - 1)) 31 3 (x8 - 17))))
noncomputable def ar_add_194 : xS → Int64 → Int32 → Int64 → Int64 → xS := Classical.choose (⟨ar_add_194_d, rfl⟩ : ∃ f, f = ar_add_194_d)
set_option maxRecDepth 100000 in
theorem ar_add_194_eq : ar_add_194 = ar_add_194_d := Classical.choose_spec (⟨ar_add_194_d, rfl⟩ : ∃ f, f = ar_add_194_d)
set_option maxRecDepth 100000 in
theorem n119_194 {xs : Nat → Int32} {Ls : Nat} {Φ : Option xV → xH → Prop} (s : xS) (x6 : Int64) (x8 : Int32) (x9 : Int64) (x12 : Int64) (h : Φ none (xhp (ar_add_194 s x6 x8 x9 x12))) : xW (xX0 xs Ls) p119 194 [(0, vr 6 31), (6, vl x6), (8, vi x8), (9, vl x9), (12, vl x12)] [] (xhp s) Φ := by
  rw [ar_add_194_eq] at h
  unfold ar_add_194_d at h
  exact b119_194 s x6 x8 x9 x12 (⟨fun hc => by rw [if_pos hc] at h; exact h, fun hc => by rw [if_neg hc] at h; exact ⟨fun hc => by rw [if_pos hc] at h; exact h, fun hc => by rw [if_neg hc] at h; exact h⟩⟩)
set_option maxRecDepth 100000 in
theorem b119_105 {xs : Nat → Int32} {Ls : Nat} {Φ : Option xV → xH → Prop} (s : xS) (x6 : Int64) (x8 : Int32) (x9 : Int64) (y0 : Int32) (g : ((6 < y0 → ((18 < y0 → xW (xX0 xs Ls) p119 194 [(0, vr 6 31), (6, vl x6), (8, vi x8), (9, vl x9), (12, vl 0)] [] (xhp (sI (sI s 31 2 0) 31 2 1)) Φ) ∧ (¬ (18 < y0) → ((vp_in (y0 - 6) 19) ∧ ((¬ (iten (y0 - 6)) = 0) ∧ ((vp_in (y0 - 6) 19) ∧ ((¬ (iten (y0 - 6)) = 0) ∧ xW (xX0 xs Ls) p119 194 [(0, vr 6 31), (6, vl x6), (8, vi x8), (9, vl x9), (12, vl (x9 / (iten (y0 - 6))))] [] (xhp (sI (sI s 31 2 0) 31 2 (zb (!decide ((x9 - x9 / (iten (y0 - 6)) * (iten (y0 - 6))) = 0))))) Φ))))))) ∧ (¬ (6 < y0) → ((vp_in (6 - y0) 19) ∧ xW (xX0 xs Ls) p119 194 [(0, vr 6 31), (6, vl x6), (8, vi x8), (9, vl x9), (12, vl (x9 * (iten (6 - y0))))] [] (xhp (sI s 31 2 0)) Φ)))) : xW (xX0 xs Ls) p119 105 [(0, vr 6 31), (6, vl x6), (8, vi x8), (9, vl x9)] [vi y0] (xhp s) Φ := by
  refine xW.side (c := (0 : Int32) = 0 ∨ (0 : Int32) = 1) (pc1 := 115) (L1 := [(12, vl 0), (11, vi y0), (0, vr 6 31), (6, vl x6), (8, vi x8), (9, vl x9)]) (st1 := []) (h1 := xhp (sI s 31 2 0)) 6 (fun _ _ _ _ => rfl) (Or.inl rfl) ?_
  refine xW.br (c := 6 < y0) (pc1 := 139) (L1 := [(12, vl 0), (11, vi y0), (0, vr 6 31), (6, vl x6), (8, vi x8), (9, vl x9)]) (st1 := []) (h1 := xhp (sI s 31 2 0)) (pc2 := 122) (L2 := [(12, vl 0), (11, vi y0), (0, vr 6 31), (6, vl x6), (8, vi x8), (9, vl x9)]) (st2 := []) (h2 := xhp (sI s 31 2 0)) 3 (fun _ _ _ _ => rfl) (fun hc => ?_) (fun hc => ?_)
  · replace g := g.1 hc
    refine xW.br (c := 18 < y0) (pc1 := 189) (L1 := [(12, vl 0), (11, vi y0), (0, vr 6 31), (6, vl x6), (8, vi x8), (9, vl x9)]) (st1 := []) (h1 := xhp (sI s 31 2 0)) (pc2 := 146) (L2 := [(12, vl 0), (11, vi y0), (0, vr 6 31), (6, vl x6), (8, vi x8), (9, vl x9)]) (st2 := []) (h2 := xhp (sI s 31 2 0)) 3 (fun _ _ _ _ => rfl) (fun hc => ?_) (fun hc => ?_)
    · replace g := g.1 hc
      refine xW.side (c := (1 : Int32) = 0 ∨ (1 : Int32) = 1) (pc1 := 194) (L1 := [(12, vl 0), (11, vi y0), (0, vr 6 31), (6, vl x6), (8, vi x8), (9, vl x9)]) (st1 := []) (h1 := xhp (sI (sI s 31 2 0) 31 2 1)) 3 (fun _ _ _ _ => rfl) (Or.inr rfl) ?_
      exact xW.locs (L := [(0, vr 6 31), (6, vl x6), (8, vi x8), (9, vl x9), (12, vl 0)]) ⟨rfl, rfl, rfl, rfl, rfl, trivial⟩ rfl g
    · replace g := g.2 hc
      refine xW.side (c := vp_in (y0 - 6) 19) (pc1 := 157) (L1 := [(12, vl 0), (11, vi y0), (0, vr 6 31), (6, vl x6), (8, vi x8), (9, vl x9)]) (st1 := [vl (iten (y0 - 6)), vl x9]) (h1 := xhp (sI s 31 2 0)) 6 (fun _ _ _ _ => rfl) g.1 ?_
      replace g := g.2
      refine xW.side (c := ¬ (iten (y0 - 6)) = 0) (pc1 := 158) (L1 := [(12, vl 0), (11, vi y0), (0, vr 6 31), (6, vl x6), (8, vi x8), (9, vl x9)]) (st1 := [vl (x9 / (iten (y0 - 6)))]) (h1 := xhp (sI s 31 2 0)) 1 (fun _ _ _ _ => rfl) g.1 ?_
      replace g := g.2
      refine xW.side (c := vp_in (y0 - 6) 19) (pc1 := 172) (L1 := [(12, vl (x9 / (iten (y0 - 6)))), (11, vi y0), (0, vr 6 31), (6, vl x6), (8, vi x8), (9, vl x9)]) (st1 := [vl (iten (y0 - 6)), vl x9, vr 6 31]) (h1 := xhp (sI s 31 2 0)) 8 (fun _ _ _ _ => rfl) g.1 ?_
      replace g := g.2
      refine xW.side (c := ¬ (iten (y0 - 6)) = 0) (pc1 := 173) (L1 := [(12, vl (x9 / (iten (y0 - 6)))), (11, vi y0), (0, vr 6 31), (6, vl x6), (8, vi x8), (9, vl x9)]) (st1 := [vl (x9 - x9 / (iten (y0 - 6)) * (iten (y0 - 6))), vr 6 31]) (h1 := xhp (sI s 31 2 0)) 1 (fun _ _ _ _ => rfl) g.1 ?_
      replace g := g.2
      refine xW.seg (pc1 := 175) (L1 := [(12, vl (x9 / (iten (y0 - 6)))), (11, vi y0), (0, vr 6 31), (6, vl x6), (8, vi x8), (9, vl x9)]) (st1 := [vi (lg_cmp (x9 - x9 / (iten (y0 - 6)) * (iten (y0 - 6))) 0), vr 6 31]) (h1 := xhp (sI s 31 2 0)) 2 (fun _ _ _ _ => rfl) ?_
      suffices J : xW (xX0 xs Ls) p119 183 [(12, vl (x9 / (iten (y0 - 6)))), (11, vi y0), (0, vr 6 31), (6, vl x6), (8, vi x8), (9, vl x9)] [vi (zb (!decide ((x9 - x9 / (iten (y0 - 6)) * (iten (y0 - 6))) = 0))), vr 6 31] (xhp (sI s 31 2 0)) Φ by
        refine xW.br (c := (lg_cmp (x9 - x9 / (iten (y0 - 6)) * (iten (y0 - 6))) 0) = 0) (pc1 := 182) (L1 := [(12, vl (x9 / (iten (y0 - 6)))), (11, vi y0), (0, vr 6 31), (6, vl x6), (8, vi x8), (9, vl x9)]) (st1 := [vr 6 31]) (h1 := xhp (sI s 31 2 0)) (pc2 := 178) (L2 := [(12, vl (x9 / (iten (y0 - 6)))), (11, vi y0), (0, vr 6 31), (6, vl x6), (8, vi x8), (9, vl x9)]) (st2 := [vr 6 31]) (h2 := xhp (sI s 31 2 0)) 1 (fun _ _ _ _ => rfl) (fun hc => ?_) (fun hc => ?_)
        · have hc1 : (x9 - x9 / (iten (y0 - 6)) * (iten (y0 - 6))) = 0 := (lc_eq.mp hc)
          refine xW.seg (pc1 := 183) (L1 := [(12, vl (x9 / (iten (y0 - 6)))), (11, vi y0), (0, vr 6 31), (6, vl x6), (8, vi x8), (9, vl x9)]) (st1 := [vi 0, vr 6 31]) (h1 := xhp (sI s 31 2 0)) 1 (fun _ _ _ _ => rfl) ?_
          refine xW.to (v := vi (zb (!decide ((x9 - x9 / (iten (y0 - 6)) * (iten (y0 - 6))) = 0)))) (zb_f (by simp only [decide_eq_true hc1, Bool.true_or, Bool.or_true, Bool.false_or, Bool.or_false, Bool.true_and, Bool.and_true, Bool.false_and, Bool.and_false, Bool.not_true, Bool.not_false, cond_true, cond_false])) ?_
          exact J
        · have hc1 : ¬ ((x9 - x9 / (iten (y0 - 6)) * (iten (y0 - 6))) = 0) := (fun q => hc (lc_eq.mpr q))
          refine xW.seg (pc1 := 183) (L1 := [(12, vl (x9 / (iten (y0 - 6)))), (11, vi y0), (0, vr 6 31), (6, vl x6), (8, vi x8), (9, vl x9)]) (st1 := [vi 1, vr 6 31]) (h1 := xhp (sI s 31 2 0)) 2 (fun _ _ _ _ => rfl) ?_
          refine xW.to (v := vi (zb (!decide ((x9 - x9 / (iten (y0 - 6)) * (iten (y0 - 6))) = 0)))) (zb_t (by simp only [decide_eq_false hc1, Bool.true_or, Bool.or_true, Bool.false_or, Bool.or_false, Bool.true_and, Bool.and_true, Bool.false_and, Bool.and_false, Bool.not_true, Bool.not_false, cond_true, cond_false])) ?_
          exact J
      refine xW.side (c := (zb (!decide ((x9 - x9 / (iten (y0 - 6)) * (iten (y0 - 6))) = 0))) = 0 ∨ (zb (!decide ((x9 - x9 / (iten (y0 - 6)) * (iten (y0 - 6))) = 0))) = 1) (pc1 := 186) (L1 := [(12, vl (x9 / (iten (y0 - 6)))), (11, vi y0), (0, vr 6 31), (6, vl x6), (8, vi x8), (9, vl x9)]) (st1 := []) (h1 := xhp (sI (sI s 31 2 0) 31 2 (zb (!decide ((x9 - x9 / (iten (y0 - 6)) * (iten (y0 - 6))) = 0))))) 1 (fun _ _ _ _ => rfl) (zb01 _) ?_
      refine xW.seg (pc1 := 194) (L1 := [(12, vl (x9 / (iten (y0 - 6)))), (11, vi y0), (0, vr 6 31), (6, vl x6), (8, vi x8), (9, vl x9)]) (st1 := []) (h1 := xhp (sI (sI s 31 2 0) 31 2 (zb (!decide ((x9 - x9 / (iten (y0 - 6)) * (iten (y0 - 6))) = 0))))) 1 (fun _ _ _ _ => rfl) ?_
      exact xW.locs (L := [(0, vr 6 31), (6, vl x6), (8, vi x8), (9, vl x9), (12, vl (x9 / (iten (y0 - 6))))]) ⟨rfl, rfl, rfl, rfl, rfl, trivial⟩ rfl g
  · replace g := g.2 hc
    refine xW.side (c := vp_in (6 - y0) 19) (pc1 := 133) (L1 := [(12, vl 0), (11, vi y0), (0, vr 6 31), (6, vl x6), (8, vi x8), (9, vl x9)]) (st1 := [vl (iten (6 - y0)), vl x9]) (h1 := xhp (sI s 31 2 0)) 6 (fun _ _ _ _ => rfl) g.1 ?_
    replace g := g.2
    refine xW.seg (pc1 := 194) (L1 := [(12, vl (x9 * (iten (6 - y0)))), (11, vi y0), (0, vr 6 31), (6, vl x6), (8, vi x8), (9, vl x9)]) (st1 := []) (h1 := xhp (sI s 31 2 0)) 3 (fun _ _ _ _ => rfl) ?_
    exact xW.locs (L := [(0, vr 6 31), (6, vl x6), (8, vi x8), (9, vl x9), (12, vl (x9 * (iten (6 - y0))))]) ⟨rfl, rfl, rfl, rfl, rfl, trivial⟩ rfl g
noncomputable def ar_add_105_d (s : xS) (x6 : Int64) (x8 : Int32) (x9 : Int64) (y0 : Int32) : xS := (if 6 < y0 then (if 18 < y0 then (ar_add_194 (sI (sI s 31 2 0) 31 2 1) x6 x8 x9 0) else (ar_add_194 (sI (sI s 31 2 0) 31 2 (zb (!decide ((x9 - x9 / (iten (y0 - 6)) * (iten (y0 - 6))) = 0)))) x6 x8 x9 (x9 / (iten (y0 - 6))))) else (ar_add_194 (sI s 31 2 0) x6 x8 x9 (x9 * (iten (6 - y0)))))
noncomputable def ar_add_105 : xS → Int64 → Int32 → Int64 → Int32 → xS := Classical.choose (⟨ar_add_105_d, rfl⟩ : ∃ f, f = ar_add_105_d)
set_option maxRecDepth 100000 in
theorem ar_add_105_eq : ar_add_105 = ar_add_105_d := Classical.choose_spec (⟨ar_add_105_d, rfl⟩ : ∃ f, f = ar_add_105_d)
def ar_add_105_ok (s : xS) (x6 : Int64) (x8 : Int32) (x9 : Int64) (y0 : Int32) : Prop := ((6 < y0 → (¬ (18 < y0) → ((vp_in (y0 - 6) 19) ∧ ((¬ (iten (y0 - 6)) = 0) ∧ ((vp_in (y0 - 6) 19) ∧ (¬ (iten (y0 - 6)) = 0)))))) ∧ (¬ (6 < y0) → (vp_in (6 - y0) 19)))
set_option maxRecDepth 100000 in
theorem n119_105 {xs : Nat → Int32} {Ls : Nat} {Φ : Option xV → xH → Prop} (s : xS) (x6 : Int64) (x8 : Int32) (x9 : Int64) (y0 : Int32) (gq : ar_add_105_ok s x6 x8 x9 y0) (h : Φ none (xhp (ar_add_105 s x6 x8 x9 y0))) : xW (xX0 xs Ls) p119 105 [(0, vr 6 31), (6, vl x6), (8, vi x8), (9, vl x9)] [vi y0] (xhp s) Φ := by
  rw [ar_add_105_eq] at h
  unfold ar_add_105_d at h
  unfold ar_add_105_ok at gq
  exact b119_105 s x6 x8 x9 y0 (⟨fun hc => by rw [if_pos hc] at h; replace gq := gq.1 hc; exact ⟨fun hc => by rw [if_pos hc] at h; exact n119_194 _ _ _ _ _ h, fun hc => by rw [if_neg hc] at h; replace gq := gq hc; exact ⟨gq.1, by replace gq := gq.2; exact ⟨gq.1, by replace gq := gq.2; exact ⟨gq.1, by replace gq := gq.2; exact ⟨gq, n119_194 _ _ _ _ _ h⟩⟩⟩⟩⟩, fun hc => by rw [if_neg hc] at h; replace gq := gq.2 hc; exact ⟨gq, n119_194 _ _ _ _ _ h⟩⟩)
set_option maxRecDepth 100000 in
theorem b119_75 {xs : Nat → Int32} {Ls : Nat} {Φ : Option xV → xH → Prop} (s : xS) (l : Nat) (x4 : Int32) (x5 : Int32) (x6 : Int64) (x8 : Int32) (y0 : Int64) (g : xW (xX0 xs Ls) p119 105 [(0, vr 6 31), (6, vl x6), (8, vi x8), (9, vl y0)] [vi (if y0 = 0 then (0 : Int32) else (if x5 = 0 then (x8 - (gI s l 1)) else (x8 - x4)))] (xhp s) Φ) : xW (xX0 xs Ls) p119 75 [(0, vr 6 31), (1, vr 5 l), (4, vi x4), (5, vi x5), (6, vl x6), (8, vi x8)] [vl y0] (xhp s) Φ := by
  refine xW.seg (pc1 := 81) (L1 := [(9, vl y0), (0, vr 6 31), (1, vr 5 l), (4, vi x4), (5, vi x5), (6, vl x6), (8, vi x8)]) (st1 := [vi (lg_cmp y0 0)]) (h1 := xhp s) 4 (fun _ _ _ _ => rfl) ?_
  suffices J : xW (xX0 xs Ls) p119 105 [(9, vl y0), (0, vr 6 31), (1, vr 5 l), (4, vi x4), (5, vi x5), (6, vl x6), (8, vi x8)] [vi (if y0 = 0 then (0 : Int32) else (if x5 = 0 then (x8 - (gI s l 1)) else (x8 - x4)))] (xhp s) Φ by
    refine xW.br (c := ¬ (lg_cmp y0 0) = 0) (pc1 := 88) (L1 := [(9, vl y0), (0, vr 6 31), (1, vr 5 l), (4, vi x4), (5, vi x5), (6, vl x6), (8, vi x8)]) (st1 := []) (h1 := xhp s) (pc2 := 84) (L2 := [(9, vl y0), (0, vr 6 31), (1, vr 5 l), (4, vi x4), (5, vi x5), (6, vl x6), (8, vi x8)]) (st2 := []) (h2 := xhp s) 1 (fun _ _ _ _ => rfl) (fun hc => ?_) (fun hc => ?_)
    · have hc1 : ¬ y0 = 0 := (fun q => hc (lc_eq.mpr q))
      refine xW.br (c := x5 = 0) (pc1 := 100) (L1 := [(9, vl y0), (0, vr 6 31), (1, vr 5 l), (4, vi x4), (5, vi x5), (6, vl x6), (8, vi x8)]) (st1 := [vi x8]) (h1 := xhp s) (pc2 := 95) (L2 := [(9, vl y0), (0, vr 6 31), (1, vr 5 l), (4, vi x4), (5, vi x5), (6, vl x6), (8, vi x8)]) (st2 := [vi x8]) (h2 := xhp s) 3 (fun _ _ _ _ => rfl) (fun hc => ?_) (fun hc => ?_)
      · have hc2 : x5 = 0 := hc
        refine xW.seg (pc1 := 105) (L1 := [(9, vl y0), (0, vr 6 31), (1, vr 5 l), (4, vi x4), (5, vi x5), (6, vl x6), (8, vi x8)]) (st1 := [vi (x8 - (gI s l 1))]) (h1 := xhp s) 3 (fun _ _ _ _ => rfl) ?_
        refine xW.to (v := vi (if y0 = 0 then (0 : Int32) else (if x5 = 0 then (x8 - (gI s l 1)) else (x8 - x4)))) ((congrArg vi ((if_neg hc1).trans (if_pos hc2))).symm) ?_
        exact J
      · have hc2 : ¬ (x5 = 0) := hc
        refine xW.seg (pc1 := 105) (L1 := [(9, vl y0), (0, vr 6 31), (1, vr 5 l), (4, vi x4), (5, vi x5), (6, vl x6), (8, vi x8)]) (st1 := [vi (x8 - x4)]) (h1 := xhp s) 3 (fun _ _ _ _ => rfl) ?_
        refine xW.to (v := vi (if y0 = 0 then (0 : Int32) else (if x5 = 0 then (x8 - (gI s l 1)) else (x8 - x4)))) ((congrArg vi ((if_neg hc1).trans (if_neg hc2))).symm) ?_
        exact J
    · have hc1 : y0 = 0 := (lc_eq.mp (Decidable.not_not.mp hc))
      refine xW.seg (pc1 := 105) (L1 := [(9, vl y0), (0, vr 6 31), (1, vr 5 l), (4, vi x4), (5, vi x5), (6, vl x6), (8, vi x8)]) (st1 := [vi 0]) (h1 := xhp s) 2 (fun _ _ _ _ => rfl) ?_
      refine xW.to (v := vi (if y0 = 0 then (0 : Int32) else (if x5 = 0 then (x8 - (gI s l 1)) else (x8 - x4)))) ((congrArg vi (if_pos hc1)).symm) ?_
      exact J
  exact xW.locs (L := [(0, vr 6 31), (6, vl x6), (8, vi x8), (9, vl y0)]) ⟨rfl, rfl, rfl, rfl, trivial⟩ rfl g
noncomputable def ar_add_75_d (s : xS) (l : Nat) (x4 : Int32) (x5 : Int32) (x6 : Int64) (x8 : Int32) (y0 : Int64) : xS := (ar_add_105 s x6 x8 y0 (if y0 = 0 then (0 : Int32) else (if x5 = 0 then (x8 - (gI s l 1)) else (x8 - x4))))
noncomputable def ar_add_75 : xS → Nat → Int32 → Int32 → Int64 → Int32 → Int64 → xS := Classical.choose (⟨ar_add_75_d, rfl⟩ : ∃ f, f = ar_add_75_d)
set_option maxRecDepth 100000 in
theorem ar_add_75_eq : ar_add_75 = ar_add_75_d := Classical.choose_spec (⟨ar_add_75_d, rfl⟩ : ∃ f, f = ar_add_75_d)
def ar_add_75_ok (s : xS) (l : Nat) (x4 : Int32) (x5 : Int32) (x6 : Int64) (x8 : Int32) (y0 : Int64) : Prop := (ar_add_105_ok s x6 x8 y0 (if y0 = 0 then (0 : Int32) else (if x5 = 0 then (x8 - (gI s l 1)) else (x8 - x4))))
set_option maxRecDepth 100000 in
theorem n119_75 {xs : Nat → Int32} {Ls : Nat} {Φ : Option xV → xH → Prop} (s : xS) (l : Nat) (x4 : Int32) (x5 : Int32) (x6 : Int64) (x8 : Int32) (y0 : Int64) (gq : ar_add_75_ok s l x4 x5 x6 x8 y0) (h : Φ none (xhp (ar_add_75 s l x4 x5 x6 x8 y0))) : xW (xX0 xs Ls) p119 75 [(0, vr 6 31), (1, vr 5 l), (4, vi x4), (5, vi x5), (6, vl x6), (8, vi x8)] [vl y0] (xhp s) Φ := by
  rw [ar_add_75_eq] at h
  unfold ar_add_75_d at h
  unfold ar_add_75_ok at gq
  exact b119_75 s l x4 x5 x6 x8 y0 (n119_105 _ _ _ _ _ gq h)
set_option maxRecDepth 100000 in
theorem b119_60 {xs : Nat → Int32} {Ls : Nat} {Φ : Option xV → xH → Prop} (s : xS) (l : Nat) (x2 : Int64) (x4 : Int32) (x5 : Int32) (x6 : Int64) (y0 : Int32) (g : xW (xX0 xs Ls) p119 75 [(0, vr 6 31), (1, vr 5 l), (4, vi x4), (5, vi x5), (6, vl x6), (8, vi y0)] [vl (if x5 = 0 then (gJ s l 0) else x2)] (xhp s) Φ) : xW (xX0 xs Ls) p119 60 [(0, vr 6 31), (1, vr 5 l), (2, vl x2), (4, vi x4), (5, vi x5), (6, vl x6)] [vi y0] (xhp s) Φ := by
  refine xW.seg (pc1 := 64) (L1 := [(8, vi y0), (0, vr 6 31), (1, vr 5 l), (2, vl x2), (4, vi x4), (5, vi x5), (6, vl x6)]) (st1 := [vi x5]) (h1 := xhp s) 2 (fun _ _ _ _ => rfl) ?_
  suffices J : xW (xX0 xs Ls) p119 75 [(8, vi y0), (0, vr 6 31), (1, vr 5 l), (2, vl x2), (4, vi x4), (5, vi x5), (6, vl x6)] [vl (if x5 = 0 then (gJ s l 0) else x2)] (xhp s) Φ by
    refine xW.br (c := x5 = 0) (pc1 := 71) (L1 := [(8, vi y0), (0, vr 6 31), (1, vr 5 l), (2, vl x2), (4, vi x4), (5, vi x5), (6, vl x6)]) (st1 := []) (h1 := xhp s) (pc2 := 67) (L2 := [(8, vi y0), (0, vr 6 31), (1, vr 5 l), (2, vl x2), (4, vi x4), (5, vi x5), (6, vl x6)]) (st2 := []) (h2 := xhp s) 1 (fun _ _ _ _ => rfl) (fun hc => ?_) (fun hc => ?_)
    · have hc1 : x5 = 0 := hc
      refine xW.seg (pc1 := 75) (L1 := [(8, vi y0), (0, vr 6 31), (1, vr 5 l), (2, vl x2), (4, vi x4), (5, vi x5), (6, vl x6)]) (st1 := [vl (gJ s l 0)]) (h1 := xhp s) 2 (fun _ _ _ _ => rfl) ?_
      refine xW.to (v := vl (if x5 = 0 then (gJ s l 0) else x2)) ((congrArg vl (if_pos hc1)).symm) ?_
      exact J
    · have hc1 : ¬ (x5 = 0) := hc
      refine xW.seg (pc1 := 75) (L1 := [(8, vi y0), (0, vr 6 31), (1, vr 5 l), (2, vl x2), (4, vi x4), (5, vi x5), (6, vl x6)]) (st1 := [vl x2]) (h1 := xhp s) 2 (fun _ _ _ _ => rfl) ?_
      refine xW.to (v := vl (if x5 = 0 then (gJ s l 0) else x2)) ((congrArg vl (if_neg hc1)).symm) ?_
      exact J
  exact xW.locs (L := [(0, vr 6 31), (1, vr 5 l), (4, vi x4), (5, vi x5), (6, vl x6), (8, vi y0)]) ⟨rfl, rfl, rfl, rfl, rfl, rfl, trivial⟩ rfl g
noncomputable def ar_add_60_d (s : xS) (l : Nat) (x2 : Int64) (x4 : Int32) (x5 : Int32) (x6 : Int64) (y0 : Int32) : xS := (ar_add_75 s l x4 x5 x6 y0 (if x5 = 0 then (gJ s l 0) else x2))
noncomputable def ar_add_60 : xS → Nat → Int64 → Int32 → Int32 → Int64 → Int32 → xS := Classical.choose (⟨ar_add_60_d, rfl⟩ : ∃ f, f = ar_add_60_d)
set_option maxRecDepth 100000 in
theorem ar_add_60_eq : ar_add_60 = ar_add_60_d := Classical.choose_spec (⟨ar_add_60_d, rfl⟩ : ∃ f, f = ar_add_60_d)
def ar_add_60_ok (s : xS) (l : Nat) (x2 : Int64) (x4 : Int32) (x5 : Int32) (x6 : Int64) (y0 : Int32) : Prop := (ar_add_75_ok s l x4 x5 x6 y0 (if x5 = 0 then (gJ s l 0) else x2))
set_option maxRecDepth 100000 in
theorem n119_60 {xs : Nat → Int32} {Ls : Nat} {Φ : Option xV → xH → Prop} (s : xS) (l : Nat) (x2 : Int64) (x4 : Int32) (x5 : Int32) (x6 : Int64) (y0 : Int32) (gq : ar_add_60_ok s l x2 x4 x5 x6 y0) (h : Φ none (xhp (ar_add_60 s l x2 x4 x5 x6 y0))) : xW (xX0 xs Ls) p119 60 [(0, vr 6 31), (1, vr 5 l), (2, vl x2), (4, vi x4), (5, vi x5), (6, vl x6)] [vi y0] (xhp s) Φ := by
  rw [ar_add_60_eq] at h
  unfold ar_add_60_d at h
  unfold ar_add_60_ok at gq
  exact b119_60 s l x2 x4 x5 x6 y0 (n119_75 _ _ _ _ _ _ _ gq h)
set_option maxRecDepth 100000 in
theorem b119_44 {xs : Nat → Int32} {Ls : Nat} {Φ : Option xV → xH → Prop} (s : xS) (l : Nat) (x2 : Int64) (x4 : Int32) (x5 : Int32) (y0 : Int64) (g : xW (xX0 xs Ls) p119 60 [(0, vr 6 31), (1, vr 5 l), (2, vl x2), (4, vi x4), (5, vi x5), (6, vl y0)] [vi (if x5 = 0 then x4 else (gI s l 1))] (xhp s) Φ) : xW (xX0 xs Ls) p119 44 [(0, vr 6 31), (1, vr 5 l), (2, vl x2), (4, vi x4), (5, vi x5)] [vl y0] (xhp s) Φ := by
  refine xW.seg (pc1 := 48) (L1 := [(6, vl y0), (0, vr 6 31), (1, vr 5 l), (2, vl x2), (4, vi x4), (5, vi x5)]) (st1 := [vi x5]) (h1 := xhp s) 2 (fun _ _ _ _ => rfl) ?_
  suffices J : xW (xX0 xs Ls) p119 60 [(6, vl y0), (0, vr 6 31), (1, vr 5 l), (2, vl x2), (4, vi x4), (5, vi x5)] [vi (if x5 = 0 then x4 else (gI s l 1))] (xhp s) Φ by
    refine xW.br (c := x5 = 0) (pc1 := 58) (L1 := [(6, vl y0), (0, vr 6 31), (1, vr 5 l), (2, vl x2), (4, vi x4), (5, vi x5)]) (st1 := []) (h1 := xhp s) (pc2 := 51) (L2 := [(6, vl y0), (0, vr 6 31), (1, vr 5 l), (2, vl x2), (4, vi x4), (5, vi x5)]) (st2 := []) (h2 := xhp s) 1 (fun _ _ _ _ => rfl) (fun hc => ?_) (fun hc => ?_)
    · have hc1 : x5 = 0 := hc
      refine xW.seg (pc1 := 60) (L1 := [(6, vl y0), (0, vr 6 31), (1, vr 5 l), (2, vl x2), (4, vi x4), (5, vi x5)]) (st1 := [vi x4]) (h1 := xhp s) 1 (fun _ _ _ _ => rfl) ?_
      refine xW.to (v := vi (if x5 = 0 then x4 else (gI s l 1))) ((congrArg vi (if_pos hc1)).symm) ?_
      exact J
    · have hc1 : ¬ (x5 = 0) := hc
      refine xW.seg (pc1 := 60) (L1 := [(6, vl y0), (0, vr 6 31), (1, vr 5 l), (2, vl x2), (4, vi x4), (5, vi x5)]) (st1 := [vi (gI s l 1)]) (h1 := xhp s) 3 (fun _ _ _ _ => rfl) ?_
      refine xW.to (v := vi (if x5 = 0 then x4 else (gI s l 1))) ((congrArg vi (if_neg hc1)).symm) ?_
      exact J
  exact xW.locs (L := [(0, vr 6 31), (1, vr 5 l), (2, vl x2), (4, vi x4), (5, vi x5), (6, vl y0)]) ⟨rfl, rfl, rfl, rfl, rfl, rfl, trivial⟩ rfl g
noncomputable def ar_add_44_d (s : xS) (l : Nat) (x2 : Int64) (x4 : Int32) (x5 : Int32) (y0 : Int64) : xS := (ar_add_60 s l x2 x4 x5 y0 (if x5 = 0 then x4 else (gI s l 1)))
noncomputable def ar_add_44 : xS → Nat → Int64 → Int32 → Int32 → Int64 → xS := Classical.choose (⟨ar_add_44_d, rfl⟩ : ∃ f, f = ar_add_44_d)
set_option maxRecDepth 100000 in
theorem ar_add_44_eq : ar_add_44 = ar_add_44_d := Classical.choose_spec (⟨ar_add_44_d, rfl⟩ : ∃ f, f = ar_add_44_d)
def ar_add_44_ok (s : xS) (l : Nat) (x2 : Int64) (x4 : Int32) (x5 : Int32) (y0 : Int64) : Prop := (ar_add_60_ok s l x2 x4 x5 y0 (if x5 = 0 then x4 else (gI s l 1)))
set_option maxRecDepth 100000 in
theorem n119_44 {xs : Nat → Int32} {Ls : Nat} {Φ : Option xV → xH → Prop} (s : xS) (l : Nat) (x2 : Int64) (x4 : Int32) (x5 : Int32) (y0 : Int64) (gq : ar_add_44_ok s l x2 x4 x5 y0) (h : Φ none (xhp (ar_add_44 s l x2 x4 x5 y0))) : xW (xX0 xs Ls) p119 44 [(0, vr 6 31), (1, vr 5 l), (2, vl x2), (4, vi x4), (5, vi x5)] [vl y0] (xhp s) Φ := by
  rw [ar_add_44_eq] at h
  unfold ar_add_44_d at h
  unfold ar_add_44_ok at gq
  exact b119_44 s l x2 x4 x5 y0 (n119_60 _ _ _ _ _ _ _ gq h)
set_option maxRecDepth 100000 in
theorem b119_29 {xs : Nat → Int32} {Ls : Nat} {Φ : Option xV → xH → Prop} (s : xS) (l : Nat) (x2 : Int64) (x4 : Int32) (y0 : Int32) (g : xW (xX0 xs Ls) p119 44 [(0, vr 6 31), (1, vr 5 l), (2, vl x2), (4, vi x4), (5, vi y0)] [vl (if y0 = 0 then x2 else (gJ s l 0))] (xhp s) Φ) : xW (xX0 xs Ls) p119 29 [(0, vr 6 31), (1, vr 5 l), (2, vl x2), (4, vi x4)] [vi y0] (xhp s) Φ := by
  refine xW.seg (pc1 := 33) (L1 := [(5, vi y0), (0, vr 6 31), (1, vr 5 l), (2, vl x2), (4, vi x4)]) (st1 := [vi y0]) (h1 := xhp s) 2 (fun _ _ _ _ => rfl) ?_
  suffices J : xW (xX0 xs Ls) p119 44 [(5, vi y0), (0, vr 6 31), (1, vr 5 l), (2, vl x2), (4, vi x4)] [vl (if y0 = 0 then x2 else (gJ s l 0))] (xhp s) Φ by
    refine xW.br (c := y0 = 0) (pc1 := 43) (L1 := [(5, vi y0), (0, vr 6 31), (1, vr 5 l), (2, vl x2), (4, vi x4)]) (st1 := []) (h1 := xhp s) (pc2 := 36) (L2 := [(5, vi y0), (0, vr 6 31), (1, vr 5 l), (2, vl x2), (4, vi x4)]) (st2 := []) (h2 := xhp s) 1 (fun _ _ _ _ => rfl) (fun hc => ?_) (fun hc => ?_)
    · have hc1 : y0 = 0 := hc
      refine xW.seg (pc1 := 44) (L1 := [(5, vi y0), (0, vr 6 31), (1, vr 5 l), (2, vl x2), (4, vi x4)]) (st1 := [vl x2]) (h1 := xhp s) 1 (fun _ _ _ _ => rfl) ?_
      refine xW.to (v := vl (if y0 = 0 then x2 else (gJ s l 0))) ((congrArg vl (if_pos hc1)).symm) ?_
      exact J
    · have hc1 : ¬ (y0 = 0) := hc
      refine xW.seg (pc1 := 44) (L1 := [(5, vi y0), (0, vr 6 31), (1, vr 5 l), (2, vl x2), (4, vi x4)]) (st1 := [vl (gJ s l 0)]) (h1 := xhp s) 3 (fun _ _ _ _ => rfl) ?_
      refine xW.to (v := vl (if y0 = 0 then x2 else (gJ s l 0))) ((congrArg vl (if_neg hc1)).symm) ?_
      exact J
  exact xW.locs (L := [(0, vr 6 31), (1, vr 5 l), (2, vl x2), (4, vi x4), (5, vi y0)]) ⟨rfl, rfl, rfl, rfl, rfl, trivial⟩ rfl g
noncomputable def ar_add_29_d (s : xS) (l : Nat) (x2 : Int64) (x4 : Int32) (y0 : Int32) : xS := (ar_add_44 s l x2 x4 y0 (if y0 = 0 then x2 else (gJ s l 0)))
noncomputable def ar_add_29 : xS → Nat → Int64 → Int32 → Int32 → xS := Classical.choose (⟨ar_add_29_d, rfl⟩ : ∃ f, f = ar_add_29_d)
set_option maxRecDepth 100000 in
theorem ar_add_29_eq : ar_add_29 = ar_add_29_d := Classical.choose_spec (⟨ar_add_29_d, rfl⟩ : ∃ f, f = ar_add_29_d)
def ar_add_29_ok (s : xS) (l : Nat) (x2 : Int64) (x4 : Int32) (y0 : Int32) : Prop := (ar_add_44_ok s l x2 x4 y0 (if y0 = 0 then x2 else (gJ s l 0)))
set_option maxRecDepth 100000 in
theorem n119_29 {xs : Nat → Int32} {Ls : Nat} {Φ : Option xV → xH → Prop} (s : xS) (l : Nat) (x2 : Int64) (x4 : Int32) (y0 : Int32) (gq : ar_add_29_ok s l x2 x4 y0) (h : Φ none (xhp (ar_add_29 s l x2 x4 y0))) : xW (xX0 xs Ls) p119 29 [(0, vr 6 31), (1, vr 5 l), (2, vl x2), (4, vi x4)] [vi y0] (xhp s) Φ := by
  rw [ar_add_29_eq] at h
  unfold ar_add_29_d at h
  unfold ar_add_29_ok at gq
  exact b119_29 s l x2 x4 y0 (n119_44 _ _ _ _ _ _ gq h)
set_option maxRecDepth 100000 in
theorem b119_0 {xs : Nat → Int32} {Ls : Nat} {Φ : Option xV → xH → Prop} (s : xS) (l : Nat) (z : Int64) (p : Int32) (g : xW (xX0 xs Ls) p119 29 [(0, vr 6 31), (1, vr 5 l), (2, vl z), (4, vi p)] [vi (zb ((decide (z = 0)) || ((!decide ((gJ s l 0) = 0)) && (!decide ((gI s l 1) < p)))))] (xhp s) Φ) : xW (xX0 xs Ls) p119 0 [(0, vr 6 31), (1, vr 5 l), (2, vl z), (4, vi p)] [] (xhp s) Φ := by
  refine xW.seg (pc1 := 3) (L1 := [(0, vr 6 31), (1, vr 5 l), (2, vl z), (4, vi p)]) (st1 := [vi (lg_cmp z 0)]) (h1 := xhp s) 3 (fun _ _ _ _ => rfl) ?_
  suffices J : xW (xX0 xs Ls) p119 29 [(0, vr 6 31), (1, vr 5 l), (2, vl z), (4, vi p)] [vi (zb ((decide (z = 0)) || ((!decide ((gJ s l 0) = 0)) && (!decide ((gI s l 1) < p)))))] (xhp s) Φ by
    refine xW.br (c := (lg_cmp z 0) = 0) (pc1 := 24) (L1 := [(0, vr 6 31), (1, vr 5 l), (2, vl z), (4, vi p)]) (st1 := []) (h1 := xhp s) (pc2 := 6) (L2 := [(0, vr 6 31), (1, vr 5 l), (2, vl z), (4, vi p)]) (st2 := []) (h2 := xhp s) 1 (fun _ _ _ _ => rfl) (fun hc => ?_) (fun hc => ?_)
    · have hc1 : z = 0 := (lc_eq.mp hc)
      refine xW.seg (pc1 := 29) (L1 := [(0, vr 6 31), (1, vr 5 l), (2, vl z), (4, vi p)]) (st1 := [vi 1]) (h1 := xhp s) 2 (fun _ _ _ _ => rfl) ?_
      refine xW.to (v := vi (zb ((decide (z = 0)) || ((!decide ((gJ s l 0) = 0)) && (!decide ((gI s l 1) < p)))))) (zb_t (by simp only [decide_eq_true hc1, Bool.true_or, Bool.or_true, Bool.false_or, Bool.or_false, Bool.true_and, Bool.and_true, Bool.false_and, Bool.and_false, Bool.not_true, Bool.not_false, cond_true, cond_false])) ?_
      exact J
    · have hc1 : ¬ (z = 0) := (fun q => hc (lc_eq.mpr q))
      refine xW.br (c := (lg_cmp (gJ s l 0) 0) = 0) (pc1 := 28) (L1 := [(0, vr 6 31), (1, vr 5 l), (2, vl z), (4, vi p)]) (st1 := []) (h1 := xhp s) (pc2 := 15) (L2 := [(0, vr 6 31), (1, vr 5 l), (2, vl z), (4, vi p)]) (st2 := []) (h2 := xhp s) 5 (fun _ _ _ _ => rfl) (fun hc => ?_) (fun hc => ?_)
      · have hc2 : (gJ s l 0) = 0 := (lc_eq.mp hc)
        refine xW.seg (pc1 := 29) (L1 := [(0, vr 6 31), (1, vr 5 l), (2, vl z), (4, vi p)]) (st1 := [vi 0]) (h1 := xhp s) 1 (fun _ _ _ _ => rfl) ?_
        refine xW.to (v := vi (zb ((decide (z = 0)) || ((!decide ((gJ s l 0) = 0)) && (!decide ((gI s l 1) < p)))))) (zb_f (by simp only [decide_eq_false hc1, decide_eq_true hc2, Bool.true_or, Bool.or_true, Bool.false_or, Bool.or_false, Bool.true_and, Bool.and_true, Bool.false_and, Bool.and_false, Bool.not_true, Bool.not_false, cond_true, cond_false])) ?_
        exact J
      · have hc2 : ¬ ((gJ s l 0) = 0) := (fun q => hc (lc_eq.mpr q))
        refine xW.br (c := (gI s l 1) < p) (pc1 := 28) (L1 := [(0, vr 6 31), (1, vr 5 l), (2, vl z), (4, vi p)]) (st1 := []) (h1 := xhp s) (pc2 := 24) (L2 := [(0, vr 6 31), (1, vr 5 l), (2, vl z), (4, vi p)]) (st2 := []) (h2 := xhp s) 4 (fun _ _ _ _ => rfl) (fun hc => ?_) (fun hc => ?_)
        · have hc3 : (gI s l 1) < p := hc
          refine xW.seg (pc1 := 29) (L1 := [(0, vr 6 31), (1, vr 5 l), (2, vl z), (4, vi p)]) (st1 := [vi 0]) (h1 := xhp s) 1 (fun _ _ _ _ => rfl) ?_
          refine xW.to (v := vi (zb ((decide (z = 0)) || ((!decide ((gJ s l 0) = 0)) && (!decide ((gI s l 1) < p)))))) (zb_f (by simp only [decide_eq_false hc1, decide_eq_false hc2, decide_eq_true hc3, Bool.true_or, Bool.or_true, Bool.false_or, Bool.or_false, Bool.true_and, Bool.and_true, Bool.false_and, Bool.and_false, Bool.not_true, Bool.not_false, cond_true, cond_false])) ?_
          exact J
        · have hc3 : ¬ ((gI s l 1) < p) := hc
          refine xW.seg (pc1 := 29) (L1 := [(0, vr 6 31), (1, vr 5 l), (2, vl z), (4, vi p)]) (st1 := [vi 1]) (h1 := xhp s) 2 (fun _ _ _ _ => rfl) ?_
          refine xW.to (v := vi (zb ((decide (z = 0)) || ((!decide ((gJ s l 0) = 0)) && (!decide ((gI s l 1) < p)))))) (zb_t (by simp only [decide_eq_false hc1, decide_eq_false hc2, decide_eq_false hc3, Bool.true_or, Bool.or_true, Bool.false_or, Bool.or_false, Bool.true_and, Bool.and_true, Bool.false_and, Bool.and_false, Bool.not_true, Bool.not_false, cond_true, cond_false])) ?_
          exact J
  exact g
noncomputable def ar_add_d (s : xS) (l : Nat) (z : Int64) (p : Int32) : xS := (ar_add_29 s l z p (zb ((decide (z = 0)) || ((!decide ((gJ s l 0) = 0)) && (!decide ((gI s l 1) < p))))))
noncomputable def ar_add : xS → Nat → Int64 → Int32 → xS := Classical.choose (⟨ar_add_d, rfl⟩ : ∃ f, f = ar_add_d)
set_option maxRecDepth 100000 in
theorem ar_add_eq : ar_add = ar_add_d := Classical.choose_spec (⟨ar_add_d, rfl⟩ : ∃ f, f = ar_add_d)
def ar_add_ok (s : xS) (l : Nat) (z : Int64) (p : Int32) : Prop := (ar_add_29_ok s l z p (zb ((decide (z = 0)) || ((!decide ((gJ s l 0) = 0)) && (!decide ((gI s l 1) < p))))))
set_option maxRecDepth 100000 in
theorem m119 {xs : Nat → Int32} {Ls : Nat} {Ψ : xO → xH → Prop} (s : xS) (l : Nat) (z : Int64) (p : Int32) (gq : ar_add_ok s l z p) (h : Ψ (.inl none) (xhp (ar_add s l z p))) : xM (xX0 xs Ls) 119 [vr 6 31, vr 5 l, vl z, vi p] (xhp s) Ψ := by
  rw [ar_add_eq] at h
  unfold ar_add_d at h
  unfold ar_add_ok at gq
  exact xM.of (P := p119) rfl rfl rfl (b119_0 s l z p (n119_29 _ _ _ _ _ gq h))
/-! ar_multiply -/
theorem b120_0 {xs : Nat → Int32} {Ls : Nat} {Φ : Option xV → xH → Prop} (s : xS) (l : Nat) (r : Nat) (g : Φ none (xhp (sI (sI (sJ (sI s 31 0 (zb (!decide ((zb (de_isBelowZero s l)) = (zb (de_isBelowZero s r)))))) 31 1 ((((((labs (gJ s l 0)) / 1000000) * ((labs (gJ s r 0)) / 1000000)) * 1000000) + ((((labs (gJ s l 0)) / 1000000) * ((labs (gJ s r 0)) - (labs (gJ s r 0)) / 1000000 * 1000000)) + (((labs (gJ s l 0)) - (labs (gJ s l 0)) / 1000000 * 1000000) * ((labs (gJ s r 0)) / 1000000)))) + ((((labs (gJ s l 0)) - (labs (gJ s l 0)) / 1000000 * 1000000) * ((labs (gJ s r 0)) - (labs (gJ s r 0)) / 1000000 * 1000000)) / 1000000))) 31 2 (zb (!decide (((((labs (gJ s l 0)) - (labs (gJ s l 0)) / 1000000 * 1000000) * ((labs (gJ s r 0)) - (labs (gJ s r 0)) / 1000000 * 1000000)) - (((labs (gJ s l 0)) - (labs (gJ s l 0)) / 1000000 * 1000000) * ((labs (gJ s r 0)) - (labs (gJ s r 0)) / 1000000 * 1000000)) / 1000000 * 1000000) = 0)))) 31 3 (((gI (sI (sJ (sI s 31 0 (zb (!decide ((zb (de_isBelowZero s l)) = (zb (de_isBelowZero s r)))))) 31 1 ((((((labs (gJ s l 0)) / 1000000) * ((labs (gJ s r 0)) / 1000000)) * 1000000) + ((((labs (gJ s l 0)) / 1000000) * ((labs (gJ s r 0)) - (labs (gJ s r 0)) / 1000000 * 1000000)) + (((labs (gJ s l 0)) - (labs (gJ s l 0)) / 1000000 * 1000000) * ((labs (gJ s r 0)) / 1000000)))) + ((((labs (gJ s l 0)) - (labs (gJ s l 0)) / 1000000 * 1000000) * ((labs (gJ s r 0)) - (labs (gJ s r 0)) / 1000000 * 1000000)) / 1000000))) 31 2 (zb (!decide (((((labs (gJ s l 0)) - (labs (gJ s l 0)) / 1000000 * 1000000) * ((labs (gJ s r 0)) - (labs (gJ s r 0)) / 1000000 * 1000000)) - (((labs (gJ s l 0)) - (labs (gJ s l 0)) / 1000000 * 1000000) * ((labs (gJ s r 0)) - (labs (gJ s r 0)) / 1000000 * 1000000)) / 1000000 * 1000000) = 0)))) l 1) + (gI (sI (sJ (sI s 31 0 (zb (!decide ((zb (de_isBelowZero s l)) = (zb (de_isBelowZero s r)))))) 31 1 ((((((labs (gJ s l 0)) / 1000000) * ((labs (gJ s r 0)) / 1000000)) * 1000000) + ((((labs (gJ s l 0)) / 1000000) * ((labs (gJ s r 0)) - (labs (gJ s r 0)) / 1000000 * 1000000)) + (((labs (gJ s l 0)) - (labs (gJ s l 0)) / 1000000 * 1000000) * ((labs (gJ s r 0)) / 1000000)))) + ((((labs (gJ s l 0)) - (labs (gJ s l 0)) / 1000000 * 1000000) * ((labs (gJ s r 0)) - (labs (gJ s r 0)) / 1000000 * 1000000)) / 1000000))) 31 2 (zb (!decide (((((labs (gJ s l 0)) - (labs (gJ s l 0)) / 1000000 * 1000000) * ((labs (gJ s r 0)) - (labs (gJ s r 0)) / 1000000 * 1000000)) - (((labs (gJ s l 0)) - (labs (gJ s l 0)) / 1000000 * 1000000) * ((labs (gJ s r 0)) - (labs (gJ s r 0)) / 1000000 * 1000000)) / 1000000 * 1000000) = 0)))) r 1)) - 16)))) : xW (xX0 xs Ls) p120 0 [(0, vr 6 31), (1, vr 5 l), (2, vr 5 r)] [] (xhp s) Φ := by
  refine xW.side (c := vp_in 6 19) (pc1 := 23) (L1 := [(5, vl (labs (gJ s r 0))), (3, vl (labs (gJ s l 0))), (0, vr 6 31), (1, vr 5 l), (2, vr 5 r)]) (st1 := [vl 1000000]) (h1 := xhp s) 11 (fun _ _ _ _ => rfl) (vp_lit rfl) ?_
  refine xW.side (c := ¬ (1000000 : Int64) = 0) (pc1 := 29) (L1 := [(7, vl 1000000), (5, vl (labs (gJ s r 0))), (3, vl (labs (gJ s l 0))), (0, vr 6 31), (1, vr 5 l), (2, vr 5 r)]) (st1 := [vl ((labs (gJ s l 0)) - (labs (gJ s l 0)) / 1000000 * 1000000)]) (h1 := xhp s) 4 (fun _ _ _ _ => rfl) (by decide) ?_
  refine xW.side (c := ¬ (1000000 : Int64) = 0) (pc1 := 34) (L1 := [(7, vl 1000000), (5, vl (labs (gJ s r 0))), (3, vl (labs (gJ s l 0))), (0, vr 6 31), (1, vr 5 l), (2, vr 5 r)]) (st1 := [vl ((labs (gJ s r 0)) - (labs (gJ s r 0)) / 1000000 * 1000000), vl ((labs (gJ s l 0)) - (labs (gJ s l 0)) / 1000000 * 1000000)]) (h1 := xhp s) 3 (fun _ _ _ _ => rfl) (by decide) ?_
  refine xW.side (c := ¬ (1000000 : Int64) = 0) (pc1 := 41) (L1 := [(9, vl (((labs (gJ s l 0)) - (labs (gJ s l 0)) / 1000000 * 1000000) * ((labs (gJ s r 0)) - (labs (gJ s r 0)) / 1000000 * 1000000))), (7, vl 1000000), (5, vl (labs (gJ s r 0))), (3, vl (labs (gJ s l 0))), (0, vr 6 31), (1, vr 5 l), (2, vr 5 r)]) (st1 := [vl ((labs (gJ s l 0)) / 1000000)]) (h1 := xhp s) 5 (fun _ _ _ _ => rfl) (by decide) ?_
  refine xW.side (c := ¬ (1000000 : Int64) = 0) (pc1 := 46) (L1 := [(9, vl (((labs (gJ s l 0)) - (labs (gJ s l 0)) / 1000000 * 1000000) * ((labs (gJ s r 0)) - (labs (gJ s r 0)) / 1000000 * 1000000))), (7, vl 1000000), (5, vl (labs (gJ s r 0))), (3, vl (labs (gJ s l 0))), (0, vr 6 31), (1, vr 5 l), (2, vr 5 r)]) (st1 := [vl ((labs (gJ s r 0)) - (labs (gJ s r 0)) / 1000000 * 1000000), vl ((labs (gJ s l 0)) / 1000000)]) (h1 := xhp s) 3 (fun _ _ _ _ => rfl) (by decide) ?_
  refine xW.side (c := ¬ (1000000 : Int64) = 0) (pc1 := 51) (L1 := [(9, vl (((labs (gJ s l 0)) - (labs (gJ s l 0)) / 1000000 * 1000000) * ((labs (gJ s r 0)) - (labs (gJ s r 0)) / 1000000 * 1000000))), (7, vl 1000000), (5, vl (labs (gJ s r 0))), (3, vl (labs (gJ s l 0))), (0, vr 6 31), (1, vr 5 l), (2, vr 5 r)]) (st1 := [vl ((labs (gJ s l 0)) - (labs (gJ s l 0)) / 1000000 * 1000000), vl (((labs (gJ s l 0)) / 1000000) * ((labs (gJ s r 0)) - (labs (gJ s r 0)) / 1000000 * 1000000))]) (h1 := xhp s) 4 (fun _ _ _ _ => rfl) (by decide) ?_
  refine xW.side (c := ¬ (1000000 : Int64) = 0) (pc1 := 56) (L1 := [(9, vl (((labs (gJ s l 0)) - (labs (gJ s l 0)) / 1000000 * 1000000) * ((labs (gJ s r 0)) - (labs (gJ s r 0)) / 1000000 * 1000000))), (7, vl 1000000), (5, vl (labs (gJ s r 0))), (3, vl (labs (gJ s l 0))), (0, vr 6 31), (1, vr 5 l), (2, vr 5 r)]) (st1 := [vl ((labs (gJ s r 0)) / 1000000), vl ((labs (gJ s l 0)) - (labs (gJ s l 0)) / 1000000 * 1000000), vl (((labs (gJ s l 0)) / 1000000) * ((labs (gJ s r 0)) - (labs (gJ s r 0)) / 1000000 * 1000000))]) (h1 := xhp s) 3 (fun _ _ _ _ => rfl) (by decide) ?_
  refine xW.call (y := 140) (as := [vr 5 l]) (h0 := xhp s) (pc0 := 62) (len := 3) (L0 := [(11, vl ((((labs (gJ s l 0)) / 1000000) * ((labs (gJ s r 0)) - (labs (gJ s r 0)) / 1000000 * 1000000)) + (((labs (gJ s l 0)) - (labs (gJ s l 0)) / 1000000 * 1000000) * ((labs (gJ s r 0)) / 1000000)))), (9, vl (((labs (gJ s l 0)) - (labs (gJ s l 0)) / 1000000 * 1000000) * ((labs (gJ s r 0)) - (labs (gJ s r 0)) / 1000000 * 1000000))), (7, vl 1000000), (5, vl (labs (gJ s r 0))), (3, vl (labs (gJ s l 0))), (0, vr 6 31), (1, vr 5 l), (2, vr 5 r)]) (rest := [vr 6 31]) 6 (fun _ _ _ _ => rfl) (m140 _ _ ?_)
  show xW (xX0 xs Ls) p120 65 [(11, vl ((((labs (gJ s l 0)) / 1000000) * ((labs (gJ s r 0)) - (labs (gJ s r 0)) / 1000000 * 1000000)) + (((labs (gJ s l 0)) - (labs (gJ s l 0)) / 1000000 * 1000000) * ((labs (gJ s r 0)) / 1000000)))), (9, vl (((labs (gJ s l 0)) - (labs (gJ s l 0)) / 1000000 * 1000000) * ((labs (gJ s r 0)) - (labs (gJ s r 0)) / 1000000 * 1000000))), (7, vl 1000000), (5, vl (labs (gJ s r 0))), (3, vl (labs (gJ s l 0))), (0, vr 6 31), (1, vr 5 l), (2, vr 5 r)] [vi (zb (de_isBelowZero s l)), vr 6 31] (xhp s) Φ
  refine xW.call (y := 140) (as := [vr 5 r]) (h0 := xhp s) (pc0 := 66) (len := 3) (L0 := [(11, vl ((((labs (gJ s l 0)) / 1000000) * ((labs (gJ s r 0)) - (labs (gJ s r 0)) / 1000000 * 1000000)) + (((labs (gJ s l 0)) - (labs (gJ s l 0)) / 1000000 * 1000000) * ((labs (gJ s r 0)) / 1000000)))), (9, vl (((labs (gJ s l 0)) - (labs (gJ s l 0)) / 1000000 * 1000000) * ((labs (gJ s r 0)) - (labs (gJ s r 0)) / 1000000 * 1000000))), (7, vl 1000000), (5, vl (labs (gJ s r 0))), (3, vl (labs (gJ s l 0))), (0, vr 6 31), (1, vr 5 l), (2, vr 5 r)]) (rest := [vi (zb (de_isBelowZero s l)), vr 6 31]) 2 (fun _ _ _ _ => rfl) (m140 _ _ ?_)
  show xW (xX0 xs Ls) p120 69 [(11, vl ((((labs (gJ s l 0)) / 1000000) * ((labs (gJ s r 0)) - (labs (gJ s r 0)) / 1000000 * 1000000)) + (((labs (gJ s l 0)) - (labs (gJ s l 0)) / 1000000 * 1000000) * ((labs (gJ s r 0)) / 1000000)))), (9, vl (((labs (gJ s l 0)) - (labs (gJ s l 0)) / 1000000 * 1000000) * ((labs (gJ s r 0)) - (labs (gJ s r 0)) / 1000000 * 1000000))), (7, vl 1000000), (5, vl (labs (gJ s r 0))), (3, vl (labs (gJ s l 0))), (0, vr 6 31), (1, vr 5 l), (2, vr 5 r)] [vi (zb (de_isBelowZero s r)), vi (zb (de_isBelowZero s l)), vr 6 31] (xhp s) Φ
  suffices J : xW (xX0 xs Ls) p120 77 [(11, vl ((((labs (gJ s l 0)) / 1000000) * ((labs (gJ s r 0)) - (labs (gJ s r 0)) / 1000000 * 1000000)) + (((labs (gJ s l 0)) - (labs (gJ s l 0)) / 1000000 * 1000000) * ((labs (gJ s r 0)) / 1000000)))), (9, vl (((labs (gJ s l 0)) - (labs (gJ s l 0)) / 1000000 * 1000000) * ((labs (gJ s r 0)) - (labs (gJ s r 0)) / 1000000 * 1000000))), (7, vl 1000000), (5, vl (labs (gJ s r 0))), (3, vl (labs (gJ s l 0))), (0, vr 6 31), (1, vr 5 l), (2, vr 5 r)] [vi (zb (!decide ((zb (de_isBelowZero s l)) = (zb (de_isBelowZero s r))))), vr 6 31] (xhp s) Φ by
    refine xW.br (c := (zb (de_isBelowZero s l)) = (zb (de_isBelowZero s r))) (pc1 := 76) (L1 := [(11, vl ((((labs (gJ s l 0)) / 1000000) * ((labs (gJ s r 0)) - (labs (gJ s r 0)) / 1000000 * 1000000)) + (((labs (gJ s l 0)) - (labs (gJ s l 0)) / 1000000 * 1000000) * ((labs (gJ s r 0)) / 1000000)))), (9, vl (((labs (gJ s l 0)) - (labs (gJ s l 0)) / 1000000 * 1000000) * ((labs (gJ s r 0)) - (labs (gJ s r 0)) / 1000000 * 1000000))), (7, vl 1000000), (5, vl (labs (gJ s r 0))), (3, vl (labs (gJ s l 0))), (0, vr 6 31), (1, vr 5 l), (2, vr 5 r)]) (st1 := [vr 6 31]) (h1 := xhp s) (pc2 := 72) (L2 := [(11, vl ((((labs (gJ s l 0)) / 1000000) * ((labs (gJ s r 0)) - (labs (gJ s r 0)) / 1000000 * 1000000)) + (((labs (gJ s l 0)) - (labs (gJ s l 0)) / 1000000 * 1000000) * ((labs (gJ s r 0)) / 1000000)))), (9, vl (((labs (gJ s l 0)) - (labs (gJ s l 0)) / 1000000 * 1000000) * ((labs (gJ s r 0)) - (labs (gJ s r 0)) / 1000000 * 1000000))), (7, vl 1000000), (5, vl (labs (gJ s r 0))), (3, vl (labs (gJ s l 0))), (0, vr 6 31), (1, vr 5 l), (2, vr 5 r)]) (st2 := [vr 6 31]) (h2 := xhp s) 1 (fun _ _ _ _ => rfl) (fun hc => ?_) (fun hc => ?_)
    · have hc1 : (zb (de_isBelowZero s l)) = (zb (de_isBelowZero s r)) := hc
      refine xW.seg (pc1 := 77) (L1 := [(11, vl ((((labs (gJ s l 0)) / 1000000) * ((labs (gJ s r 0)) - (labs (gJ s r 0)) / 1000000 * 1000000)) + (((labs (gJ s l 0)) - (labs (gJ s l 0)) / 1000000 * 1000000) * ((labs (gJ s r 0)) / 1000000)))), (9, vl (((labs (gJ s l 0)) - (labs (gJ s l 0)) / 1000000 * 1000000) * ((labs (gJ s r 0)) - (labs (gJ s r 0)) / 1000000 * 1000000))), (7, vl 1000000), (5, vl (labs (gJ s r 0))), (3, vl (labs (gJ s l 0))), (0, vr 6 31), (1, vr 5 l), (2, vr 5 r)]) (st1 := [vi 0, vr 6 31]) (h1 := xhp s) 1 (fun _ _ _ _ => rfl) ?_
      refine xW.to (v := vi (zb (!decide ((zb (de_isBelowZero s l)) = (zb (de_isBelowZero s r)))))) (zb_f (by simp only [decide_eq_true hc1, Bool.true_or, Bool.or_true, Bool.false_or, Bool.or_false, Bool.true_and, Bool.and_true, Bool.false_and, Bool.and_false, Bool.not_true, Bool.not_false, cond_true, cond_false])) ?_
      exact J
    · have hc1 : ¬ ((zb (de_isBelowZero s l)) = (zb (de_isBelowZero s r))) := hc
      refine xW.seg (pc1 := 77) (L1 := [(11, vl ((((labs (gJ s l 0)) / 1000000) * ((labs (gJ s r 0)) - (labs (gJ s r 0)) / 1000000 * 1000000)) + (((labs (gJ s l 0)) - (labs (gJ s l 0)) / 1000000 * 1000000) * ((labs (gJ s r 0)) / 1000000)))), (9, vl (((labs (gJ s l 0)) - (labs (gJ s l 0)) / 1000000 * 1000000) * ((labs (gJ s r 0)) - (labs (gJ s r 0)) / 1000000 * 1000000))), (7, vl 1000000), (5, vl (labs (gJ s r 0))), (3, vl (labs (gJ s l 0))), (0, vr 6 31), (1, vr 5 l), (2, vr 5 r)]) (st1 := [vi 1, vr 6 31]) (h1 := xhp s) 2 (fun _ _ _ _ => rfl) ?_
      refine xW.to (v := vi (zb (!decide ((zb (de_isBelowZero s l)) = (zb (de_isBelowZero s r)))))) (zb_t (by simp only [decide_eq_false hc1, Bool.true_or, Bool.or_true, Bool.false_or, Bool.or_false, Bool.true_and, Bool.and_true, Bool.false_and, Bool.and_false, Bool.not_true, Bool.not_false, cond_true, cond_false])) ?_
      exact J
  refine xW.side (c := (zb (!decide ((zb (de_isBelowZero s l)) = (zb (de_isBelowZero s r))))) = 0 ∨ (zb (!decide ((zb (de_isBelowZero s l)) = (zb (de_isBelowZero s r))))) = 1) (pc1 := 80) (L1 := [(11, vl ((((labs (gJ s l 0)) / 1000000) * ((labs (gJ s r 0)) - (labs (gJ s r 0)) / 1000000 * 1000000)) + (((labs (gJ s l 0)) - (labs (gJ s l 0)) / 1000000 * 1000000) * ((labs (gJ s r 0)) / 1000000)))), (9, vl (((labs (gJ s l 0)) - (labs (gJ s l 0)) / 1000000 * 1000000) * ((labs (gJ s r 0)) - (labs (gJ s r 0)) / 1000000 * 1000000))), (7, vl 1000000), (5, vl (labs (gJ s r 0))), (3, vl (labs (gJ s l 0))), (0, vr 6 31), (1, vr 5 l), (2, vr 5 r)]) (st1 := []) (h1 := xhp (sI s 31 0 (zb (!decide ((zb (de_isBelowZero s l)) = (zb (de_isBelowZero s r))))))) 1 (fun _ _ _ _ => rfl) (zb01 _) ?_
  refine xW.side (c := ¬ (1000000 : Int64) = 0) (pc1 := 85) (L1 := [(11, vl ((((labs (gJ s l 0)) / 1000000) * ((labs (gJ s r 0)) - (labs (gJ s r 0)) / 1000000 * 1000000)) + (((labs (gJ s l 0)) - (labs (gJ s l 0)) / 1000000 * 1000000) * ((labs (gJ s r 0)) / 1000000)))), (9, vl (((labs (gJ s l 0)) - (labs (gJ s l 0)) / 1000000 * 1000000) * ((labs (gJ s r 0)) - (labs (gJ s r 0)) / 1000000 * 1000000))), (7, vl 1000000), (5, vl (labs (gJ s r 0))), (3, vl (labs (gJ s l 0))), (0, vr 6 31), (1, vr 5 l), (2, vr 5 r)]) (st1 := [vl ((labs (gJ s l 0)) / 1000000), vr 6 31]) (h1 := xhp (sI s 31 0 (zb (!decide ((zb (de_isBelowZero s l)) = (zb (de_isBelowZero s r))))))) 4 (fun _ _ _ _ => rfl) (by decide) ?_
  refine xW.side (c := ¬ (1000000 : Int64) = 0) (pc1 := 90) (L1 := [(11, vl ((((labs (gJ s l 0)) / 1000000) * ((labs (gJ s r 0)) - (labs (gJ s r 0)) / 1000000 * 1000000)) + (((labs (gJ s l 0)) - (labs (gJ s l 0)) / 1000000 * 1000000) * ((labs (gJ s r 0)) / 1000000)))), (9, vl (((labs (gJ s l 0)) - (labs (gJ s l 0)) / 1000000 * 1000000) * ((labs (gJ s r 0)) - (labs (gJ s r 0)) / 1000000 * 1000000))), (7, vl 1000000), (5, vl (labs (gJ s r 0))), (3, vl (labs (gJ s l 0))), (0, vr 6 31), (1, vr 5 l), (2, vr 5 r)]) (st1 := [vl ((labs (gJ s r 0)) / 1000000), vl ((labs (gJ s l 0)) / 1000000), vr 6 31]) (h1 := xhp (sI s 31 0 (zb (!decide ((zb (de_isBelowZero s l)) = (zb (de_isBelowZero s r))))))) 3 (fun _ _ _ _ => rfl) (by decide) ?_
  refine xW.side (c := ¬ (1000000 : Int64) = 0) (pc1 := 102) (L1 := [(11, vl ((((labs (gJ s l 0)) / 1000000) * ((labs (gJ s r 0)) - (labs (gJ s r 0)) / 1000000 * 1000000)) + (((labs (gJ s l 0)) - (labs (gJ s l 0)) / 1000000 * 1000000) * ((labs (gJ s r 0)) / 1000000)))), (9, vl (((labs (gJ s l 0)) - (labs (gJ s l 0)) / 1000000 * 1000000) * ((labs (gJ s r 0)) - (labs (gJ s r 0)) / 1000000 * 1000000))), (7, vl 1000000), (5, vl (labs (gJ s r 0))), (3, vl (labs (gJ s l 0))), (0, vr 6 31), (1, vr 5 l), (2, vr 5 r)]) (st1 := [vl ((((labs (gJ s l 0)) - (labs (gJ s l 0)) / 1000000 * 1000000) * ((labs (gJ s r 0)) - (labs (gJ s r 0)) / 1000000 * 1000000)) / 1000000), vl (((((labs (gJ s l 0)) / 1000000) * ((labs (gJ s r 0)) / 1000000)) * 1000000) + ((((labs (gJ s l 0)) / 1000000) * ((labs (gJ s r 0)) - (labs (gJ s r 0)) / 1000000 * 1000000)) + (((labs (gJ s l 0)) - (labs (gJ s l 0)) / 1000000 * 1000000) * ((labs (gJ s r 0)) / 1000000)))), vr 6 31]) (h1 := xhp (sI s 31 0 (zb (!decide ((zb (de_isBelowZero s l)) = (zb (de_isBelowZero s r))))))) 8 (fun _ _ _ _ => rfl) (by decide) ?_
  refine xW.side (c := ¬ (1000000 : Int64) = 0) (pc1 := 112) (L1 := [(11, vl ((((labs (gJ s l 0)) / 1000000) * ((labs (gJ s r 0)) - (labs (gJ s r 0)) / 1000000 * 1000000)) + (((labs (gJ s l 0)) - (labs (gJ s l 0)) / 1000000 * 1000000) * ((labs (gJ s r 0)) / 1000000)))), (9, vl (((labs (gJ s l 0)) - (labs (gJ s l 0)) / 1000000 * 1000000) * ((labs (gJ s r 0)) - (labs (gJ s r 0)) / 1000000 * 1000000))), (7, vl 1000000), (5, vl (labs (gJ s r 0))), (3, vl (labs (gJ s l 0))), (0, vr 6 31), (1, vr 5 l), (2, vr 5 r)]) (st1 := [vl ((((labs (gJ s l 0)) - (labs (gJ s l 0)) / 1000000 * 1000000) * ((labs (gJ s r 0)) - (labs (gJ s r 0)) / 1000000 * 1000000)) - (((labs (gJ s l 0)) - (labs (gJ s l 0)) / 1000000 * 1000000) * ((labs (gJ s r 0)) - (labs (gJ s r 0)) / 1000000 * 1000000)) / 1000000 * 1000000), vr 6 31]) (h1 := xhp (sJ (sI s 31 0 (zb (!decide ((zb (de_isBelowZero s l)) = (zb (de_isBelowZero s r)))))) 31 1 ((((((labs (gJ s l 0)) / 1000000) * ((labs (gJ s r 0)) / 1000000)) * 1000000) + ((((labs (gJ s l 0)) / 1000000) * ((labs (gJ s r 0)) - (labs (gJ s r 0)) / 1000000 * 1000000)) + (((labs (gJ s l 0)) - (labs (gJ s l 0)) / 1000000 * 1000000) * ((labs (gJ s r 0)) / 1000000)))) + ((((labs (gJ s l 0)) - (labs (gJ s l 0)) / 1000000 * 1000000) * ((labs (gJ s r 0)) - (labs (gJ s r 0)) / 1000000 * 1000000)) / 1000000)))) 6 (fun _ _ _ _ => rfl) (by decide) ?_
  refine xW.seg (pc1 := 114) (L1 := [(11, vl ((((labs (gJ s l 0)) / 1000000) * ((labs (gJ s r 0)) - (labs (gJ s r 0)) / 1000000 * 1000000)) + (((labs (gJ s l 0)) - (labs (gJ s l 0)) / 1000000 * 1000000) * ((labs (gJ s r 0)) / 1000000)))), (9, vl (((labs (gJ s l 0)) - (labs (gJ s l 0)) / 1000000 * 1000000) * ((labs (gJ s r 0)) - (labs (gJ s r 0)) / 1000000 * 1000000))), (7, vl 1000000), (5, vl (labs (gJ s r 0))), (3, vl (labs (gJ s l 0))), (0, vr 6 31), (1, vr 5 l), (2, vr 5 r)]) (st1 := [vi (lg_cmp ((((labs (gJ s l 0)) - (labs (gJ s l 0)) / 1000000 * 1000000) * ((labs (gJ s r 0)) - (labs (gJ s r 0)) / 1000000 * 1000000)) - (((labs (gJ s l 0)) - (labs (gJ s l 0)) / 1000000 * 1000000) * ((labs (gJ s r 0)) - (labs (gJ s r 0)) / 1000000 * 1000000)) / 1000000 * 1000000) 0), vr 6 31]) (h1 := xhp (sJ (sI s 31 0 (zb (!decide ((zb (de_isBelowZero s l)) = (zb (de_isBelowZero s r)))))) 31 1 ((((((labs (gJ s l 0)) / 1000000) * ((labs (gJ s r 0)) / 1000000)) * 1000000) + ((((labs (gJ s l 0)) / 1000000) * ((labs (gJ s r 0)) - (labs (gJ s r 0)) / 1000000 * 1000000)) + (((labs (gJ s l 0)) - (labs (gJ s l 0)) / 1000000 * 1000000) * ((labs (gJ s r 0)) / 1000000)))) + ((((labs (gJ s l 0)) - (labs (gJ s l 0)) / 1000000 * 1000000) * ((labs (gJ s r 0)) - (labs (gJ s r 0)) / 1000000 * 1000000)) / 1000000)))) 2 (fun _ _ _ _ => rfl) ?_
  suffices J : xW (xX0 xs Ls) p120 122 [(11, vl ((((labs (gJ s l 0)) / 1000000) * ((labs (gJ s r 0)) - (labs (gJ s r 0)) / 1000000 * 1000000)) + (((labs (gJ s l 0)) - (labs (gJ s l 0)) / 1000000 * 1000000) * ((labs (gJ s r 0)) / 1000000)))), (9, vl (((labs (gJ s l 0)) - (labs (gJ s l 0)) / 1000000 * 1000000) * ((labs (gJ s r 0)) - (labs (gJ s r 0)) / 1000000 * 1000000))), (7, vl 1000000), (5, vl (labs (gJ s r 0))), (3, vl (labs (gJ s l 0))), (0, vr 6 31), (1, vr 5 l), (2, vr 5 r)] [vi (zb (!decide (((((labs (gJ s l 0)) - (labs (gJ s l 0)) / 1000000 * 1000000) * ((labs (gJ s r 0)) - (labs (gJ s r 0)) / 1000000 * 1000000)) - (((labs (gJ s l 0)) - (labs (gJ s l 0)) / 1000000 * 1000000) * ((labs (gJ s r 0)) - (labs (gJ s r 0)) / 1000000 * 1000000)) / 1000000 * 1000000) = 0))), vr 6 31] (xhp (sJ (sI s 31 0 (zb (!decide ((zb (de_isBelowZero s l)) = (zb (de_isBelowZero s r)))))) 31 1 ((((((labs (gJ s l 0)) / 1000000) * ((labs (gJ s r 0)) / 1000000)) * 1000000) + ((((labs (gJ s l 0)) / 1000000) * ((labs (gJ s r 0)) - (labs (gJ s r 0)) / 1000000 * 1000000)) + (((labs (gJ s l 0)) - (labs (gJ s l 0)) / 1000000 * 1000000) * ((labs (gJ s r 0)) / 1000000)))) + ((((labs (gJ s l 0)) - (labs (gJ s l 0)) / 1000000 * 1000000) * ((labs (gJ s r 0)) - (labs (gJ s r 0)) / 1000000 * 1000000)) / 1000000)))) Φ by
    refine xW.br (c := (lg_cmp ((((labs (gJ s l 0)) - (labs (gJ s l 0)) / 1000000 * 1000000) * ((labs (gJ s r 0)) - (labs (gJ s r 0)) / 1000000 * 1000000)) - (((labs (gJ s l 0)) - (labs (gJ s l 0)) / 1000000 * 1000000) * ((labs (gJ s r 0)) - (labs (gJ s r 0)) / 1000000 * 1000000)) / 1000000 * 1000000) 0) = 0) (pc1 := 121) (L1 := [(11, vl ((((labs (gJ s l 0)) / 1000000) * ((labs (gJ s r 0)) - (labs (gJ s r 0)) / 1000000 * 1000000)) + (((labs (gJ s l 0)) - (labs (gJ s l 0)) / 1000000 * 1000000) * ((labs (gJ s r 0)) / 1000000)))), (9, vl (((labs (gJ s l 0)) - (labs (gJ s l 0)) / 1000000 * 1000000) * ((labs (gJ s r 0)) - (labs (gJ s r 0)) / 1000000 * 1000000))), (7, vl 1000000), (5, vl (labs (gJ s r 0))), (3, vl (labs (gJ s l 0))), (0, vr 6 31), (1, vr 5 l), (2, vr 5 r)]) (st1 := [vr 6 31]) (h1 := xhp (sJ (sI s 31 0 (zb (!decide ((zb (de_isBelowZero s l)) = (zb (de_isBelowZero s r)))))) 31 1 ((((((labs (gJ s l 0)) / 1000000) * ((labs (gJ s r 0)) / 1000000)) * 1000000) + ((((labs (gJ s l 0)) / 1000000) * ((labs (gJ s r 0)) - (labs (gJ s r 0)) / 1000000 * 1000000)) + (((labs (gJ s l 0)) - (labs (gJ s l 0)) / 1000000 * 1000000) * ((labs (gJ s r 0)) / 1000000)))) + ((((labs (gJ s l 0)) - (labs (gJ s l 0)) / 1000000 * 1000000) * ((labs (gJ s r 0)) - (labs (gJ s r 0)) / 1000000 * 1000000)) / 1000000)))) (pc2 := 117) (L2 := [(11, vl ((((labs (gJ s l 0)) / 1000000) * ((labs (gJ s r 0)) - (labs (gJ s r 0)) / 1000000 * 1000000)) + (((labs (gJ s l 0)) - (labs (gJ s l 0)) / 1000000 * 1000000) * ((labs (gJ s r 0)) / 1000000)))), (9, vl (((labs (gJ s l 0)) - (labs (gJ s l 0)) / 1000000 * 1000000) * ((labs (gJ s r 0)) - (labs (gJ s r 0)) / 1000000 * 1000000))), (7, vl 1000000), (5, vl (labs (gJ s r 0))), (3, vl (labs (gJ s l 0))), (0, vr 6 31), (1, vr 5 l), (2, vr 5 r)]) (st2 := [vr 6 31]) (h2 := xhp (sJ (sI s 31 0 (zb (!decide ((zb (de_isBelowZero s l)) = (zb (de_isBelowZero s r)))))) 31 1 ((((((labs (gJ s l 0)) / 1000000) * ((labs (gJ s r 0)) / 1000000)) * 1000000) + ((((labs (gJ s l 0)) / 1000000) * ((labs (gJ s r 0)) - (labs (gJ s r 0)) / 1000000 * 1000000)) + (((labs (gJ s l 0)) - (labs (gJ s l 0)) / 1000000 * 1000000) * ((labs (gJ s r 0)) / 1000000)))) + ((((labs (gJ s l 0)) - (labs (gJ s l 0)) / 1000000 * 1000000) * ((labs (gJ s r 0)) - (labs (gJ s r 0)) / 1000000 * 1000000)) / 1000000)))) 1 (fun _ _ _ _ => rfl) (fun hc => ?_) (fun hc => ?_)
    · have hc2 : ((((labs (gJ s l 0)) - (labs (gJ s l 0)) / 1000000 * 1000000) * ((labs (gJ s r 0)) - (labs (gJ s r 0)) / 1000000 * 1000000)) - (((labs (gJ s l 0)) - (labs (gJ s l 0)) / 1000000 * 1000000) * ((labs (gJ s r 0)) - (labs (gJ s r 0)) / 1000000 * 1000000)) / 1000000 * 1000000) = 0 := (lc_eq.mp hc)
      refine xW.seg (pc1 := 122) (L1 := [(11, vl ((((labs (gJ s l 0)) / 1000000) * ((labs (gJ s r 0)) - (labs (gJ s r 0)) / 1000000 * 1000000)) + (((labs (gJ s l 0)) - (labs (gJ s l 0)) / 1000000 * 1000000) * ((labs (gJ s r 0)) / 1000000)))), (9, vl (((labs (gJ s l 0)) - (labs (gJ s l 0)) / 1000000 * 1000000) * ((labs (gJ s r 0)) - (labs (gJ s r 0)) / 1000000 * 1000000))), (7, vl 1000000), (5, vl (labs (gJ s r 0))), (3, vl (labs (gJ s l 0))), (0, vr 6 31), (1, vr 5 l), (2, vr 5 r)]) (st1 := [vi 0, vr 6 31]) (h1 := xhp (sJ (sI s 31 0 (zb (!decide ((zb (de_isBelowZero s l)) = (zb (de_isBelowZero s r)))))) 31 1 ((((((labs (gJ s l 0)) / 1000000) * ((labs (gJ s r 0)) / 1000000)) * 1000000) + ((((labs (gJ s l 0)) / 1000000) * ((labs (gJ s r 0)) - (labs (gJ s r 0)) / 1000000 * 1000000)) + (((labs (gJ s l 0)) - (labs (gJ s l 0)) / 1000000 * 1000000) * ((labs (gJ s r 0)) / 1000000)))) + ((((labs (gJ s l 0)) - (labs (gJ s l 0)) / 1000000 * 1000000) * ((labs (gJ s r 0)) - (labs (gJ s r 0)) / 1000000 * 1000000)) / 1000000)))) 1 (fun _ _ _ _ => rfl) ?_
      refine xW.to (v := vi (zb (!decide (((((labs (gJ s l 0)) - (labs (gJ s l 0)) / 1000000 * 1000000) * ((labs (gJ s r 0)) - (labs (gJ s r 0)) / 1000000 * 1000000)) - (((labs (gJ s l 0)) - (labs (gJ s l 0)) / 1000000 * 1000000) * ((labs (gJ s r 0)) - (labs (gJ s r 0)) / 1000000 * 1000000)) / 1000000 * 1000000) = 0)))) (zb_f (by simp only [decide_eq_true hc2, Bool.true_or, Bool.or_true, Bool.false_or, Bool.or_false, Bool.true_and, Bool.and_true, Bool.false_and, Bool.and_false, Bool.not_true, Bool.not_false, cond_true, cond_false])) ?_
      exact J
    · have hc2 : ¬ (((((labs (gJ s l 0)) - (labs (gJ s l 0)) / 1000000 * 1000000) * ((labs (gJ s r 0)) - (labs (gJ s r 0)) / 1000000 * 1000000)) - (((labs (gJ s l 0)) - (labs (gJ s l 0)) / 1000000 * 1000000) * ((labs (gJ s r 0)) - (labs (gJ s r 0)) / 1000000 * 1000000)) / 1000000 * 1000000) = 0) := (fun q => hc (lc_eq.mpr q))
      refine xW.seg (pc1 := 122) (L1 := [(11, vl ((((labs (gJ s l 0)) / 1000000) * ((labs (gJ s r 0)) - (labs (gJ s r 0)) / 1000000 * 1000000)) + (((labs (gJ s l 0)) - (labs (gJ s l 0)) / 1000000 * 1000000) * ((labs (gJ s r 0)) / 1000000)))), (9, vl (((labs (gJ s l 0)) - (labs (gJ s l 0)) / 1000000 * 1000000) * ((labs (gJ s r 0)) - (labs (gJ s r 0)) / 1000000 * 1000000))), (7, vl 1000000), (5, vl (labs (gJ s r 0))), (3, vl (labs (gJ s l 0))), (0, vr 6 31), (1, vr 5 l), (2, vr 5 r)]) (st1 := [vi 1, vr 6 31]) (h1 := xhp (sJ (sI s 31 0 (zb (!decide ((zb (de_isBelowZero s l)) = (zb (de_isBelowZero s r)))))) 31 1 ((((((labs (gJ s l 0)) / 1000000) * ((labs (gJ s r 0)) / 1000000)) * 1000000) + ((((labs (gJ s l 0)) / 1000000) * ((labs (gJ s r 0)) - (labs (gJ s r 0)) / 1000000 * 1000000)) + (((labs (gJ s l 0)) - (labs (gJ s l 0)) / 1000000 * 1000000) * ((labs (gJ s r 0)) / 1000000)))) + ((((labs (gJ s l 0)) - (labs (gJ s l 0)) / 1000000 * 1000000) * ((labs (gJ s r 0)) - (labs (gJ s r 0)) / 1000000 * 1000000)) / 1000000)))) 2 (fun _ _ _ _ => rfl) ?_
      refine xW.to (v := vi (zb (!decide (((((labs (gJ s l 0)) - (labs (gJ s l 0)) / 1000000 * 1000000) * ((labs (gJ s r 0)) - (labs (gJ s r 0)) / 1000000 * 1000000)) - (((labs (gJ s l 0)) - (labs (gJ s l 0)) / 1000000 * 1000000) * ((labs (gJ s r 0)) - (labs (gJ s r 0)) / 1000000 * 1000000)) / 1000000 * 1000000) = 0)))) (zb_t (by simp only [decide_eq_false hc2, Bool.true_or, Bool.or_true, Bool.false_or, Bool.or_false, Bool.true_and, Bool.and_true, Bool.false_and, Bool.and_false, Bool.not_true, Bool.not_false, cond_true, cond_false])) ?_
      exact J
  refine xW.side (c := (zb (!decide (((((labs (gJ s l 0)) - (labs (gJ s l 0)) / 1000000 * 1000000) * ((labs (gJ s r 0)) - (labs (gJ s r 0)) / 1000000 * 1000000)) - (((labs (gJ s l 0)) - (labs (gJ s l 0)) / 1000000 * 1000000) * ((labs (gJ s r 0)) - (labs (gJ s r 0)) / 1000000 * 1000000)) / 1000000 * 1000000) = 0))) = 0 ∨ (zb (!decide (((((labs (gJ s l 0)) - (labs (gJ s l 0)) / 1000000 * 1000000) * ((labs (gJ s r 0)) - (labs (gJ s r 0)) / 1000000 * 1000000)) - (((labs (gJ s l 0)) - (labs (gJ s l 0)) / 1000000 * 1000000) * ((labs (gJ s r 0)) - (labs (gJ s r 0)) / 1000000 * 1000000)) / 1000000 * 1000000) = 0))) = 1) (pc1 := 125) (L1 := [(11, vl ((((labs (gJ s l 0)) / 1000000) * ((labs (gJ s r 0)) - (labs (gJ s r 0)) / 1000000 * 1000000)) + (((labs (gJ s l 0)) - (labs (gJ s l 0)) / 1000000 * 1000000) * ((labs (gJ s r 0)) / 1000000)))), (9, vl (((labs (gJ s l 0)) - (labs (gJ s l 0)) / 1000000 * 1000000) * ((labs (gJ s r 0)) - (labs (gJ s r 0)) / 1000000 * 1000000))), (7, vl 1000000), (5, vl (labs (gJ s r 0))), (3, vl (labs (gJ s l 0))), (0, vr 6 31), (1, vr 5 l), (2, vr 5 r)]) (st1 := []) (h1 := xhp (sI (sJ (sI s 31 0 (zb (!decide ((zb (de_isBelowZero s l)) = (zb (de_isBelowZero s r)))))) 31 1 ((((((labs (gJ s l 0)) / 1000000) * ((labs (gJ s r 0)) / 1000000)) * 1000000) + ((((labs (gJ s l 0)) / 1000000) * ((labs (gJ s r 0)) - (labs (gJ s r 0)) / 1000000 * 1000000)) + (((labs (gJ s l 0)) - (labs (gJ s l 0)) / 1000000 * 1000000) * ((labs (gJ s r 0)) / 1000000)))) + ((((labs (gJ s l 0)) - (labs (gJ s l 0)) / 1000000 * 1000000) * ((labs (gJ s r 0)) - (labs (gJ s r 0)) / 1000000 * 1000000)) / 1000000))) 31 2 (zb (!decide (((((labs (gJ s l 0)) - (labs (gJ s l 0)) / 1000000 * 1000000) * ((labs (gJ s r 0)) - (labs (gJ s r 0)) / 1000000 * 1000000)) - (((labs (gJ s l 0)) - (labs (gJ s l 0)) / 1000000 * 1000000) * ((labs (gJ s r 0)) - (labs (gJ s r 0)) / 1000000 * 1000000)) / 1000000 * 1000000) = 0))))) 1 (fun _ _ _ _ => rfl) (zb01 _) ?_
  exact xW.ret (v0 := none) (h1 := xhp (sI (sI (sJ (sI s 31 0 (zb (!decide ((zb (de_isBelowZero s l)) = (zb (de_isBelowZero s r)))))) 31 1 ((((((labs (gJ s l 0)) / 1000000) * ((labs (gJ s r 0)) / 1000000)) * 1000000) + ((((labs (gJ s l 0)) / 1000000) * ((labs (gJ s r 0)) - (labs (gJ s r 0)) / 1000000 * 1000000)) + (((labs (gJ s l 0)) - (labs (gJ s l 0)) / 1000000 * 1000000) * ((labs (gJ s r 0)) / 1000000)))) + ((((labs (gJ s l 0)) - (labs (gJ s l 0)) / 1000000 * 1000000) * ((labs (gJ s r 0)) - (labs (gJ s r 0)) / 1000000 * 1000000)) / 1000000))) 31 2 (zb (!decide (((((labs (gJ s l 0)) - (labs (gJ s l 0)) / 1000000 * 1000000) * ((labs (gJ s r 0)) - (labs (gJ s r 0)) / 1000000 * 1000000)) - (((labs (gJ s l 0)) - (labs (gJ s l 0)) / 1000000 * 1000000) * ((labs (gJ s r 0)) - (labs (gJ s r 0)) / 1000000 * 1000000)) / 1000000 * 1000000) = 0)))) 31 3 (((gI (sI (sJ (sI s 31 0 (zb (!decide ((zb (de_isBelowZero s l)) = (zb (de_isBelowZero s r)))))) 31 1 ((((((labs (gJ s l 0)) / 1000000) * ((labs (gJ s r 0)) / 1000000)) * 1000000) + ((((labs (gJ s l 0)) / 1000000) * ((labs (gJ s r 0)) - (labs (gJ s r 0)) / 1000000 * 1000000)) + (((labs (gJ s l 0)) - (labs (gJ s l 0)) / 1000000 * 1000000) * ((labs (gJ s r 0)) / 1000000)))) + ((((labs (gJ s l 0)) - (labs (gJ s l 0)) / 1000000 * 1000000) * ((labs (gJ s r 0)) - (labs (gJ s r 0)) / 1000000 * 1000000)) / 1000000))) 31 2 (zb (!decide (((((labs (gJ s l 0)) - (labs (gJ s l 0)) / 1000000 * 1000000) * ((labs (gJ s r 0)) - (labs (gJ s r 0)) / 1000000 * 1000000)) - (((labs (gJ s l 0)) - (labs (gJ s l 0)) / 1000000 * 1000000) * ((labs (gJ s r 0)) - (labs (gJ s r 0)) / 1000000 * 1000000)) / 1000000 * 1000000) = 0)))) l 1) + (gI (sI (sJ (sI s 31 0 (zb (!decide ((zb (de_isBelowZero s l)) = (zb (de_isBelowZero s r)))))) 31 1 ((((((labs (gJ s l 0)) / 1000000) * ((labs (gJ s r 0)) / 1000000)) * 1000000) + ((((labs (gJ s l 0)) / 1000000) * ((labs (gJ s r 0)) - (labs (gJ s r 0)) / 1000000 * 1000000)) + (((labs (gJ s l 0)) - (labs (gJ s l 0)) / 1000000 * 1000000) * ((labs (gJ s r 0)) / 1000000)))) + ((((labs (gJ s l 0)) - (labs (gJ s l 0)) / 1000000 * 1000000) * ((labs (gJ s r 0)) - (labs (gJ s r 0)) / 1000000 * 1000000)) / 1000000))) 31 2 (zb (!decide (((((labs (gJ s l 0)) - (labs (gJ s l 0)) / 1000000 * 1000000) * ((labs (gJ s r 0)) - (labs (gJ s r 0)) / 1000000 * 1000000)) - (((labs (gJ s l 0)) - (labs (gJ s l 0)) / 1000000 * 1000000) * ((labs (gJ s r 0)) - (labs (gJ s r 0)) / 1000000 * 1000000)) / 1000000 * 1000000) = 0)))) r 1)) - 16))) 10 (fun _ _ _ _ => rfl) g
noncomputable def ar_multiply_d (s : xS) (l : Nat) (r : Nat) : xS := (sI (sI (sJ (sI s 31 0 (zb (!decide ((zb (de_isBelowZero s l)) = (zb (de_isBelowZero s r)))))) 31 1 ((((((labs (gJ s l 0)) / 1000000) * ((labs (gJ s r 0)) / 1000000)) * 1000000) + ((((labs (gJ s l 0)) / 1000000) * ((labs (gJ s r 0)) - (labs (gJ s r 0)) / 1000000 * 1000000)) + (((labs (gJ s l 0)) - (labs (gJ s l 0)) / 1000000 * 1000000) * ((labs (gJ s r 0)) / 1000000)))) + ((((labs (gJ s l 0)) - (labs (gJ s l 0)) / 1000000 * 1000000) * ((labs (gJ s r 0)) - (labs (gJ s r 0)) / 1000000 * 1000000)) / 1000000))) 31 2 (zb (!decide (((((labs (gJ s l 0)) - (labs (gJ s l 0)) / 1000000 * 1000000) * ((labs (gJ s r 0)) - (labs (gJ s r 0)) / 1000000 * 1000000)) - (((labs (gJ s l 0)) - (labs (gJ s l 0)) / 1000000 * 1000000) * ((labs (gJ s r 0)) - (labs (gJ s r 0)) / 1000000 * 1000000)) / 1000000 * 1000000) = 0)))) 31 3 (((gI (sI (sJ (sI s 31 0 (zb (!decide ((zb (de_isBelowZero s l)) = (zb (de_isBelowZero s r)))))) 31 1 ((((((labs (gJ s l 0)) / 1000000) * ((labs (gJ s r 0)) / 1000000)) * 1000000) + ((((labs (gJ s l 0)) / 1000000) * ((labs (gJ s r 0)) - (labs (gJ s r 0)) / 1000000 * 1000000)) + (((labs (gJ s l 0)) - (labs (gJ s l 0)) / 1000000 * 1000000) * ((labs (gJ s r 0)) / 1000000)))) + ((((labs (gJ s l 0)) - (labs (gJ s l 0)) / 1000000 * 1000000) * ((labs (gJ s r 0)) - (labs (gJ s r 0)) / 1000000 * 1000000)) / 1000000))) 31 2 (zb (!decide (((((labs (gJ s l 0)) - (labs (gJ s l 0)) / 1000000 * 1000000) * ((labs (gJ s r 0)) - (labs (gJ s r 0)) / 1000000 * 1000000)) - (((labs (gJ s l 0)) - (labs (gJ s l 0)) / 1000000 * 1000000) * ((labs (gJ s r 0)) - (labs (gJ s r 0)) / 1000000 * 1000000)) / 1000000 * 1000000) = 0)))) l 1) + (gI (sI (sJ (sI s 31 0 (zb (!decide ((zb (de_isBelowZero s l)) = (zb (de_isBelowZero s r)))))) 31 1 ((((((labs (gJ s l 0)) / 1000000) * ((labs (gJ s r 0)) / 1000000)) * 1000000) + ((((labs (gJ s l 0)) / 1000000) * ((labs (gJ s r 0)) - (labs (gJ s r 0)) / 1000000 * 1000000)) + (((labs (gJ s l 0)) - (labs (gJ s l 0)) / 1000000 * 1000000) * ((labs (gJ s r 0)) / 1000000)))) + ((((labs (gJ s l 0)) - (labs (gJ s l 0)) / 1000000 * 1000000) * ((labs (gJ s r 0)) - (labs (gJ s r 0)) / 1000000 * 1000000)) / 1000000))) 31 2 (zb (!decide (((((labs (gJ s l 0)) - (labs (gJ s l 0)) / 1000000 * 1000000) * ((labs (gJ s r 0)) - (labs (gJ s r 0)) / 1000000 * 1000000)) - (((labs (gJ s l 0)) - (labs (gJ s l 0)) / 1000000 * 1000000) * ((labs (gJ s r 0)) - (labs (gJ s r 0)) / 1000000 * 1000000)) / 1000000 * 1000000) = 0)))) r 1)) - 16))
noncomputable def ar_multiply : xS → Nat → Nat → xS := Classical.choose (⟨ar_multiply_d, rfl⟩ : ∃ f, f = ar_multiply_d)
set_option maxRecDepth 100000 in
theorem ar_multiply_eq : ar_multiply = ar_multiply_d := Classical.choose_spec (⟨ar_multiply_d, rfl⟩ : ∃ f, f = ar_multiply_d)
set_option maxRecDepth 100000 in
theorem m120 {xs : Nat → Int32} {Ls : Nat} {Ψ : xO → xH → Prop} (s : xS) (l : Nat) (r : Nat) (h : Ψ (.inl none) (xhp (ar_multiply s l r))) : xM (xX0 xs Ls) 120 [vr 6 31, vr 5 l, vr 5 r] (xhp s) Ψ := by
  rw [ar_multiply_eq] at h
  unfold ar_multiply_d at h
  exact xM.of (P := p120) rfl rfl rfl (b120_0 s l r (h))
/-! ar_divide -/
theorem b121_41 {xs : Nat → Int32} {Ls : Nat} {Φ : Option xV → xH → Prop} (s : xS) (l : Nat) (r : Nat) (x3 : Int64) (x5 : Int64) (x7 : Int32) (g : ((3 ≤ x7 → Φ none (xhp (sI (sI (sI s 31 0 (zb (!decide ((zb (de_isBelowZero s l)) = (zb (de_isBelowZero s r)))))) 31 2 (zb (!decide (x5 = 0)))) 31 3 (((gI (sI (sI s 31 0 (zb (!decide ((zb (de_isBelowZero s l)) = (zb (de_isBelowZero s r)))))) 31 2 (zb (!decide (x5 = 0)))) l 1) - (gI (sI (sI s 31 0 (zb (!decide ((zb (de_isBelowZero s l)) = (zb (de_isBelowZero s r)))))) 31 2 (zb (!decide (x5 = 0)))) r 1)) - 15)))) ∧ (¬ (3 ≤ x7) → ((¬ x3 = 0) ∧ ((¬ x3 = 0) ∧ xW (xX0 xs Ls) p121 41 [(0, vr 6 31), (1, vr 5 l), (2, vr 5 r), (3, vl x3), (5, vl ((x5 * 100000) - (x5 * 100000) / x3 * x3)), (7, vi (x7 + 1))] [] (xhp (sJ s 31 1 (((gJ s 31 1) * 100000) + ((x5 * 100000) / x3)))) Φ))))) : xW (xX0 xs Ls) p121 41 [(0, vr 6 31), (1, vr 5 l), (2, vr 5 r), (3, vl x3), (5, vl x5), (7, vi x7)] [] (xhp s) Φ := by
  refine xW.br (c := 3 ≤ x7) (pc1 := 88) (L1 := [(0, vr 6 31), (1, vr 5 l), (2, vr 5 r), (3, vl x3), (5, vl x5), (7, vi x7)]) (st1 := []) (h1 := xhp s) (pc2 := 47) (L2 := [(0, vr 6 31), (1, vr 5 l), (2, vr 5 r), (3, vl x3), (5, vl x5), (7, vi x7)]) (st2 := []) (h2 := xhp s) 3 (fun _ _ _ _ => rfl) (fun hc => ?_) (fun hc => ?_)
  · replace g := g.1 hc
    refine xW.call (y := 140) (as := [vr 5 l]) (h0 := xhp s) (pc0 := 90) (len := 3) (L0 := [(0, vr 6 31), (1, vr 5 l), (2, vr 5 r), (3, vl x3), (5, vl x5), (7, vi x7)]) (rest := [vr 6 31]) 3 (fun _ _ _ _ => rfl) (m140 _ _ ?_)
    show xW (xX0 xs Ls) p121 93 [(0, vr 6 31), (1, vr 5 l), (2, vr 5 r), (3, vl x3), (5, vl x5), (7, vi x7)] [vi (zb (de_isBelowZero s l)), vr 6 31] (xhp s) Φ
    refine xW.call (y := 140) (as := [vr 5 r]) (h0 := xhp s) (pc0 := 94) (len := 3) (L0 := [(0, vr 6 31), (1, vr 5 l), (2, vr 5 r), (3, vl x3), (5, vl x5), (7, vi x7)]) (rest := [vi (zb (de_isBelowZero s l)), vr 6 31]) 2 (fun _ _ _ _ => rfl) (m140 _ _ ?_)
    show xW (xX0 xs Ls) p121 97 [(0, vr 6 31), (1, vr 5 l), (2, vr 5 r), (3, vl x3), (5, vl x5), (7, vi x7)] [vi (zb (de_isBelowZero s r)), vi (zb (de_isBelowZero s l)), vr 6 31] (xhp s) Φ
    suffices J : xW (xX0 xs Ls) p121 105 [(0, vr 6 31), (1, vr 5 l), (2, vr 5 r), (3, vl x3), (5, vl x5), (7, vi x7)] [vi (zb (!decide ((zb (de_isBelowZero s l)) = (zb (de_isBelowZero s r))))), vr 6 31] (xhp s) Φ by
      refine xW.br (c := (zb (de_isBelowZero s l)) = (zb (de_isBelowZero s r))) (pc1 := 104) (L1 := [(0, vr 6 31), (1, vr 5 l), (2, vr 5 r), (3, vl x3), (5, vl x5), (7, vi x7)]) (st1 := [vr 6 31]) (h1 := xhp s) (pc2 := 100) (L2 := [(0, vr 6 31), (1, vr 5 l), (2, vr 5 r), (3, vl x3), (5, vl x5), (7, vi x7)]) (st2 := [vr 6 31]) (h2 := xhp s) 1 (fun _ _ _ _ => rfl) (fun hc => ?_) (fun hc => ?_)
      · have hc1 : (zb (de_isBelowZero s l)) = (zb (de_isBelowZero s r)) := hc
        refine xW.seg (pc1 := 105) (L1 := [(0, vr 6 31), (1, vr 5 l), (2, vr 5 r), (3, vl x3), (5, vl x5), (7, vi x7)]) (st1 := [vi 0, vr 6 31]) (h1 := xhp s) 1 (fun _ _ _ _ => rfl) ?_
        refine xW.to (v := vi (zb (!decide ((zb (de_isBelowZero s l)) = (zb (de_isBelowZero s r)))))) (zb_f (by simp only [decide_eq_true hc1, Bool.true_or, Bool.or_true, Bool.false_or, Bool.or_false, Bool.true_and, Bool.and_true, Bool.false_and, Bool.and_false, Bool.not_true, Bool.not_false, cond_true, cond_false])) ?_
        exact J
      · have hc1 : ¬ ((zb (de_isBelowZero s l)) = (zb (de_isBelowZero s r))) := hc
        refine xW.seg (pc1 := 105) (L1 := [(0, vr 6 31), (1, vr 5 l), (2, vr 5 r), (3, vl x3), (5, vl x5), (7, vi x7)]) (st1 := [vi 1, vr 6 31]) (h1 := xhp s) 2 (fun _ _ _ _ => rfl) ?_
        refine xW.to (v := vi (zb (!decide ((zb (de_isBelowZero s l)) = (zb (de_isBelowZero s r)))))) (zb_t (by simp only [decide_eq_false hc1, Bool.true_or, Bool.or_true, Bool.false_or, Bool.or_false, Bool.true_and, Bool.and_true, Bool.false_and, Bool.and_false, Bool.not_true, Bool.not_false, cond_true, cond_false])) ?_
        exact J
    refine xW.side (c := (zb (!decide ((zb (de_isBelowZero s l)) = (zb (de_isBelowZero s r))))) = 0 ∨ (zb (!decide ((zb (de_isBelowZero s l)) = (zb (de_isBelowZero s r))))) = 1) (pc1 := 108) (L1 := [(0, vr 6 31), (1, vr 5 l), (2, vr 5 r), (3, vl x3), (5, vl x5), (7, vi x7)]) (st1 := []) (h1 := xhp (sI s 31 0 (zb (!decide ((zb (de_isBelowZero s l)) = (zb (de_isBelowZero s r))))))) 1 (fun _ _ _ _ => rfl) (zb01 _) ?_
    refine xW.seg (pc1 := 113) (L1 := [(0, vr 6 31), (1, vr 5 l), (2, vr 5 r), (3, vl x3), (5, vl x5), (7, vi x7)]) (st1 := [vi (lg_cmp x5 0), vr 6 31]) (h1 := xhp (sI s 31 0 (zb (!decide ((zb (de_isBelowZero s l)) = (zb (de_isBelowZero s r))))))) 4 (fun _ _ _ _ => rfl) ?_
    suffices J : xW (xX0 xs Ls) p121 121 [(0, vr 6 31), (1, vr 5 l), (2, vr 5 r), (3, vl x3), (5, vl x5), (7, vi x7)] [vi (zb (!decide (x5 = 0))), vr 6 31] (xhp (sI s 31 0 (zb (!decide ((zb (de_isBelowZero s l)) = (zb (de_isBelowZero s r))))))) Φ by
      refine xW.br (c := (lg_cmp x5 0) = 0) (pc1 := 120) (L1 := [(0, vr 6 31), (1, vr 5 l), (2, vr 5 r), (3, vl x3), (5, vl x5), (7, vi x7)]) (st1 := [vr 6 31]) (h1 := xhp (sI s 31 0 (zb (!decide ((zb (de_isBelowZero s l)) = (zb (de_isBelowZero s r))))))) (pc2 := 116) (L2 := [(0, vr 6 31), (1, vr 5 l), (2, vr 5 r), (3, vl x3), (5, vl x5), (7, vi x7)]) (st2 := [vr 6 31]) (h2 := xhp (sI s 31 0 (zb (!decide ((zb (de_isBelowZero s l)) = (zb (de_isBelowZero s r))))))) 1 (fun _ _ _ _ => rfl) (fun hc => ?_) (fun hc => ?_)
      · have hc2 : x5 = 0 := (lc_eq.mp hc)
        refine xW.seg (pc1 := 121) (L1 := [(0, vr 6 31), (1, vr 5 l), (2, vr 5 r), (3, vl x3), (5, vl x5), (7, vi x7)]) (st1 := [vi 0, vr 6 31]) (h1 := xhp (sI s 31 0 (zb (!decide ((zb (de_isBelowZero s l)) = (zb (de_isBelowZero s r))))))) 1 (fun _ _ _ _ => rfl) ?_
        refine xW.to (v := vi (zb (!decide (x5 = 0)))) (zb_f (by simp only [decide_eq_true hc2, Bool.true_or, Bool.or_true, Bool.false_or, Bool.or_false, Bool.true_and, Bool.and_true, Bool.false_and, Bool.and_false, Bool.not_true, Bool.not_false, cond_true, cond_false])) ?_
        exact J
      · have hc2 : ¬ (x5 = 0) := (fun q => hc (lc_eq.mpr q))
        refine xW.seg (pc1 := 121) (L1 := [(0, vr 6 31), (1, vr 5 l), (2, vr 5 r), (3, vl x3), (5, vl x5), (7, vi x7)]) (st1 := [vi 1, vr 6 31]) (h1 := xhp (sI s 31 0 (zb (!decide ((zb (de_isBelowZero s l)) = (zb (de_isBelowZero s r))))))) 2 (fun _ _ _ _ => rfl) ?_
        refine xW.to (v := vi (zb (!decide (x5 = 0)))) (zb_t (by simp only [decide_eq_false hc2, Bool.true_or, Bool.or_true, Bool.false_or, Bool.or_false, Bool.true_and, Bool.and_true, Bool.false_and, Bool.and_false, Bool.not_true, Bool.not_false, cond_true, cond_false])) ?_
        exact J
    refine xW.side (c := (zb (!decide (x5 = 0))) = 0 ∨ (zb (!decide (x5 = 0))) = 1) (pc1 := 124) (L1 := [(0, vr 6 31), (1, vr 5 l), (2, vr 5 r), (3, vl x3), (5, vl x5), (7, vi x7)]) (st1 := []) (h1 := xhp (sI (sI s 31 0 (zb (!decide ((zb (de_isBelowZero s l)) = (zb (de_isBelowZero s r)))))) 31 2 (zb (!decide (x5 = 0))))) 1 (fun _ _ _ _ => rfl) (zb01 _) ?_
    exact xW.ret (v0 := none) (h1 := xhp (sI (sI (sI s 31 0 (zb (!decide ((zb (de_isBelowZero s l)) = (zb (de_isBelowZero s r)))))) 31 2 (zb (!decide (x5 = 0)))) 31 3 (((gI (sI (sI s 31 0 (zb (!decide ((zb (de_isBelowZero s l)) = (zb (de_isBelowZero s r)))))) 31 2 (zb (!decide (x5 = 0)))) l 1) - (gI (sI (sI s 31 0 (zb (!decide ((zb (de_isBelowZero s l)) = (zb (de_isBelowZero s r)))))) 31 2 (zb (!decide (x5 = 0)))) r 1)) - 15))) 10 (fun _ _ _ _ => rfl) g
  · replace g := g.2 hc
    refine xW.side (c := vp_in 5 19) (pc1 := 54) (L1 := [(0, vr 6 31), (1, vr 5 l), (2, vr 5 r), (3, vl x3), (5, vl x5), (7, vi x7)]) (st1 := [vl 100000, vl x5]) (h1 := xhp s) 4 (fun _ _ _ _ => rfl) (vp_lit rfl) ?_
    refine xW.side (c := vp_in 5 19) (pc1 := 67) (L1 := [(5, vl (x5 * 100000)), (0, vr 6 31), (1, vr 5 l), (2, vr 5 r), (3, vl x3), (7, vi x7)]) (st1 := [vl 100000, vl (gJ s 31 1), vr 6 31]) (h1 := xhp s) 8 (fun _ _ _ _ => rfl) (vp_lit rfl) ?_
    refine xW.side (c := ¬ x3 = 0) (pc1 := 72) (L1 := [(5, vl (x5 * 100000)), (0, vr 6 31), (1, vr 5 l), (2, vr 5 r), (3, vl x3), (7, vi x7)]) (st1 := [vl ((x5 * 100000) / x3), vl ((gJ s 31 1) * 100000), vr 6 31]) (h1 := xhp s) 4 (fun _ _ _ _ => rfl) g.1 ?_
    replace g := g.2
    refine xW.side (c := ¬ x3 = 0) (pc1 := 80) (L1 := [(5, vl (x5 * 100000)), (0, vr 6 31), (1, vr 5 l), (2, vr 5 r), (3, vl x3), (7, vi x7)]) (st1 := [vl ((x5 * 100000) - (x5 * 100000) / x3 * x3)]) (h1 := xhp (sJ s 31 1 (((gJ s 31 1) * 100000) + ((x5 * 100000) / x3)))) 5 (fun _ _ _ _ => rfl) g.1 ?_
    replace g := g.2
    refine xW.seg (pc1 := 41) (L1 := [(7, vi (x7 + 1)), (5, vl ((x5 * 100000) - (x5 * 100000) / x3 * x3)), (0, vr 6 31), (1, vr 5 l), (2, vr 5 r), (3, vl x3)]) (st1 := []) (h1 := xhp (sJ s 31 1 (((gJ s 31 1) * 100000) + ((x5 * 100000) / x3)))) 3 (fun _ _ _ _ => rfl) ?_
    exact xW.locs (L := [(0, vr 6 31), (1, vr 5 l), (2, vr 5 r), (3, vl x3), (5, vl ((x5 * 100000) - (x5 * 100000) / x3 * x3)), (7, vi (x7 + 1))]) ⟨rfl, rfl, rfl, rfl, rfl, rfl, trivial⟩ rfl g
noncomputable def ar_divide_41 : Nat → xS → Nat → Nat → Int64 → Int64 → Int32 → xS
  | 0, s, _, _, _, _, _ => s
  | n + 1, s, l, r, x3, x5, x7 => (if 3 ≤ x7 then (sI (sI (sI s 31 0 (zb (!decide ((zb (de_isBelowZero s l)) = (zb (de_isBelowZero s r)))))) 31 2 (zb (!decide (x5 = 0)))) 31 3 (((gI (sI (sI s 31 0 (zb (!decide ((zb (de_isBelowZero s l)) = (zb (de_isBelowZero s r)))))) 31 2 (zb (!decide (x5 = 0)))) l 1) - (gI (sI (sI s 31 0 (zb (!decide ((zb (de_isBelowZero s l)) = (zb (de_isBelowZero s r)))))) 31 2 (zb (!decide (x5 = 0)))) r 1)) - 15)) else (ar_divide_41 n (sJ s 31 1 (((gJ s 31 1) * 100000) + ((x5 * 100000) / x3))) l r x3 ((x5 * 100000) - (x5 * 100000) / x3 * x3) (x7 + 1)))
def ar_divide_41_ok : Nat → xS → Nat → Nat → Int64 → Int64 → Int32 → Prop
  | 0, _, _, _, _, _, _ => False
  | n + 1, s, l, r, x3, x5, x7 => (¬ (3 ≤ x7) → ((¬ x3 = 0) ∧ ((¬ x3 = 0) ∧ (ar_divide_41_ok n (sJ s 31 1 (((gJ s 31 1) * 100000) + ((x5 * 100000) / x3))) l r x3 ((x5 * 100000) - (x5 * 100000) / x3 * x3) (x7 + 1)))))
set_option maxRecDepth 100000 in
theorem n121_41 {xs : Nat → Int32} {Ls : Nat} {Φ : Option xV → xH → Prop} : ∀ (n : Nat) (s : xS) (l : Nat) (r : Nat) (x3 : Int64) (x5 : Int64) (x7 : Int32), ar_divide_41_ok n s l r x3 x5 x7 → Φ none (xhp (ar_divide_41 n s l r x3 x5 x7)) → xW (xX0 xs Ls) p121 41 [(0, vr 6 31), (1, vr 5 l), (2, vr 5 r), (3, vl x3), (5, vl x5), (7, vi x7)] [] (xhp s) Φ := by
  intro n
  induction n with
  | zero => intro s _ _ _ _ _ gq; exact gq.elim
  | succ n ih =>
    intro s l r x3 x5 x7 gq h
    unfold ar_divide_41_ok at gq
    unfold ar_divide_41 at h
    exact b121_41 s l r x3 x5 x7 (⟨fun hc => by rw [if_pos hc] at h; exact h, fun hc => by rw [if_neg hc] at h; replace gq := gq hc; exact ⟨gq.1, by replace gq := gq.2; exact ⟨gq.1, by replace gq := gq.2; exact ih _ _ _ _ _ _ gq h⟩⟩⟩)
set_option maxRecDepth 100000 in
theorem b121_0 {xs : Nat → Int32} {Ls : Nat} {Φ : Option xV → xH → Prop} (s : xS) (l : Nat) (r : Nat) (g : ((¬ (labs (gJ s r 0)) = 0 → ((¬ (labs (gJ s r 0)) = 0) ∧ ((¬ (labs (gJ s r 0)) = 0) ∧ xW (xX0 xs Ls) p121 41 [(0, vr 6 31), (1, vr 5 l), (2, vr 5 r), (3, vl (labs (gJ s r 0))), (5, vl ((labs (gJ s l 0)) - (labs (gJ s l 0)) / (labs (gJ s r 0)) * (labs (gJ s r 0)))), (7, vi 0)] [] (xhp (sJ s 31 1 ((labs (gJ s l 0)) / (labs (gJ s r 0))))) Φ))) ∧ ((labs (gJ s r 0)) = 0 → Φ none (xhp s)))) : xW (xX0 xs Ls) p121 0 [(0, vr 6 31), (1, vr 5 l), (2, vr 5 r)] [] (xhp s) Φ := by
  refine xW.br (c := ¬ (lg_cmp (labs (gJ s r 0)) 0) = 0) (pc1 := 15) (L1 := [(3, vl (labs (gJ s r 0))), (0, vr 6 31), (1, vr 5 l), (2, vr 5 r)]) (st1 := []) (h1 := xhp s) (pc2 := 14) (L2 := [(3, vl (labs (gJ s r 0))), (0, vr 6 31), (1, vr 5 l), (2, vr 5 r)]) (st2 := []) (h2 := xhp s) 8 (fun _ _ _ _ => rfl) (fun hc => ?_) (fun hc => ?_)
  · replace g := g.1 (fun q => hc (lc_eq.mpr q))
    refine xW.side (c := ¬ (labs (gJ s r 0)) = 0) (pc1 := 29) (L1 := [(5, vl (labs (gJ s l 0))), (3, vl (labs (gJ s r 0))), (0, vr 6 31), (1, vr 5 l), (2, vr 5 r)]) (st1 := [vl ((labs (gJ s l 0)) / (labs (gJ s r 0))), vr 6 31]) (h1 := xhp s) 8 (fun _ _ _ _ => rfl) g.1 ?_
    replace g := g.2
    refine xW.side (c := ¬ (labs (gJ s r 0)) = 0) (pc1 := 36) (L1 := [(5, vl (labs (gJ s l 0))), (3, vl (labs (gJ s r 0))), (0, vr 6 31), (1, vr 5 l), (2, vr 5 r)]) (st1 := [vl ((labs (gJ s l 0)) - (labs (gJ s l 0)) / (labs (gJ s r 0)) * (labs (gJ s r 0)))]) (h1 := xhp (sJ s 31 1 ((labs (gJ s l 0)) / (labs (gJ s r 0))))) 4 (fun _ _ _ _ => rfl) g.1 ?_
    replace g := g.2
    refine xW.seg (pc1 := 41) (L1 := [(7, vi 0), (5, vl ((labs (gJ s l 0)) - (labs (gJ s l 0)) / (labs (gJ s r 0)) * (labs (gJ s r 0)))), (3, vl (labs (gJ s r 0))), (0, vr 6 31), (1, vr 5 l), (2, vr 5 r)]) (st1 := []) (h1 := xhp (sJ s 31 1 ((labs (gJ s l 0)) / (labs (gJ s r 0))))) 3 (fun _ _ _ _ => rfl) ?_
    exact xW.locs (L := [(0, vr 6 31), (1, vr 5 l), (2, vr 5 r), (3, vl (labs (gJ s r 0))), (5, vl ((labs (gJ s l 0)) - (labs (gJ s l 0)) / (labs (gJ s r 0)) * (labs (gJ s r 0)))), (7, vi 0)]) ⟨rfl, rfl, rfl, rfl, rfl, rfl, trivial⟩ rfl g
  · replace g := g.2 (lc_eq.mp (Decidable.not_not.mp hc))
    exact xW.ret (v0 := none) (h1 := xhp s) 1 (fun _ _ _ _ => rfl) g
noncomputable def ar_divide_d (s : xS) (l : Nat) (r : Nat) : xS := (if ¬ (labs (gJ s r 0)) = 0 then (ar_divide_41 xfu (sJ s 31 1 ((labs (gJ s l 0)) / (labs (gJ s r 0)))) l r (labs (gJ s r 0)) ((labs (gJ s l 0)) - (labs (gJ s l 0)) / (labs (gJ s r 0)) * (labs (gJ s r 0))) 0) else s)
noncomputable def ar_divide : xS → Nat → Nat → xS := Classical.choose (⟨ar_divide_d, rfl⟩ : ∃ f, f = ar_divide_d)
set_option maxRecDepth 100000 in
theorem ar_divide_eq : ar_divide = ar_divide_d := Classical.choose_spec (⟨ar_divide_d, rfl⟩ : ∃ f, f = ar_divide_d)
def ar_divide_ok (s : xS) (l : Nat) (r : Nat) : Prop := (¬ (labs (gJ s r 0)) = 0 → ((¬ (labs (gJ s r 0)) = 0) ∧ ((¬ (labs (gJ s r 0)) = 0) ∧ (ar_divide_41_ok xfu (sJ s 31 1 ((labs (gJ s l 0)) / (labs (gJ s r 0)))) l r (labs (gJ s r 0)) ((labs (gJ s l 0)) - (labs (gJ s l 0)) / (labs (gJ s r 0)) * (labs (gJ s r 0))) 0))))
set_option maxRecDepth 100000 in
theorem m121 {xs : Nat → Int32} {Ls : Nat} {Ψ : xO → xH → Prop} (s : xS) (l : Nat) (r : Nat) (gq : ar_divide_ok s l r) (h : Ψ (.inl none) (xhp (ar_divide s l r))) : xM (xX0 xs Ls) 121 [vr 6 31, vr 5 l, vr 5 r] (xhp s) Ψ := by
  rw [ar_divide_eq] at h
  unfold ar_divide_d at h
  unfold ar_divide_ok at gq
  exact xM.of (P := p121) rfl rfl rfl (b121_0 s l r (⟨fun hc => by rw [if_pos hc] at h; replace gq := gq hc; exact ⟨gq.1, by replace gq := gq.2; exact ⟨gq.1, by replace gq := gq.2; exact n121_41 _ _ _ _ _ _ _ gq h⟩⟩, fun hc => by rw [if_neg (fun z => z hc)] at h; exact h⟩))
/-! ar_takeRoot -/
theorem b122_61 {xs : Nat → Int32} {Ls : Nat} {Φ : Option xV → xH → Prop} (s : xS) (x1 : Int64) (x3 : Int64) (x5 : Int64) (x7 : Int32) (x10 : Int64) (x12 : Int64) (g : ((9 < x12 → xW (xX0 xs Ls) p122 100 [(0, vr 6 31), (1, vl x1), (3, vl x3), (5, vl x5), (7, vi x7), (10, vl x10)] [] (xhp s) Φ) ∧ (¬ (9 < x12) → ((x5 < (((20 * x3) + x12) * x12) → xW (xX0 xs Ls) p122 100 [(0, vr 6 31), (1, vl x1), (3, vl x3), (5, vl x5), (7, vi x7), (10, vl x10)] [] (xhp s) Φ) ∧ (¬ (x5 < (((20 * x3) + x12) * x12)) → xW (xX0 xs Ls) p122 61 [(0, vr 6 31), (1, vl x1), (3, vl x3), (5, vl x5), (7, vi x7), (10, vl x12), (12, vl (x12 + 1))] [] (xhp s) Φ))))) : xW (xX0 xs Ls) p122 61 [(0, vr 6 31), (1, vl x1), (3, vl x3), (5, vl x5), (7, vi x7), (10, vl x10), (12, vl x12)] [] (xhp s) Φ := by
  refine xW.br (c := 0 < (lg_cmp x12 9)) (pc1 := 100) (L1 := [(0, vr 6 31), (1, vl x1), (3, vl x3), (5, vl x5), (7, vi x7), (10, vl x10), (12, vl x12)]) (st1 := []) (h1 := xhp s) (pc2 := 70) (L2 := [(0, vr 6 31), (1, vl x1), (3, vl x3), (5, vl x5), (7, vi x7), (10, vl x10), (12, vl x12)]) (st2 := []) (h2 := xhp s) 4 (fun _ _ _ _ => rfl) (fun hc => ?_) (fun hc => ?_)
  · replace g := g.1 (lc_gt.mp hc)
    exact xW.locs (L := [(0, vr 6 31), (1, vl x1), (3, vl x3), (5, vl x5), (7, vi x7), (10, vl x10)]) ⟨rfl, rfl, rfl, rfl, rfl, rfl, trivial⟩ rfl g
  · replace g := g.2 (fun q => hc (lc_gt.mpr q))
    refine xW.br (c := 0 < (lg_cmp (((20 * x3) + x12) * x12) x5)) (pc1 := 100) (L1 := [(0, vr 6 31), (1, vl x1), (3, vl x3), (5, vl x5), (7, vi x7), (10, vl x10), (12, vl x12)]) (st1 := []) (h1 := xhp s) (pc2 := 87) (L2 := [(0, vr 6 31), (1, vl x1), (3, vl x3), (5, vl x5), (7, vi x7), (10, vl x10), (12, vl x12)]) (st2 := []) (h2 := xhp s) 10 (fun _ _ _ _ => rfl) (fun hc => ?_) (fun hc => ?_)
    · replace g := g.1 (lc_gt.mp hc)
      exact xW.locs (L := [(0, vr 6 31), (1, vl x1), (3, vl x3), (5, vl x5), (7, vi x7), (10, vl x10)]) ⟨rfl, rfl, rfl, rfl, rfl, rfl, trivial⟩ rfl g
    · replace g := g.2 (fun q => hc (lc_gt.mpr q))
      refine xW.seg (pc1 := 61) (L1 := [(12, vl (x12 + 1)), (10, vl x12), (0, vr 6 31), (1, vl x1), (3, vl x3), (5, vl x5), (7, vi x7)]) (st1 := []) (h1 := xhp s) 7 (fun _ _ _ _ => rfl) ?_
      exact xW.locs (L := [(0, vr 6 31), (1, vl x1), (3, vl x3), (5, vl x5), (7, vi x7), (10, vl x12), (12, vl (x12 + 1))]) ⟨rfl, rfl, rfl, rfl, rfl, rfl, rfl, trivial⟩ rfl g
noncomputable def ar_takeRoot_61 : Nat → xS → Int64 → Int64 → Int64 → Int32 → Int64 → Int64 → Int64 × Int64 × Int64 × Int32 × Int64 × xS
  | 0, s, _, _, _, _, _, _ => (0, 0, 0, 0, 0, s)
  | n + 1, s, x1, x3, x5, x7, x10, x12 => (if 9 < x12 then (x1, x3, x5, x7, x10, s) else (if x5 < (((20 * x3) + x12) * x12) then (x1, x3, x5, x7, x10, s) else (ar_takeRoot_61 n s x1 x3 x5 x7 x12 (x12 + 1))))
def ar_takeRoot_61_ok : Nat → xS → Int64 → Int64 → Int64 → Int32 → Int64 → Int64 → Prop
  | 0, _, _, _, _, _, _, _ => False
  | n + 1, s, x1, x3, x5, x7, x10, x12 => ((9 < x12 → True) ∧ (¬ (9 < x12) → ((x5 < (((20 * x3) + x12) * x12) → True) ∧ (¬ (x5 < (((20 * x3) + x12) * x12)) → (ar_takeRoot_61_ok n s x1 x3 x5 x7 x12 (x12 + 1))))))
set_option maxRecDepth 100000 in
theorem n122_61 {xs : Nat → Int32} {Ls : Nat} {Φ : Option xV → xH → Prop} : ∀ (n : Nat) (s : xS) (x1 : Int64) (x3 : Int64) (x5 : Int64) (x7 : Int32) (x10 : Int64) (x12 : Int64), ar_takeRoot_61_ok n s x1 x3 x5 x7 x10 x12 → xW (xX0 xs Ls) p122 100 [(0, vr 6 31), (1, vl (ar_takeRoot_61 n s x1 x3 x5 x7 x10 x12).1), (3, vl (ar_takeRoot_61 n s x1 x3 x5 x7 x10 x12).2.1), (5, vl (ar_takeRoot_61 n s x1 x3 x5 x7 x10 x12).2.2.1), (7, vi (ar_takeRoot_61 n s x1 x3 x5 x7 x10 x12).2.2.2.1), (10, vl (ar_takeRoot_61 n s x1 x3 x5 x7 x10 x12).2.2.2.2.1)] [] (xhp (ar_takeRoot_61 n s x1 x3 x5 x7 x10 x12).2.2.2.2.2) Φ → xW (xX0 xs Ls) p122 61 [(0, vr 6 31), (1, vl x1), (3, vl x3), (5, vl x5), (7, vi x7), (10, vl x10), (12, vl x12)] [] (xhp s) Φ := by
  intro n
  induction n with
  | zero => intro s _ _ _ _ _ _ gq; exact gq.elim
  | succ n ih =>
    intro s x1 x3 x5 x7 x10 x12 gq h
    unfold ar_takeRoot_61_ok at gq
    unfold ar_takeRoot_61 at h
    exact b122_61 s x1 x3 x5 x7 x10 x12 (⟨fun hc => by rw [if_pos hc] at h; replace gq := gq.1 hc; exact h, fun hc => by rw [if_neg hc] at h; replace gq := gq.2 hc; exact ⟨fun hc => by rw [if_pos hc] at h; replace gq := gq.1 hc; exact h, fun hc => by rw [if_neg hc] at h; replace gq := gq.2 hc; exact ih _ _ _ _ _ _ _ gq h⟩⟩)
set_option maxRecDepth 100000 in
theorem b122_9 {xs : Nat → Int32} {Ls : Nat} {Φ : Option xV → xH → Prop} (s : xS) (x1 : Int64) (x3 : Int64) (x5 : Int64) (x7 : Int32) (g : ((x7 < 0 → Φ none (xhp (sI (sJ s 31 1 x3) 31 2 (zb (!decide (x5 = 0)))))) ∧ (¬ (x7 < 0) → ((x7 < 8 → ((ar_takeRoot_61_ok xfu s x1 x3 ((x5 * 100) + 0) x7 0 1) ∧ xW (xX0 xs Ls) p122 9 [(0, vr 6 31), (1, vl ((ar_takeRoot_61 xfu s x1 x3 ((x5 * 100) + 0) x7 0 1).1)), (3, vl (((ar_takeRoot_61 xfu s x1 x3 ((x5 * 100) + 0) x7 0 1).2.1 * 10) + (ar_takeRoot_61 xfu s x1 x3 ((x5 * 100) + 0) x7 0 1).2.2.2.2.1)), (5, vl ((ar_takeRoot_61 xfu s x1 x3 ((x5 * 100) + 0) x7 0 1).2.2.1 - (((20 * (ar_takeRoot_61 xfu s x1 x3 ((x5 * 100) + 0) x7 0 1).2.1) + (ar_takeRoot_61 xfu s x1 x3 ((x5 * 100) + 0) x7 0 1).2.2.2.2.1) * (ar_takeRoot_61 xfu s x1 x3 ((x5 * 100) + 0) x7 0 1).2.2.2.2.1))), (7, vi ((ar_takeRoot_61 xfu s x1 x3 ((x5 * 100) + 0) x7 0 1).2.2.2.1 + (-1)))] [] (xhp ((ar_takeRoot_61 xfu s x1 x3 ((x5 * 100) + 0) x7 0 1).2.2.2.2.2)) Φ)) ∧ (¬ (x7 < 8) → ((vp_in (2 * (x7 - 8)) 19) ∧ ((¬ (iten (2 * (x7 - 8))) = 0) ∧ ((ar_takeRoot_61_ok xfu s x1 x3 ((x5 * 100) + ((x1 / (iten (2 * (x7 - 8)))) - (x1 / (iten (2 * (x7 - 8)))) / 100 * 100)) x7 0 1) ∧ xW (xX0 xs Ls) p122 9 [(0, vr 6 31), (1, vl ((ar_takeRoot_61 xfu s x1 x3 ((x5 * 100) + ((x1 / (iten (2 * (x7 - 8)))) - (x1 / (iten (2 * (x7 - 8)))) / 100 * 100)) x7 0 1).1)), (3, vl (((ar_takeRoot_61 xfu s x1 x3 ((x5 * 100) + ((x1 / (iten (2 * (x7 - 8)))) - (x1 / (iten (2 * (x7 - 8)))) / 100 * 100)) x7 0 1).2.1 * 10) + (ar_takeRoot_61 xfu s x1 x3 ((x5 * 100) + ((x1 / (iten (2 * (x7 - 8)))) - (x1 / (iten (2 * (x7 - 8)))) / 100 * 100)) x7 0 1).2.2.2.2.1)), (5, vl ((ar_takeRoot_61 xfu s x1 x3 ((x5 * 100) + ((x1 / (iten (2 * (x7 - 8)))) - (x1 / (iten (2 * (x7 - 8)))) / 100 * 100)) x7 0 1).2.2.1 - (((20 * (ar_takeRoot_61 xfu s x1 x3 ((x5 * 100) + ((x1 / (iten (2 * (x7 - 8)))) - (x1 / (iten (2 * (x7 - 8)))) / 100 * 100)) x7 0 1).2.1) + (ar_takeRoot_61 xfu s x1 x3 ((x5 * 100) + ((x1 / (iten (2 * (x7 - 8)))) - (x1 / (iten (2 * (x7 - 8)))) / 100 * 100)) x7 0 1).2.2.2.2.1) * (ar_takeRoot_61 xfu s x1 x3 ((x5 * 100) + ((x1 / (iten (2 * (x7 - 8)))) - (x1 / (iten (2 * (x7 - 8)))) / 100 * 100)) x7 0 1).2.2.2.2.1))), (7, vi ((ar_takeRoot_61 xfu s x1 x3 ((x5 * 100) + ((x1 / (iten (2 * (x7 - 8)))) - (x1 / (iten (2 * (x7 - 8)))) / 100 * 100)) x7 0 1).2.2.2.1 + (-1)))] [] (xhp ((ar_takeRoot_61 xfu s x1 x3 ((x5 * 100) + ((x1 / (iten (2 * (x7 - 8)))) - (x1 / (iten (2 * (x7 - 8)))) / 100 * 100)) x7 0 1).2.2.2.2.2)) Φ)))))))) : xW (xX0 xs Ls) p122 9 [(0, vr 6 31), (1, vl x1), (3, vl x3), (5, vl x5), (7, vi x7)] [] (xhp s) Φ := by
  refine xW.br (c := x7 < 0) (pc1 := 131) (L1 := [(0, vr 6 31), (1, vl x1), (3, vl x3), (5, vl x5), (7, vi x7)]) (st1 := []) (h1 := xhp s) (pc2 := 14) (L2 := [(0, vr 6 31), (1, vl x1), (3, vl x3), (5, vl x5), (7, vi x7)]) (st2 := []) (h2 := xhp s) 2 (fun _ _ _ _ => rfl) (fun hc => ?_) (fun hc => ?_)
  · replace g := g.1 hc
    refine xW.seg (pc1 := 141) (L1 := [(0, vr 6 31), (1, vl x1), (3, vl x3), (5, vl x5), (7, vi x7)]) (st1 := [vi (lg_cmp x5 0), vr 6 31]) (h1 := xhp (sJ s 31 1 x3)) 7 (fun _ _ _ _ => rfl) ?_
    suffices J : xW (xX0 xs Ls) p122 149 [(0, vr 6 31), (1, vl x1), (3, vl x3), (5, vl x5), (7, vi x7)] [vi (zb (!decide (x5 = 0))), vr 6 31] (xhp (sJ s 31 1 x3)) Φ by
      refine xW.br (c := (lg_cmp x5 0) = 0) (pc1 := 148) (L1 := [(0, vr 6 31), (1, vl x1), (3, vl x3), (5, vl x5), (7, vi x7)]) (st1 := [vr 6 31]) (h1 := xhp (sJ s 31 1 x3)) (pc2 := 144) (L2 := [(0, vr 6 31), (1, vl x1), (3, vl x3), (5, vl x5), (7, vi x7)]) (st2 := [vr 6 31]) (h2 := xhp (sJ s 31 1 x3)) 1 (fun _ _ _ _ => rfl) (fun hc => ?_) (fun hc => ?_)
      · have hc1 : x5 = 0 := (lc_eq.mp hc)
        refine xW.seg (pc1 := 149) (L1 := [(0, vr 6 31), (1, vl x1), (3, vl x3), (5, vl x5), (7, vi x7)]) (st1 := [vi 0, vr 6 31]) (h1 := xhp (sJ s 31 1 x3)) 1 (fun _ _ _ _ => rfl) ?_
        refine xW.to (v := vi (zb (!decide (x5 = 0)))) (zb_f (by simp only [decide_eq_true hc1, Bool.true_or, Bool.or_true, Bool.false_or, Bool.or_false, Bool.true_and, Bool.and_true, Bool.false_and, Bool.and_false, Bool.not_true, Bool.not_false, cond_true, cond_false])) ?_
        exact J
      · have hc1 : ¬ (x5 = 0) := (fun q => hc (lc_eq.mpr q))
        refine xW.seg (pc1 := 149) (L1 := [(0, vr 6 31), (1, vl x1), (3, vl x3), (5, vl x5), (7, vi x7)]) (st1 := [vi 1, vr 6 31]) (h1 := xhp (sJ s 31 1 x3)) 2 (fun _ _ _ _ => rfl) ?_
        refine xW.to (v := vi (zb (!decide (x5 = 0)))) (zb_t (by simp only [decide_eq_false hc1, Bool.true_or, Bool.or_true, Bool.false_or, Bool.or_false, Bool.true_and, Bool.and_true, Bool.false_and, Bool.and_false, Bool.not_true, Bool.not_false, cond_true, cond_false])) ?_
        exact J
    refine xW.side (c := (zb (!decide (x5 = 0))) = 0 ∨ (zb (!decide (x5 = 0))) = 1) (pc1 := 152) (L1 := [(0, vr 6 31), (1, vl x1), (3, vl x3), (5, vl x5), (7, vi x7)]) (st1 := []) (h1 := xhp (sI (sJ s 31 1 x3) 31 2 (zb (!decide (x5 = 0))))) 1 (fun _ _ _ _ => rfl) (zb01 _) ?_
    exact xW.ret (v0 := none) (h1 := xhp (sI (sJ s 31 1 x3) 31 2 (zb (!decide (x5 = 0))))) 1 (fun _ _ _ _ => rfl) g
  · replace g := g.2 hc
    refine xW.br (c := x7 < 8) (pc1 := 41) (L1 := [(0, vr 6 31), (1, vl x1), (3, vl x3), (5, vl x5), (7, vi x7)]) (st1 := []) (h1 := xhp s) (pc2 := 21) (L2 := [(0, vr 6 31), (1, vl x1), (3, vl x3), (5, vl x5), (7, vi x7)]) (st2 := []) (h2 := xhp s) 3 (fun _ _ _ _ => rfl) (fun hc => ?_) (fun hc => ?_)
    · replace g := g.1 hc
      refine xW.seg (pc1 := 61) (L1 := [(12, vl 1), (10, vl 0), (5, vl ((x5 * 100) + 0)), (8, vl 0), (0, vr 6 31), (1, vl x1), (3, vl x3), (7, vi x7)]) (st1 := []) (h1 := xhp s) 12 (fun _ _ _ _ => rfl) ?_
      refine xW.locs (L := [(0, vr 6 31), (1, vl x1), (3, vl x3), (5, vl ((x5 * 100) + 0)), (7, vi x7), (10, vl 0), (12, vl 1)]) ⟨rfl, rfl, rfl, rfl, rfl, rfl, rfl, trivial⟩ rfl ?_
      refine n122_61 xfu _ _ _ _ _ _ _ g.1 ?_
      replace g := g.2
      refine xW.seg (pc1 := 9) (L1 := [(7, vi ((ar_takeRoot_61 xfu s x1 x3 ((x5 * 100) + 0) x7 0 1).2.2.2.1 + (-1))), (3, vl (((ar_takeRoot_61 xfu s x1 x3 ((x5 * 100) + 0) x7 0 1).2.1 * 10) + (ar_takeRoot_61 xfu s x1 x3 ((x5 * 100) + 0) x7 0 1).2.2.2.2.1)), (5, vl ((ar_takeRoot_61 xfu s x1 x3 ((x5 * 100) + 0) x7 0 1).2.2.1 - (((20 * (ar_takeRoot_61 xfu s x1 x3 ((x5 * 100) + 0) x7 0 1).2.1) + (ar_takeRoot_61 xfu s x1 x3 ((x5 * 100) + 0) x7 0 1).2.2.2.2.1) * (ar_takeRoot_61 xfu s x1 x3 ((x5 * 100) + 0) x7 0 1).2.2.2.2.1))), (0, vr 6 31), (1, vl ((ar_takeRoot_61 xfu s x1 x3 ((x5 * 100) + 0) x7 0 1).1)), (10, vl ((ar_takeRoot_61 xfu s x1 x3 ((x5 * 100) + 0) x7 0 1).2.2.2.2.1))]) (st1 := []) (h1 := xhp ((ar_takeRoot_61 xfu s x1 x3 ((x5 * 100) + 0) x7 0 1).2.2.2.2.2)) 18 (fun _ _ _ _ => rfl) ?_
      exact xW.locs (L := [(0, vr 6 31), (1, vl ((ar_takeRoot_61 xfu s x1 x3 ((x5 * 100) + 0) x7 0 1).1)), (3, vl (((ar_takeRoot_61 xfu s x1 x3 ((x5 * 100) + 0) x7 0 1).2.1 * 10) + (ar_takeRoot_61 xfu s x1 x3 ((x5 * 100) + 0) x7 0 1).2.2.2.2.1)), (5, vl ((ar_takeRoot_61 xfu s x1 x3 ((x5 * 100) + 0) x7 0 1).2.2.1 - (((20 * (ar_takeRoot_61 xfu s x1 x3 ((x5 * 100) + 0) x7 0 1).2.1) + (ar_takeRoot_61 xfu s x1 x3 ((x5 * 100) + 0) x7 0 1).2.2.2.2.1) * (ar_takeRoot_61 xfu s x1 x3 ((x5 * 100) + 0) x7 0 1).2.2.2.2.1))), (7, vi ((ar_takeRoot_61 xfu s x1 x3 ((x5 * 100) + 0) x7 0 1).2.2.2.1 + (-1)))]) ⟨rfl, rfl, rfl, rfl, rfl, trivial⟩ rfl g
    · replace g := g.2 hc
      refine xW.side (c := vp_in (2 * (x7 - 8)) 19) (pc1 := 33) (L1 := [(0, vr 6 31), (1, vl x1), (3, vl x3), (5, vl x5), (7, vi x7)]) (st1 := [vl (iten (2 * (x7 - 8))), vl x1]) (h1 := xhp s) 8 (fun _ _ _ _ => rfl) g.1 ?_
      replace g := g.2
      refine xW.side (c := ¬ (iten (2 * (x7 - 8))) = 0) (pc1 := 34) (L1 := [(0, vr 6 31), (1, vl x1), (3, vl x3), (5, vl x5), (7, vi x7)]) (st1 := [vl (x1 / (iten (2 * (x7 - 8))))]) (h1 := xhp s) 1 (fun _ _ _ _ => rfl) g.1 ?_
      replace g := g.2
      refine xW.side (c := ¬ (100 : Int64) = 0) (pc1 := 38) (L1 := [(0, vr 6 31), (1, vl x1), (3, vl x3), (5, vl x5), (7, vi x7)]) (st1 := [vl ((x1 / (iten (2 * (x7 - 8)))) - (x1 / (iten (2 * (x7 - 8)))) / 100 * 100)]) (h1 := xhp s) 2 (fun _ _ _ _ => rfl) (by decide) ?_
      refine xW.seg (pc1 := 61) (L1 := [(12, vl 1), (10, vl 0), (5, vl ((x5 * 100) + ((x1 / (iten (2 * (x7 - 8)))) - (x1 / (iten (2 * (x7 - 8)))) / 100 * 100))), (8, vl ((x1 / (iten (2 * (x7 - 8)))) - (x1 / (iten (2 * (x7 - 8)))) / 100 * 100)), (0, vr 6 31), (1, vl x1), (3, vl x3), (7, vi x7)]) (st1 := []) (h1 := xhp s) 12 (fun _ _ _ _ => rfl) ?_
      refine xW.locs (L := [(0, vr 6 31), (1, vl x1), (3, vl x3), (5, vl ((x5 * 100) + ((x1 / (iten (2 * (x7 - 8)))) - (x1 / (iten (2 * (x7 - 8)))) / 100 * 100))), (7, vi x7), (10, vl 0), (12, vl 1)]) ⟨rfl, rfl, rfl, rfl, rfl, rfl, rfl, trivial⟩ rfl ?_
      refine n122_61 xfu _ _ _ _ _ _ _ g.1 ?_
      replace g := g.2
      refine xW.seg (pc1 := 9) (L1 := [(7, vi ((ar_takeRoot_61 xfu s x1 x3 ((x5 * 100) + ((x1 / (iten (2 * (x7 - 8)))) - (x1 / (iten (2 * (x7 - 8)))) / 100 * 100)) x7 0 1).2.2.2.1 + (-1))), (3, vl (((ar_takeRoot_61 xfu s x1 x3 ((x5 * 100) + ((x1 / (iten (2 * (x7 - 8)))) - (x1 / (iten (2 * (x7 - 8)))) / 100 * 100)) x7 0 1).2.1 * 10) + (ar_takeRoot_61 xfu s x1 x3 ((x5 * 100) + ((x1 / (iten (2 * (x7 - 8)))) - (x1 / (iten (2 * (x7 - 8)))) / 100 * 100)) x7 0 1).2.2.2.2.1)), (5, vl ((ar_takeRoot_61 xfu s x1 x3 ((x5 * 100) + ((x1 / (iten (2 * (x7 - 8)))) - (x1 / (iten (2 * (x7 - 8)))) / 100 * 100)) x7 0 1).2.2.1 - (((20 * (ar_takeRoot_61 xfu s x1 x3 ((x5 * 100) + ((x1 / (iten (2 * (x7 - 8)))) - (x1 / (iten (2 * (x7 - 8)))) / 100 * 100)) x7 0 1).2.1) + (ar_takeRoot_61 xfu s x1 x3 ((x5 * 100) + ((x1 / (iten (2 * (x7 - 8)))) - (x1 / (iten (2 * (x7 - 8)))) / 100 * 100)) x7 0 1).2.2.2.2.1) * (ar_takeRoot_61 xfu s x1 x3 ((x5 * 100) + ((x1 / (iten (2 * (x7 - 8)))) - (x1 / (iten (2 * (x7 - 8)))) / 100 * 100)) x7 0 1).2.2.2.2.1))), (0, vr 6 31), (1, vl ((ar_takeRoot_61 xfu s x1 x3 ((x5 * 100) + ((x1 / (iten (2 * (x7 - 8)))) - (x1 / (iten (2 * (x7 - 8)))) / 100 * 100)) x7 0 1).1)), (10, vl ((ar_takeRoot_61 xfu s x1 x3 ((x5 * 100) + ((x1 / (iten (2 * (x7 - 8)))) - (x1 / (iten (2 * (x7 - 8)))) / 100 * 100)) x7 0 1).2.2.2.2.1))]) (st1 := []) (h1 := xhp ((ar_takeRoot_61 xfu s x1 x3 ((x5 * 100) + ((x1 / (iten (2 * (x7 - 8)))) - (x1 / (iten (2 * (x7 - 8)))) / 100 * 100)) x7 0 1).2.2.2.2.2)) 18 (fun _ _ _ _ => rfl) ?_
      exact xW.locs (L := [(0, vr 6 31), (1, vl ((ar_takeRoot_61 xfu s x1 x3 ((x5 * 100) + ((x1 / (iten (2 * (x7 - 8)))) - (x1 / (iten (2 * (x7 - 8)))) / 100 * 100)) x7 0 1).1)), (3, vl (((ar_takeRoot_61 xfu s x1 x3 ((x5 * 100) + ((x1 / (iten (2 * (x7 - 8)))) - (x1 / (iten (2 * (x7 - 8)))) / 100 * 100)) x7 0 1).2.1 * 10) + (ar_takeRoot_61 xfu s x1 x3 ((x5 * 100) + ((x1 / (iten (2 * (x7 - 8)))) - (x1 / (iten (2 * (x7 - 8)))) / 100 * 100)) x7 0 1).2.2.2.2.1)), (5, vl ((ar_takeRoot_61 xfu s x1 x3 ((x5 * 100) + ((x1 / (iten (2 * (x7 - 8)))) - (x1 / (iten (2 * (x7 - 8)))) / 100 * 100)) x7 0 1).2.2.1 - (((20 * (ar_takeRoot_61 xfu s x1 x3 ((x5 * 100) + ((x1 / (iten (2 * (x7 - 8)))) - (x1 / (iten (2 * (x7 - 8)))) / 100 * 100)) x7 0 1).2.1) + (ar_takeRoot_61 xfu s x1 x3 ((x5 * 100) + ((x1 / (iten (2 * (x7 - 8)))) - (x1 / (iten (2 * (x7 - 8)))) / 100 * 100)) x7 0 1).2.2.2.2.1) * (ar_takeRoot_61 xfu s x1 x3 ((x5 * 100) + ((x1 / (iten (2 * (x7 - 8)))) - (x1 / (iten (2 * (x7 - 8)))) / 100 * 100)) x7 0 1).2.2.2.2.1))), (7, vi ((ar_takeRoot_61 xfu s x1 x3 ((x5 * 100) + ((x1 / (iten (2 * (x7 - 8)))) - (x1 / (iten (2 * (x7 - 8)))) / 100 * 100)) x7 0 1).2.2.2.1 + (-1)))]) ⟨rfl, rfl, rfl, rfl, rfl, trivial⟩ rfl g
noncomputable def ar_takeRoot_9 : Nat → xS → Int64 → Int64 → Int64 → Int32 → xS
  | 0, s, _, _, _, _ => s
  | n + 1, s, x1, x3, x5, x7 => (if x7 < 0 then (sI (sJ s 31 1 x3) 31 2 (zb (!decide (x5 = 0)))) else (if x7 < 8 then (ar_takeRoot_9 n ((ar_takeRoot_61 xfu s x1 x3 ((x5 * 100) + 0) x7 0 1).2.2.2.2.2) ((ar_takeRoot_61 xfu s x1 x3 ((x5 * 100) + 0) x7 0 1).1) (((ar_takeRoot_61 xfu s x1 x3 ((x5 * 100) + 0) x7 0 1).2.1 * 10) + (ar_takeRoot_61 xfu s x1 x3 ((x5 * 100) + 0) x7 0 1).2.2.2.2.1) ((ar_takeRoot_61 xfu s x1 x3 ((x5 * 100) + 0) x7 0 1).2.2.1 - (((20 * (ar_takeRoot_61 xfu s x1 x3 ((x5 * 100) + 0) x7 0 1).2.1) + (ar_takeRoot_61 xfu s x1 x3 ((x5 * 100) + 0) x7 0 1).2.2.2.2.1) * (ar_takeRoot_61 xfu s x1 x3 ((x5 * 100) + 0) x7 0 1).2.2.2.2.1)) ((ar_takeRoot_61 xfu s x1 x3 ((x5 * 100) + 0) x7 0 1).2.2.2.1 + (-1))) else (ar_takeRoot_9 n ((ar_takeRoot_61 xfu s x1 x3 ((x5 * 100) + ((x1 / (iten (2 * (x7 - 8)))) - (x1 / (iten (2 * (x7 - 8)))) / 100 * 100)) x7 0 1).2.2.2.2.2) ((ar_takeRoot_61 xfu s x1 x3 ((x5 * 100) + ((x1 / (iten (2 * (x7 - 8)))) - (x1 / (iten (2 * (x7 - 8)))) / 100 * 100)) x7 0 1).1) (((ar_takeRoot_61 xfu s x1 x3 ((x5 * 100) + ((x1 / (iten (2 * (x7 - 8)))) - (x1 / (iten (2 * (x7 - 8)))) / 100 * 100)) x7 0 1).2.1 * 10) + (ar_takeRoot_61 xfu s x1 x3 ((x5 * 100) + ((x1 / (iten (2 * (x7 - 8)))) - (x1 / (iten (2 * (x7 - 8)))) / 100 * 100)) x7 0 1).2.2.2.2.1) ((ar_takeRoot_61 xfu s x1 x3 ((x5 * 100) + ((x1 / (iten (2 * (x7 - 8)))) - (x1 / (iten (2 * (x7 - 8)))) / 100 * 100)) x7 0 1).2.2.1 - (((20 * (ar_takeRoot_61 xfu s x1 x3 ((x5 * 100) + ((x1 / (iten (2 * (x7 - 8)))) - (x1 / (iten (2 * (x7 - 8)))) / 100 * 100)) x7 0 1).2.1) + (ar_takeRoot_61 xfu s x1 x3 ((x5 * 100) + ((x1 / (iten (2 * (x7 - 8)))) - (x1 / (iten (2 * (x7 - 8)))) / 100 * 100)) x7 0 1).2.2.2.2.1) * (ar_takeRoot_61 xfu s x1 x3 ((x5 * 100) + ((x1 / (iten (2 * (x7 - 8)))) - (x1 / (iten (2 * (x7 - 8)))) / 100 * 100)) x7 0 1).2.2.2.2.1)) ((ar_takeRoot_61 xfu s x1 x3 ((x5 * 100) + ((x1 / (iten (2 * (x7 - 8)))) - (x1 / (iten (2 * (x7 - 8)))) / 100 * 100)) x7 0 1).2.2.2.1 + (-1)))))
def ar_takeRoot_9_ok : Nat → xS → Int64 → Int64 → Int64 → Int32 → Prop
  | 0, _, _, _, _, _ => False
  | n + 1, s, x1, x3, x5, x7 => (¬ (x7 < 0) → ((x7 < 8 → ((ar_takeRoot_61_ok xfu s x1 x3 ((x5 * 100) + 0) x7 0 1) ∧ (ar_takeRoot_9_ok n ((ar_takeRoot_61 xfu s x1 x3 ((x5 * 100) + 0) x7 0 1).2.2.2.2.2) ((ar_takeRoot_61 xfu s x1 x3 ((x5 * 100) + 0) x7 0 1).1) (((ar_takeRoot_61 xfu s x1 x3 ((x5 * 100) + 0) x7 0 1).2.1 * 10) + (ar_takeRoot_61 xfu s x1 x3 ((x5 * 100) + 0) x7 0 1).2.2.2.2.1) ((ar_takeRoot_61 xfu s x1 x3 ((x5 * 100) + 0) x7 0 1).2.2.1 - (((20 * (ar_takeRoot_61 xfu s x1 x3 ((x5 * 100) + 0) x7 0 1).2.1) + (ar_takeRoot_61 xfu s x1 x3 ((x5 * 100) + 0) x7 0 1).2.2.2.2.1) * (ar_takeRoot_61 xfu s x1 x3 ((x5 * 100) + 0) x7 0 1).2.2.2.2.1)) ((ar_takeRoot_61 xfu s x1 x3 ((x5 * 100) + 0) x7 0 1).2.2.2.1 + (-1))))) ∧ (¬ (x7 < 8) → ((vp_in (2 * (x7 - 8)) 19) ∧ ((¬ (iten (2 * (x7 - 8))) = 0) ∧ ((ar_takeRoot_61_ok xfu s x1 x3 ((x5 * 100) + ((x1 / (iten (2 * (x7 - 8)))) - (x1 / (iten (2 * (x7 - 8)))) / 100 * 100)) x7 0 1) ∧ (ar_takeRoot_9_ok n ((ar_takeRoot_61 xfu s x1 x3 ((x5 * 100) + ((x1 / (iten (2 * (x7 - 8)))) - (x1 / (iten (2 * (x7 - 8)))) / 100 * 100)) x7 0 1).2.2.2.2.2) ((ar_takeRoot_61 xfu s x1 x3 ((x5 * 100) + ((x1 / (iten (2 * (x7 - 8)))) - (x1 / (iten (2 * (x7 - 8)))) / 100 * 100)) x7 0 1).1) (((ar_takeRoot_61 xfu s x1 x3 ((x5 * 100) + ((x1 / (iten (2 * (x7 - 8)))) - (x1 / (iten (2 * (x7 - 8)))) / 100 * 100)) x7 0 1).2.1 * 10) + (ar_takeRoot_61 xfu s x1 x3 ((x5 * 100) + ((x1 / (iten (2 * (x7 - 8)))) - (x1 / (iten (2 * (x7 - 8)))) / 100 * 100)) x7 0 1).2.2.2.2.1) ((ar_takeRoot_61 xfu s x1 x3 ((x5 * 100) + ((x1 / (iten (2 * (x7 - 8)))) - (x1 / (iten (2 * (x7 - 8)))) / 100 * 100)) x7 0 1).2.2.1 - (((20 * (ar_takeRoot_61 xfu s x1 x3 ((x5 * 100) + ((x1 / (iten (2 * (x7 - 8)))) - (x1 / (iten (2 * (x7 - 8)))) / 100 * 100)) x7 0 1).2.1) + (ar_takeRoot_61 xfu s x1 x3 ((x5 * 100) + ((x1 / (iten (2 * (x7 - 8)))) - (x1 / (iten (2 * (x7 - 8)))) / 100 * 100)) x7 0 1).2.2.2.2.1) * (ar_takeRoot_61 xfu s x1 x3 ((x5 * 100) + ((x1 / (iten (2 * (x7 - 8)))) - (x1 / (iten (2 * (x7 - 8)))) / 100 * 100)) x7 0 1).2.2.2.2.1)) ((ar_takeRoot_61 xfu s x1 x3 ((x5 * 100) + ((x1 / (iten (2 * (x7 - 8)))) - (x1 / (iten (2 * (x7 - 8)))) / 100 * 100)) x7 0 1).2.2.2.1 + (-1)))))))))
set_option maxRecDepth 100000 in
theorem n122_9 {xs : Nat → Int32} {Ls : Nat} {Φ : Option xV → xH → Prop} : ∀ (n : Nat) (s : xS) (x1 : Int64) (x3 : Int64) (x5 : Int64) (x7 : Int32), ar_takeRoot_9_ok n s x1 x3 x5 x7 → Φ none (xhp (ar_takeRoot_9 n s x1 x3 x5 x7)) → xW (xX0 xs Ls) p122 9 [(0, vr 6 31), (1, vl x1), (3, vl x3), (5, vl x5), (7, vi x7)] [] (xhp s) Φ := by
  intro n
  induction n with
  | zero => intro s _ _ _ _ gq; exact gq.elim
  | succ n ih =>
    intro s x1 x3 x5 x7 gq h
    unfold ar_takeRoot_9_ok at gq
    unfold ar_takeRoot_9 at h
    exact b122_9 s x1 x3 x5 x7 (⟨fun hc => by rw [if_pos hc] at h; exact h, fun hc => by rw [if_neg hc] at h; replace gq := gq hc; exact ⟨fun hc => by rw [if_pos hc] at h; replace gq := gq.1 hc; exact ⟨gq.1, by replace gq := gq.2; exact ih _ _ _ _ _ gq h⟩, fun hc => by rw [if_neg hc] at h; replace gq := gq.2 hc; exact ⟨gq.1, by replace gq := gq.2; exact ⟨gq.1, by replace gq := gq.2; exact ⟨gq.1, by replace gq := gq.2; exact ih _ _ _ _ _ gq h⟩⟩⟩⟩⟩)
set_option maxRecDepth 100000 in
theorem b122_0 {xs : Nat → Int32} {Ls : Nat} {Φ : Option xV → xH → Prop} (s : xS) (q : Int64) (g : xW (xX0 xs Ls) p122 9 [(0, vr 6 31), (1, vl q), (3, vl 0), (5, vl 0), (7, vi 14)] [] (xhp s) Φ) : xW (xX0 xs Ls) p122 0 [(0, vr 6 31), (1, vl q)] [] (xhp s) Φ := by
  refine xW.seg (pc1 := 9) (L1 := [(7, vi 14), (5, vl 0), (3, vl 0), (0, vr 6 31), (1, vl q)]) (st1 := []) (h1 := xhp s) 6 (fun _ _ _ _ => rfl) ?_
  exact xW.locs (L := [(0, vr 6 31), (1, vl q), (3, vl 0), (5, vl 0), (7, vi 14)]) ⟨rfl, rfl, rfl, rfl, rfl, trivial⟩ rfl g
noncomputable def ar_takeRoot_d (s : xS) (q : Int64) : xS := (ar_takeRoot_9 xfu s q 0 0 14)
noncomputable def ar_takeRoot : xS → Int64 → xS := Classical.choose (⟨ar_takeRoot_d, rfl⟩ : ∃ f, f = ar_takeRoot_d)
set_option maxRecDepth 100000 in
theorem ar_takeRoot_eq : ar_takeRoot = ar_takeRoot_d := Classical.choose_spec (⟨ar_takeRoot_d, rfl⟩ : ∃ f, f = ar_takeRoot_d)
def ar_takeRoot_ok (s : xS) (q : Int64) : Prop := (ar_takeRoot_9_ok xfu s q 0 0 14)
set_option maxRecDepth 100000 in
theorem m122 {xs : Nat → Int32} {Ls : Nat} {Ψ : xO → xH → Prop} (s : xS) (q : Int64) (gq : ar_takeRoot_ok s q) (h : Ψ (.inl none) (xhp (ar_takeRoot s q))) : xM (xX0 xs Ls) 122 [vr 6 31, vl q] (xhp s) Ψ := by
  rw [ar_takeRoot_eq] at h
  unfold ar_takeRoot_d at h
  unfold ar_takeRoot_ok at gq
  exact xM.of (P := p122) rfl rfl rfl (b122_0 s q (n122_9 _ _ _ _ _ _ gq h))
/-! ar_combine -/
theorem b116_77 {xs : Nat → Int32} {Ls : Nat} {Φ : Option xV → xH → Prop} (s : xS) (a : Nat) (g : ((ar_round_ok s a) ∧ Φ (some (vi ((ar_round s a).1))) (xhp ((ar_round s a).2)))) : xW (xX0 xs Ls) p116 77 [(0, vr 6 31), (4, vr 5 a)] [] (xhp s) Φ := by
  refine xW.call (y := 123) (as := [vr 6 31, vr 5 a]) (h0 := xhp s) (pc0 := 80) (len := 3) (L0 := [(0, vr 6 31), (4, vr 5 a)]) (rest := []) 3 (fun _ _ _ _ => rfl) (m123 _ _ g.1 ?_)
  show xW (xX0 xs Ls) p116 83 [(0, vr 6 31), (4, vr 5 a)] [vi ((ar_round s a).1)] (xhp ((ar_round s a).2)) Φ
  replace g := g.2
  exact xW.ret (v0 := some (vi ((ar_round s a).1))) (h1 := xhp ((ar_round s a).2)) 1 (fun _ _ _ _ => rfl) g
noncomputable def ar_combine_77_d (s : xS) (a : Nat) : Int32 × xS := (ar_round s a)
noncomputable def ar_combine_77 : xS → Nat → Int32 × xS := Classical.choose (⟨ar_combine_77_d, rfl⟩ : ∃ f, f = ar_combine_77_d)
set_option maxRecDepth 100000 in
theorem ar_combine_77_eq : ar_combine_77 = ar_combine_77_d := Classical.choose_spec (⟨ar_combine_77_d, rfl⟩ : ∃ f, f = ar_combine_77_d)
def ar_combine_77_ok (s : xS) (a : Nat) : Prop := (ar_round_ok s a)
set_option maxRecDepth 100000 in
theorem n116_77 {xs : Nat → Int32} {Ls : Nat} {Φ : Option xV → xH → Prop} (s : xS) (a : Nat) (gq : ar_combine_77_ok s a) (h : Φ (some (vi (ar_combine_77 s a).1)) (xhp (ar_combine_77 s a).2)) : xW (xX0 xs Ls) p116 77 [(0, vr 6 31), (4, vr 5 a)] [] (xhp s) Φ := by
  rw [ar_combine_77_eq] at h
  unfold ar_combine_77_d at h
  unfold ar_combine_77_ok at gq
  exact b116_77 s a (⟨gq, (by (try dsimp only at h); exact h)⟩)
set_option maxRecDepth 100000 in
theorem b116_0 {xs : Nat → Int32} {Ls : Nat} {Φ : Option xV → xH → Prop} (s : xS) (k : Int32) (l : Nat) (r : Nat) (a : Nat) (g : ((¬ k = 43 → ((¬ k = 45 → ((¬ k = 42 → ((¬ (gJ s r 0) = 0 → ((ar_divide_ok s l r) ∧ xW (xX0 xs Ls) p116 77 [(0, vr 6 31), (4, vr 5 a)] [] (xhp (ar_divide s l r)) Φ)) ∧ ((gJ s r 0) = 0 → Φ (some (vi 3)) (xhp s)))) ∧ (k = 42 → xW (xX0 xs Ls) p116 77 [(0, vr 6 31), (4, vr 5 a)] [] (xhp (ar_multiply s l r)) Φ))) ∧ (k = 45 → ((ar_add_ok s l (-(gJ s r 0)) (gI s r 1)) ∧ xW (xX0 xs Ls) p116 77 [(0, vr 6 31), (4, vr 5 a)] [] (xhp (ar_add s l (-(gJ s r 0)) (gI s r 1))) Φ)))) ∧ (k = 43 → ((ar_add_ok s l (gJ s r 0) (gI s r 1)) ∧ xW (xX0 xs Ls) p116 77 [(0, vr 6 31), (4, vr 5 a)] [] (xhp (ar_add s l (gJ s r 0) (gI s r 1))) Φ)))) : xW (xX0 xs Ls) p116 0 [(0, vr 6 31), (1, vi k), (2, vr 5 l), (3, vr 5 r), (4, vr 5 a)] [] (xhp s) Φ := by
  refine xW.br (c := ¬ k = 43) (pc1 := 22) (L1 := [(0, vr 6 31), (1, vi k), (2, vr 5 l), (3, vr 5 r), (4, vr 5 a)]) (st1 := []) (h1 := xhp s) (pc2 := 6) (L2 := [(0, vr 6 31), (1, vi k), (2, vr 5 l), (3, vr 5 r), (4, vr 5 a)]) (st2 := []) (h2 := xhp s) 3 (fun _ _ _ _ => rfl) (fun hc => ?_) (fun hc => ?_)
  · replace g := g.1 hc
    refine xW.br (c := ¬ k = 45) (pc1 := 45) (L1 := [(0, vr 6 31), (1, vi k), (2, vr 5 l), (3, vr 5 r), (4, vr 5 a)]) (st1 := []) (h1 := xhp s) (pc2 := 28) (L2 := [(0, vr 6 31), (1, vi k), (2, vr 5 l), (3, vr 5 r), (4, vr 5 a)]) (st2 := []) (h2 := xhp s) 3 (fun _ _ _ _ => rfl) (fun hc => ?_) (fun hc => ?_)
    · replace g := g.1 hc
      refine xW.br (c := ¬ k = 42) (pc1 := 60) (L1 := [(0, vr 6 31), (1, vi k), (2, vr 5 l), (3, vr 5 r), (4, vr 5 a)]) (st1 := []) (h1 := xhp s) (pc2 := 51) (L2 := [(0, vr 6 31), (1, vi k), (2, vr 5 l), (3, vr 5 r), (4, vr 5 a)]) (st2 := []) (h2 := xhp s) 3 (fun _ _ _ _ => rfl) (fun hc => ?_) (fun hc => ?_)
      · replace g := g.1 hc
        refine xW.br (c := ¬ (lg_cmp (gJ s r 0) 0) = 0) (pc1 := 71) (L1 := [(0, vr 6 31), (1, vi k), (2, vr 5 l), (3, vr 5 r), (4, vr 5 a)]) (st1 := []) (h1 := xhp s) (pc2 := 69) (L2 := [(0, vr 6 31), (1, vi k), (2, vr 5 l), (3, vr 5 r), (4, vr 5 a)]) (st2 := []) (h2 := xhp s) 5 (fun _ _ _ _ => rfl) (fun hc => ?_) (fun hc => ?_)
        · replace g := g.1 (fun q => hc (lc_eq.mpr q))
          refine xW.call (y := 121) (as := [vr 6 31, vr 5 l, vr 5 r]) (h0 := xhp s) (pc0 := 74) (len := 3) (L0 := [(0, vr 6 31), (1, vi k), (2, vr 5 l), (3, vr 5 r), (4, vr 5 a)]) (rest := []) 4 (fun _ _ _ _ => rfl) (m121 _ _ _ g.1 ?_)
          show xW (xX0 xs Ls) p116 77 [(0, vr 6 31), (1, vi k), (2, vr 5 l), (3, vr 5 r), (4, vr 5 a)] [] (xhp (ar_divide s l r)) Φ
          replace g := g.2
          exact xW.locs (L := [(0, vr 6 31), (4, vr 5 a)]) ⟨rfl, rfl, trivial⟩ rfl g
        · replace g := g.2 (lc_eq.mp (Decidable.not_not.mp hc))
          exact xW.ret (v0 := some (vi 3)) (h1 := xhp s) 2 (fun _ _ _ _ => rfl) g
      · replace g := g.2 (Decidable.not_not.mp hc)
        refine xW.call (y := 120) (as := [vr 6 31, vr 5 l, vr 5 r]) (h0 := xhp s) (pc0 := 54) (len := 3) (L0 := [(0, vr 6 31), (1, vi k), (2, vr 5 l), (3, vr 5 r), (4, vr 5 a)]) (rest := []) 4 (fun _ _ _ _ => rfl) (m120 _ _ _ ?_)
        show xW (xX0 xs Ls) p116 57 [(0, vr 6 31), (1, vi k), (2, vr 5 l), (3, vr 5 r), (4, vr 5 a)] [] (xhp (ar_multiply s l r)) Φ
        refine xW.seg (pc1 := 77) (L1 := [(0, vr 6 31), (1, vi k), (2, vr 5 l), (3, vr 5 r), (4, vr 5 a)]) (st1 := []) (h1 := xhp (ar_multiply s l r)) 1 (fun _ _ _ _ => rfl) ?_
        exact xW.locs (L := [(0, vr 6 31), (4, vr 5 a)]) ⟨rfl, rfl, trivial⟩ rfl g
    · replace g := g.2 (Decidable.not_not.mp hc)
      refine xW.call (y := 119) (as := [vr 6 31, vr 5 l, vl (-(gJ s r 0)), vi (gI s r 1)]) (h0 := xhp s) (pc0 := 39) (len := 3) (L0 := [(0, vr 6 31), (1, vi k), (2, vr 5 l), (3, vr 5 r), (4, vr 5 a)]) (rest := []) 8 (fun _ _ _ _ => rfl) (m119 _ _ _ _ g.1 ?_)
      show xW (xX0 xs Ls) p116 42 [(0, vr 6 31), (1, vi k), (2, vr 5 l), (3, vr 5 r), (4, vr 5 a)] [] (xhp (ar_add s l (-(gJ s r 0)) (gI s r 1))) Φ
      replace g := g.2
      refine xW.seg (pc1 := 77) (L1 := [(0, vr 6 31), (1, vi k), (2, vr 5 l), (3, vr 5 r), (4, vr 5 a)]) (st1 := []) (h1 := xhp (ar_add s l (-(gJ s r 0)) (gI s r 1))) 1 (fun _ _ _ _ => rfl) ?_
      exact xW.locs (L := [(0, vr 6 31), (4, vr 5 a)]) ⟨rfl, rfl, trivial⟩ rfl g
  · replace g := g.2 (Decidable.not_not.mp hc)
    refine xW.call (y := 119) (as := [vr 6 31, vr 5 l, vl (gJ s r 0), vi (gI s r 1)]) (h0 := xhp s) (pc0 := 16) (len := 3) (L0 := [(0, vr 6 31), (1, vi k), (2, vr 5 l), (3, vr 5 r), (4, vr 5 a)]) (rest := []) 7 (fun _ _ _ _ => rfl) (m119 _ _ _ _ g.1 ?_)
    show xW (xX0 xs Ls) p116 19 [(0, vr 6 31), (1, vi k), (2, vr 5 l), (3, vr 5 r), (4, vr 5 a)] [] (xhp (ar_add s l (gJ s r 0) (gI s r 1))) Φ
    replace g := g.2
    refine xW.seg (pc1 := 77) (L1 := [(0, vr 6 31), (1, vi k), (2, vr 5 l), (3, vr 5 r), (4, vr 5 a)]) (st1 := []) (h1 := xhp (ar_add s l (gJ s r 0) (gI s r 1))) 1 (fun _ _ _ _ => rfl) ?_
    exact xW.locs (L := [(0, vr 6 31), (4, vr 5 a)]) ⟨rfl, rfl, trivial⟩ rfl g
noncomputable def ar_combine_d (s : xS) (k : Int32) (l : Nat) (r : Nat) (a : Nat) : Int32 × xS := (if ¬ k = 43 then (if ¬ k = 45 then (if ¬ k = 42 then (if ¬ (gJ s r 0) = 0 then (ar_combine_77 (ar_divide s l r) a) else (3, s)) else (ar_combine_77 (ar_multiply s l r) a)) else (ar_combine_77 (ar_add s l (-(gJ s r 0)) (gI s r 1)) a)) else (ar_combine_77 (ar_add s l (gJ s r 0) (gI s r 1)) a))
noncomputable def ar_combine : xS → Int32 → Nat → Nat → Nat → Int32 × xS := Classical.choose (⟨ar_combine_d, rfl⟩ : ∃ f, f = ar_combine_d)
set_option maxRecDepth 100000 in
theorem ar_combine_eq : ar_combine = ar_combine_d := Classical.choose_spec (⟨ar_combine_d, rfl⟩ : ∃ f, f = ar_combine_d)
def ar_combine_ok (s : xS) (k : Int32) (l : Nat) (r : Nat) (a : Nat) : Prop := ((¬ k = 43 → ((¬ k = 45 → ((¬ k = 42 → (¬ (gJ s r 0) = 0 → ((ar_divide_ok s l r) ∧ (ar_combine_77_ok (ar_divide s l r) a)))) ∧ (k = 42 → (ar_combine_77_ok (ar_multiply s l r) a)))) ∧ (k = 45 → ((ar_add_ok s l (-(gJ s r 0)) (gI s r 1)) ∧ (ar_combine_77_ok (ar_add s l (-(gJ s r 0)) (gI s r 1)) a))))) ∧ (k = 43 → ((ar_add_ok s l (gJ s r 0) (gI s r 1)) ∧ (ar_combine_77_ok (ar_add s l (gJ s r 0) (gI s r 1)) a))))
set_option maxRecDepth 100000 in
theorem m116 {xs : Nat → Int32} {Ls : Nat} {Ψ : xO → xH → Prop} (s : xS) (k : Int32) (l : Nat) (r : Nat) (a : Nat) (gq : ar_combine_ok s k l r a) (h : Ψ (.inl (some (vi (ar_combine s k l r a).1))) (xhp (ar_combine s k l r a).2)) : xM (xX0 xs Ls) 116 [vr 6 31, vi k, vr 5 l, vr 5 r, vr 5 a] (xhp s) Ψ := by
  rw [ar_combine_eq] at h
  unfold ar_combine_d at h
  unfold ar_combine_ok at gq
  exact xM.of (P := p116) rfl rfl rfl (b116_0 s k l r a (⟨fun hc => by rw [if_pos hc] at h; replace gq := gq.1 hc; exact ⟨fun hc => by rw [if_pos hc] at h; replace gq := gq.1 hc; exact ⟨fun hc => by rw [if_pos hc] at h; replace gq := gq.1 hc; exact ⟨fun hc => by rw [if_pos hc] at h; replace gq := gq hc; exact ⟨gq.1, by replace gq := gq.2; exact n116_77 _ _ gq h⟩, fun hc => by rw [if_neg (fun z => z hc)] at h; exact (by (try dsimp only at h); exact h)⟩, fun hc => by rw [if_neg (fun z => z hc)] at h; replace gq := gq.2 hc; exact n116_77 _ _ gq h⟩, fun hc => by rw [if_neg (fun z => z hc)] at h; replace gq := gq.2 hc; exact ⟨gq.1, by replace gq := gq.2; exact n116_77 _ _ gq h⟩⟩, fun hc => by rw [if_neg (fun z => z hc)] at h; replace gq := gq.2 hc; exact ⟨gq.1, by replace gq := gq.2; exact n116_77 _ _ gq h⟩⟩))
/-! ar_root -/
theorem b117_44 {xs : Nat → Int32} {Ls : Nat} {Φ : Option xV → xH → Prop} (s : xS) (u : Nat) (a : Nat) (x3 : Int32) (y0 : Int64) (g : ((ar_takeRoot_ok s y0) ∧ ((ar_round_ok (sI (sI (ar_takeRoot s y0) 31 0 0) 31 3 (((if x3 = 0 then ((gI (sI (ar_takeRoot s y0) 31 0 0) u 1) - 12) else ((gI (sI (ar_takeRoot s y0) 31 0 0) u 1) - 11)) / 2) - 8)) a) ∧ Φ (some (vi ((ar_round (sI (sI (ar_takeRoot s y0) 31 0 0) 31 3 (((if x3 = 0 then ((gI (sI (ar_takeRoot s y0) 31 0 0) u 1) - 12) else ((gI (sI (ar_takeRoot s y0) 31 0 0) u 1) - 11)) / 2) - 8)) a).1))) (xhp ((ar_round (sI (sI (ar_takeRoot s y0) 31 0 0) 31 3 (((if x3 = 0 then ((gI (sI (ar_takeRoot s y0) 31 0 0) u 1) - 12) else ((gI (sI (ar_takeRoot s y0) 31 0 0) u 1) - 11)) / 2) - 8)) a).2))))) : xW (xX0 xs Ls) p117 44 [(0, vr 6 31), (1, vr 5 u), (2, vr 5 a), (3, vi x3)] [vl y0] (xhp s) Φ := by
  refine xW.call (y := 122) (as := [vr 6 31, vl y0]) (h0 := xhp s) (pc0 := 49) (len := 3) (L0 := [(4, vl y0), (0, vr 6 31), (1, vr 5 u), (2, vr 5 a), (3, vi x3)]) (rest := []) 4 (fun _ _ _ _ => rfl) (m122 _ _ g.1 ?_)
  show xW (xX0 xs Ls) p117 52 [(4, vl y0), (0, vr 6 31), (1, vr 5 u), (2, vr 5 a), (3, vi x3)] [] (xhp (ar_takeRoot s y0)) Φ
  replace g := g.2
  refine xW.side (c := (0 : Int32) = 0 ∨ (0 : Int32) = 1) (pc1 := 57) (L1 := [(4, vl y0), (0, vr 6 31), (1, vr 5 u), (2, vr 5 a), (3, vi x3)]) (st1 := []) (h1 := xhp (sI (ar_takeRoot s y0) 31 0 0)) 3 (fun _ _ _ _ => rfl) (Or.inl rfl) ?_
  refine xW.seg (pc1 := 59) (L1 := [(4, vl y0), (0, vr 6 31), (1, vr 5 u), (2, vr 5 a), (3, vi x3)]) (st1 := [vi x3, vr 6 31]) (h1 := xhp (sI (ar_takeRoot s y0) 31 0 0)) 2 (fun _ _ _ _ => rfl) ?_
  suffices J : xW (xX0 xs Ls) p117 79 [(4, vl y0), (0, vr 6 31), (1, vr 5 u), (2, vr 5 a), (3, vi x3)] [vi (if x3 = 0 then ((gI (sI (ar_takeRoot s y0) 31 0 0) u 1) - 12) else ((gI (sI (ar_takeRoot s y0) 31 0 0) u 1) - 11)), vr 6 31] (xhp (sI (ar_takeRoot s y0) 31 0 0)) Φ by
    refine xW.br (c := x3 = 0) (pc1 := 72) (L1 := [(4, vl y0), (0, vr 6 31), (1, vr 5 u), (2, vr 5 a), (3, vi x3)]) (st1 := [vr 6 31]) (h1 := xhp (sI (ar_takeRoot s y0) 31 0 0)) (pc2 := 62) (L2 := [(4, vl y0), (0, vr 6 31), (1, vr 5 u), (2, vr 5 a), (3, vi x3)]) (st2 := [vr 6 31]) (h2 := xhp (sI (ar_takeRoot s y0) 31 0 0)) 1 (fun _ _ _ _ => rfl) (fun hc => ?_) (fun hc => ?_)
    · have hc1 : x3 = 0 := hc
      refine xW.seg (pc1 := 79) (L1 := [(4, vl y0), (0, vr 6 31), (1, vr 5 u), (2, vr 5 a), (3, vi x3)]) (st1 := [vi ((gI (sI (ar_takeRoot s y0) 31 0 0) u 1) - 12), vr 6 31]) (h1 := xhp (sI (ar_takeRoot s y0) 31 0 0)) 4 (fun _ _ _ _ => rfl) ?_
      refine xW.to (v := vi (if x3 = 0 then ((gI (sI (ar_takeRoot s y0) 31 0 0) u 1) - 12) else ((gI (sI (ar_takeRoot s y0) 31 0 0) u 1) - 11))) ((congrArg vi (if_pos hc1)).symm) ?_
      exact J
    · have hc1 : ¬ (x3 = 0) := hc
      refine xW.seg (pc1 := 79) (L1 := [(4, vl y0), (0, vr 6 31), (1, vr 5 u), (2, vr 5 a), (3, vi x3)]) (st1 := [vi ((gI (sI (ar_takeRoot s y0) 31 0 0) u 1) - 11), vr 6 31]) (h1 := xhp (sI (ar_takeRoot s y0) 31 0 0)) 5 (fun _ _ _ _ => rfl) ?_
      refine xW.to (v := vi (if x3 = 0 then ((gI (sI (ar_takeRoot s y0) 31 0 0) u 1) - 12) else ((gI (sI (ar_takeRoot s y0) 31 0 0) u 1) - 11))) ((congrArg vi (if_neg hc1)).symm) ?_
      exact J
  refine xW.side (c := ¬ (2 : Int32) = 0) (pc1 := 81) (L1 := [(4, vl y0), (0, vr 6 31), (1, vr 5 u), (2, vr 5 a), (3, vi x3)]) (st1 := [vi ((if x3 = 0 then ((gI (sI (ar_takeRoot s y0) 31 0 0) u 1) - 12) else ((gI (sI (ar_takeRoot s y0) 31 0 0) u 1) - 11)) / 2), vr 6 31]) (h1 := xhp (sI (ar_takeRoot s y0) 31 0 0)) 2 (fun _ _ _ _ => rfl) (by decide) ?_
  refine xW.call (y := 123) (as := [vr 6 31, vr 5 a]) (h0 := xhp (sI (sI (ar_takeRoot s y0) 31 0 0) 31 3 (((if x3 = 0 then ((gI (sI (ar_takeRoot s y0) 31 0 0) u 1) - 12) else ((gI (sI (ar_takeRoot s y0) 31 0 0) u 1) - 11)) / 2) - 8))) (pc0 := 89) (len := 3) (L0 := [(4, vl y0), (0, vr 6 31), (1, vr 5 u), (2, vr 5 a), (3, vi x3)]) (rest := []) 6 (fun _ _ _ _ => rfl) (m123 _ _ g.1 ?_)
  show xW (xX0 xs Ls) p117 92 [(4, vl y0), (0, vr 6 31), (1, vr 5 u), (2, vr 5 a), (3, vi x3)] [vi ((ar_round (sI (sI (ar_takeRoot s y0) 31 0 0) 31 3 (((if x3 = 0 then ((gI (sI (ar_takeRoot s y0) 31 0 0) u 1) - 12) else ((gI (sI (ar_takeRoot s y0) 31 0 0) u 1) - 11)) / 2) - 8)) a).1)] (xhp ((ar_round (sI (sI (ar_takeRoot s y0) 31 0 0) 31 3 (((if x3 = 0 then ((gI (sI (ar_takeRoot s y0) 31 0 0) u 1) - 12) else ((gI (sI (ar_takeRoot s y0) 31 0 0) u 1) - 11)) / 2) - 8)) a).2)) Φ
  replace g := g.2
  exact xW.ret (v0 := some (vi ((ar_round (sI (sI (ar_takeRoot s y0) 31 0 0) 31 3 (((if x3 = 0 then ((gI (sI (ar_takeRoot s y0) 31 0 0) u 1) - 12) else ((gI (sI (ar_takeRoot s y0) 31 0 0) u 1) - 11)) / 2) - 8)) a).1))) (h1 := xhp ((ar_round (sI (sI (ar_takeRoot s y0) 31 0 0) 31 3 (((if x3 = 0 then ((gI (sI (ar_takeRoot s y0) 31 0 0) u 1) - 12) else ((gI (sI (ar_takeRoot s y0) 31 0 0) u 1) - 11)) / 2) - 8)) a).2)) 1 (fun _ _ _ _ => rfl) g
noncomputable def ar_root_44_d (s : xS) (u : Nat) (a : Nat) (x3 : Int32) (y0 : Int64) : Int32 × xS := (ar_round (sI (sI (ar_takeRoot s y0) 31 0 0) 31 3 (((if x3 = 0 then ((gI (sI (ar_takeRoot s y0) 31 0 0) u 1) - 12) else ((gI (sI (ar_takeRoot s y0) 31 0 0) u 1) - 11)) / 2) - 8)) a)
noncomputable def ar_root_44 : xS → Nat → Nat → Int32 → Int64 → Int32 × xS := Classical.choose (⟨ar_root_44_d, rfl⟩ : ∃ f, f = ar_root_44_d)
set_option maxRecDepth 100000 in
theorem ar_root_44_eq : ar_root_44 = ar_root_44_d := Classical.choose_spec (⟨ar_root_44_d, rfl⟩ : ∃ f, f = ar_root_44_d)
def ar_root_44_ok (s : xS) (u : Nat) (a : Nat) (x3 : Int32) (y0 : Int64) : Prop := ((ar_takeRoot_ok s y0) ∧ (ar_round_ok (sI (sI (ar_takeRoot s y0) 31 0 0) 31 3 (((if x3 = 0 then ((gI (sI (ar_takeRoot s y0) 31 0 0) u 1) - 12) else ((gI (sI (ar_takeRoot s y0) 31 0 0) u 1) - 11)) / 2) - 8)) a))
set_option maxRecDepth 100000 in
theorem n117_44 {xs : Nat → Int32} {Ls : Nat} {Φ : Option xV → xH → Prop} (s : xS) (u : Nat) (a : Nat) (x3 : Int32) (y0 : Int64) (gq : ar_root_44_ok s u a x3 y0) (h : Φ (some (vi (ar_root_44 s u a x3 y0).1)) (xhp (ar_root_44 s u a x3 y0).2)) : xW (xX0 xs Ls) p117 44 [(0, vr 6 31), (1, vr 5 u), (2, vr 5 a), (3, vi x3)] [vl y0] (xhp s) Φ := by
  rw [ar_root_44_eq] at h
  unfold ar_root_44_d at h
  unfold ar_root_44_ok at gq
  exact b117_44 s u a x3 y0 (⟨gq.1, by replace gq := gq.2; exact ⟨gq, (by (try dsimp only at h); exact h)⟩⟩)
set_option maxRecDepth 100000 in
theorem b117_24 {xs : Nat → Int32} {Ls : Nat} {Φ : Option xV → xH → Prop} (s : xS) (u : Nat) (a : Nat) (y0 : Int32) (g : xW (xX0 xs Ls) p117 44 [(0, vr 6 31), (1, vr 5 u), (2, vr 5 a), (3, vi y0)] [vl (if y0 = 0 then (10 * (gJ s u 0)) else (gJ s u 0))] (xhp s) Φ) : xW (xX0 xs Ls) p117 24 [(0, vr 6 31), (1, vr 5 u), (2, vr 5 a)] [vi y0] (xhp s) Φ := by
  refine xW.seg (pc1 := 26) (L1 := [(3, vi y0), (0, vr 6 31), (1, vr 5 u), (2, vr 5 a)]) (st1 := [vi y0]) (h1 := xhp s) 2 (fun _ _ _ _ => rfl) ?_
  suffices J : xW (xX0 xs Ls) p117 44 [(3, vi y0), (0, vr 6 31), (1, vr 5 u), (2, vr 5 a)] [vl (if y0 = 0 then (10 * (gJ s u 0)) else (gJ s u 0))] (xhp s) Φ by
    refine xW.br (c := y0 = 0) (pc1 := 36) (L1 := [(3, vi y0), (0, vr 6 31), (1, vr 5 u), (2, vr 5 a)]) (st1 := []) (h1 := xhp s) (pc2 := 29) (L2 := [(3, vi y0), (0, vr 6 31), (1, vr 5 u), (2, vr 5 a)]) (st2 := []) (h2 := xhp s) 1 (fun _ _ _ _ => rfl) (fun hc => ?_) (fun hc => ?_)
    · have hc1 : y0 = 0 := hc
      refine xW.seg (pc1 := 44) (L1 := [(3, vi y0), (0, vr 6 31), (1, vr 5 u), (2, vr 5 a)]) (st1 := [vl (10 * (gJ s u 0))]) (h1 := xhp s) 4 (fun _ _ _ _ => rfl) ?_
      refine xW.to (v := vl (if y0 = 0 then (10 * (gJ s u 0)) else (gJ s u 0))) ((congrArg vl (if_pos hc1)).symm) ?_
      exact J
    · have hc1 : ¬ (y0 = 0) := hc
      refine xW.seg (pc1 := 44) (L1 := [(3, vi y0), (0, vr 6 31), (1, vr 5 u), (2, vr 5 a)]) (st1 := [vl (gJ s u 0)]) (h1 := xhp s) 3 (fun _ _ _ _ => rfl) ?_
      refine xW.to (v := vl (if y0 = 0 then (10 * (gJ s u 0)) else (gJ s u 0))) ((congrArg vl (if_neg hc1)).symm) ?_
      exact J
  exact xW.locs (L := [(0, vr 6 31), (1, vr 5 u), (2, vr 5 a), (3, vi y0)]) ⟨rfl, rfl, rfl, rfl, trivial⟩ rfl g
noncomputable def ar_root_24_d (s : xS) (u : Nat) (a : Nat) (y0 : Int32) : Int32 × xS := (ar_root_44 s u a y0 (if y0 = 0 then (10 * (gJ s u 0)) else (gJ s u 0)))
noncomputable def ar_root_24 : xS → Nat → Nat → Int32 → Int32 × xS := Classical.choose (⟨ar_root_24_d, rfl⟩ : ∃ f, f = ar_root_24_d)
set_option maxRecDepth 100000 in
theorem ar_root_24_eq : ar_root_24 = ar_root_24_d := Classical.choose_spec (⟨ar_root_24_d, rfl⟩ : ∃ f, f = ar_root_24_d)
def ar_root_24_ok (s : xS) (u : Nat) (a : Nat) (y0 : Int32) : Prop := (ar_root_44_ok s u a y0 (if y0 = 0 then (10 * (gJ s u 0)) else (gJ s u 0)))
set_option maxRecDepth 100000 in
theorem n117_24 {xs : Nat → Int32} {Ls : Nat} {Φ : Option xV → xH → Prop} (s : xS) (u : Nat) (a : Nat) (y0 : Int32) (gq : ar_root_24_ok s u a y0) (h : Φ (some (vi (ar_root_24 s u a y0).1)) (xhp (ar_root_24 s u a y0).2)) : xW (xX0 xs Ls) p117 24 [(0, vr 6 31), (1, vr 5 u), (2, vr 5 a)] [vi y0] (xhp s) Φ := by
  rw [ar_root_24_eq] at h
  unfold ar_root_24_d at h
  unfold ar_root_24_ok at gq
  exact b117_24 s u a y0 (n117_44 _ _ _ _ _ gq h)
set_option maxRecDepth 100000 in
theorem b117_0 {xs : Nat → Int32} {Ls : Nat} {Φ : Option xV → xH → Prop} (s : xS) (u : Nat) (a : Nat) (g : (((de_isBelowZero s u) = false → xW (xX0 xs Ls) p117 24 [(0, vr 6 31), (1, vr 5 u), (2, vr 5 a)] [vi (zb (decide (((gI s u 1) &&& 1) = 1)))] (xhp s) Φ) ∧ ((de_isBelowZero s u) = true → Φ (some (vi 4)) (xhp s)))) : xW (xX0 xs Ls) p117 0 [(0, vr 6 31), (1, vr 5 u), (2, vr 5 a)] [] (xhp s) Φ := by
  refine xW.call (y := 140) (as := [vr 5 u]) (h0 := xhp s) (pc0 := 1) (len := 3) (L0 := [(0, vr 6 31), (1, vr 5 u), (2, vr 5 a)]) (rest := []) 2 (fun _ _ _ _ => rfl) (m140 _ _ ?_)
  show xW (xX0 xs Ls) p117 4 [(0, vr 6 31), (1, vr 5 u), (2, vr 5 a)] [vi (zb (de_isBelowZero s u))] (xhp s) Φ
  refine xW.br (c := (zb (de_isBelowZero s u)) = 0) (pc1 := 9) (L1 := [(0, vr 6 31), (1, vr 5 u), (2, vr 5 a)]) (st1 := []) (h1 := xhp s) (pc2 := 7) (L2 := [(0, vr 6 31), (1, vr 5 u), (2, vr 5 a)]) (st2 := []) (h2 := xhp s) 1 (fun _ _ _ _ => rfl) (fun hc => ?_) (fun hc => ?_)
  · replace g := g.1 (zb_eq0.mp hc)
    refine xW.seg (pc1 := 16) (L1 := [(0, vr 6 31), (1, vr 5 u), (2, vr 5 a)]) (st1 := [vi 1, vi ((gI s u 1) &&& 1)]) (h1 := xhp s) 5 (fun _ _ _ _ => rfl) ?_
    suffices J : xW (xX0 xs Ls) p117 24 [(0, vr 6 31), (1, vr 5 u), (2, vr 5 a)] [vi (zb (decide (((gI s u 1) &&& 1) = 1)))] (xhp s) Φ by
      refine xW.br (c := ¬ ((gI s u 1) &&& 1) = 1) (pc1 := 23) (L1 := [(0, vr 6 31), (1, vr 5 u), (2, vr 5 a)]) (st1 := []) (h1 := xhp s) (pc2 := 19) (L2 := [(0, vr 6 31), (1, vr 5 u), (2, vr 5 a)]) (st2 := []) (h2 := xhp s) 1 (fun _ _ _ _ => rfl) (fun hc => ?_) (fun hc => ?_)
      · have hc1 : ¬ ((gI s u 1) &&& 1) = 1 := hc
        refine xW.seg (pc1 := 24) (L1 := [(0, vr 6 31), (1, vr 5 u), (2, vr 5 a)]) (st1 := [vi 0]) (h1 := xhp s) 1 (fun _ _ _ _ => rfl) ?_
        refine xW.to (v := vi (zb (decide (((gI s u 1) &&& 1) = 1)))) (zb_f (by simp only [decide_eq_false hc1, Bool.true_or, Bool.or_true, Bool.false_or, Bool.or_false, Bool.true_and, Bool.and_true, Bool.false_and, Bool.and_false, Bool.not_true, Bool.not_false, cond_true, cond_false])) ?_
        exact J
      · have hc1 : ((gI s u 1) &&& 1) = 1 := (Decidable.not_not.mp hc)
        refine xW.seg (pc1 := 24) (L1 := [(0, vr 6 31), (1, vr 5 u), (2, vr 5 a)]) (st1 := [vi 1]) (h1 := xhp s) 2 (fun _ _ _ _ => rfl) ?_
        refine xW.to (v := vi (zb (decide (((gI s u 1) &&& 1) = 1)))) (zb_t (by simp only [decide_eq_true hc1, Bool.true_or, Bool.or_true, Bool.false_or, Bool.or_false, Bool.true_and, Bool.and_true, Bool.false_and, Bool.and_false, Bool.not_true, Bool.not_false, cond_true, cond_false])) ?_
        exact J
    exact g
  · replace g := g.2 (zb_ne0.mp hc)
    exact xW.ret (v0 := some (vi 4)) (h1 := xhp s) 2 (fun _ _ _ _ => rfl) g
noncomputable def ar_root_d (s : xS) (u : Nat) (a : Nat) : Int32 × xS := (if (de_isBelowZero s u) = false then (ar_root_24 s u a (zb (decide (((gI s u 1) &&& 1) = 1)))) else (4, s))
noncomputable def ar_root : xS → Nat → Nat → Int32 × xS := Classical.choose (⟨ar_root_d, rfl⟩ : ∃ f, f = ar_root_d)
set_option maxRecDepth 100000 in
theorem ar_root_eq : ar_root = ar_root_d := Classical.choose_spec (⟨ar_root_d, rfl⟩ : ∃ f, f = ar_root_d)
def ar_root_ok (s : xS) (u : Nat) (a : Nat) : Prop := ((de_isBelowZero s u) = false → (ar_root_24_ok s u a (zb (decide (((gI s u 1) &&& 1) = 1)))))
set_option maxRecDepth 100000 in
theorem m117 {xs : Nat → Int32} {Ls : Nat} {Ψ : xO → xH → Prop} (s : xS) (u : Nat) (a : Nat) (gq : ar_root_ok s u a) (h : Ψ (.inl (some (vi (ar_root s u a).1))) (xhp (ar_root s u a).2)) : xM (xX0 xs Ls) 117 [vr 6 31, vr 5 u, vr 5 a] (xhp s) Ψ := by
  rw [ar_root_eq] at h
  unfold ar_root_d at h
  unfold ar_root_ok at gq
  exact xM.of (P := p117) rfl rfl rfl (b117_0 s u a (⟨fun hc => by rw [if_pos hc] at h; replace gq := gq hc; exact n117_24 _ _ _ _ gq h, fun hc => by rw [if_neg (by rw [hc]; decide)] at h; exact (by (try dsimp only at h); exact h)⟩))
/-! ar_read -/
theorem b118_0 {xs : Nat → Int32} {Ls : Nat} {Φ : Option xV → xH → Prop} (s : xS) (e : Nat) (a : Nat) (g : (((gI s e 1) = 0 ∨ (gI s e 1) = 1) ∧ ((ar_round_ok (sI (sI (sJ (sI s 31 0 (gI s e 1)) 31 1 (gJ s e 2)) 31 2 0) 31 3 ((if (gI (sI (sJ (sI s 31 0 (gI s e 1)) 31 1 (gJ s e 2)) 31 2 0) e 6) = 0 then (gI (sI (sJ (sI s 31 0 (gI s e 1)) 31 1 (gJ s e 2)) 31 2 0) e 7) else (-(gI (sI (sJ (sI s 31 0 (gI s e 1)) 31 1 (gJ s e 2)) 31 2 0) e 7))) - (if (gI s e 4) = (-1) then (0 : Int32) else ((gI s e 3) - (gI s e 4))))) a) ∧ Φ (some (vi ((ar_round (sI (sI (sJ (sI s 31 0 (gI s e 1)) 31 1 (gJ s e 2)) 31 2 0) 31 3 ((if (gI (sI (sJ (sI s 31 0 (gI s e 1)) 31 1 (gJ s e 2)) 31 2 0) e 6) = 0 then (gI (sI (sJ (sI s 31 0 (gI s e 1)) 31 1 (gJ s e 2)) 31 2 0) e 7) else (-(gI (sI (sJ (sI s 31 0 (gI s e 1)) 31 1 (gJ s e 2)) 31 2 0) e 7))) - (if (gI s e 4) = (-1) then (0 : Int32) else ((gI s e 3) - (gI s e 4))))) a).1))) (xhp ((ar_round (sI (sI (sJ (sI s 31 0 (gI s e 1)) 31 1 (gJ s e 2)) 31 2 0) 31 3 ((if (gI (sI (sJ (sI s 31 0 (gI s e 1)) 31 1 (gJ s e 2)) 31 2 0) e 6) = 0 then (gI (sI (sJ (sI s 31 0 (gI s e 1)) 31 1 (gJ s e 2)) 31 2 0) e 7) else (-(gI (sI (sJ (sI s 31 0 (gI s e 1)) 31 1 (gJ s e 2)) 31 2 0) e 7))) - (if (gI s e 4) = (-1) then (0 : Int32) else ((gI s e 3) - (gI s e 4))))) a).2))))) : xW (xX0 xs Ls) p118 0 [(0, vr 6 31), (1, vr 4 e), (2, vr 5 a)] [] (xhp s) Φ := by
  refine xW.seg (pc1 := 5) (L1 := [(0, vr 6 31), (1, vr 4 e), (2, vr 5 a)]) (st1 := [vi (-1), vi (gI s e 4)]) (h1 := xhp s) 3 (fun _ _ _ _ => rfl) ?_
  suffices J : xW (xX0 xs Ls) p118 21 [(0, vr 6 31), (1, vr 4 e), (2, vr 5 a)] [vi (if (gI s e 4) = (-1) then (0 : Int32) else ((gI s e 3) - (gI s e 4)))] (xhp s) Φ by
    refine xW.br (c := ¬ (gI s e 4) = (-1)) (pc1 := 12) (L1 := [(0, vr 6 31), (1, vr 4 e), (2, vr 5 a)]) (st1 := []) (h1 := xhp s) (pc2 := 8) (L2 := [(0, vr 6 31), (1, vr 4 e), (2, vr 5 a)]) (st2 := []) (h2 := xhp s) 1 (fun _ _ _ _ => rfl) (fun hc => ?_) (fun hc => ?_)
    · have hc1 : ¬ (gI s e 4) = (-1) := hc
      refine xW.seg (pc1 := 21) (L1 := [(0, vr 6 31), (1, vr 4 e), (2, vr 5 a)]) (st1 := [vi ((gI s e 3) - (gI s e 4))]) (h1 := xhp s) 5 (fun _ _ _ _ => rfl) ?_
      refine xW.to (v := vi (if (gI s e 4) = (-1) then (0 : Int32) else ((gI s e 3) - (gI s e 4)))) ((congrArg vi (if_neg hc1)).symm) ?_
      exact J
    · have hc1 : (gI s e 4) = (-1) := (Decidable.not_not.mp hc)
      refine xW.seg (pc1 := 21) (L1 := [(0, vr 6 31), (1, vr 4 e), (2, vr 5 a)]) (st1 := [vi 0]) (h1 := xhp s) 2 (fun _ _ _ _ => rfl) ?_
      refine xW.to (v := vi (if (gI s e 4) = (-1) then (0 : Int32) else ((gI s e 3) - (gI s e 4)))) ((congrArg vi (if_pos hc1)).symm) ?_
      exact J
  refine xW.side (c := (gI s e 1) = 0 ∨ (gI s e 1) = 1) (pc1 := 30) (L1 := [(3, vi (if (gI s e 4) = (-1) then (0 : Int32) else ((gI s e 3) - (gI s e 4)))), (0, vr 6 31), (1, vr 4 e), (2, vr 5 a)]) (st1 := []) (h1 := xhp (sI s 31 0 (gI s e 1))) 5 (fun _ _ _ _ => rfl) g.1 ?_
  replace g := g.2
  refine xW.side (c := (0 : Int32) = 0 ∨ (0 : Int32) = 1) (pc1 := 43) (L1 := [(3, vi (if (gI s e 4) = (-1) then (0 : Int32) else ((gI s e 3) - (gI s e 4)))), (0, vr 6 31), (1, vr 4 e), (2, vr 5 a)]) (st1 := []) (h1 := xhp (sI (sJ (sI s 31 0 (gI s e 1)) 31 1 (gJ s e 2)) 31 2 0)) 7 (fun _ _ _ _ => rfl) (Or.inl rfl) ?_
  refine xW.seg (pc1 := 48) (L1 := [(3, vi (if (gI s e 4) = (-1) then (0 : Int32) else ((gI s e 3) - (gI s e 4)))), (0, vr 6 31), (1, vr 4 e), (2, vr 5 a)]) (st1 := [vi (gI (sI (sJ (sI s 31 0 (gI s e 1)) 31 1 (gJ s e 2)) 31 2 0) e 6), vr 6 31]) (h1 := xhp (sI (sJ (sI s 31 0 (gI s e 1)) 31 1 (gJ s e 2)) 31 2 0)) 3 (fun _ _ _ _ => rfl) ?_
  suffices J : xW (xX0 xs Ls) p118 63 [(3, vi (if (gI s e 4) = (-1) then (0 : Int32) else ((gI s e 3) - (gI s e 4)))), (0, vr 6 31), (1, vr 4 e), (2, vr 5 a)] [vi (if (gI (sI (sJ (sI s 31 0 (gI s e 1)) 31 1 (gJ s e 2)) 31 2 0) e 6) = 0 then (gI (sI (sJ (sI s 31 0 (gI s e 1)) 31 1 (gJ s e 2)) 31 2 0) e 7) else (-(gI (sI (sJ (sI s 31 0 (gI s e 1)) 31 1 (gJ s e 2)) 31 2 0) e 7))), vr 6 31] (xhp (sI (sJ (sI s 31 0 (gI s e 1)) 31 1 (gJ s e 2)) 31 2 0)) Φ by
    refine xW.br (c := (gI (sI (sJ (sI s 31 0 (gI s e 1)) 31 1 (gJ s e 2)) 31 2 0) e 6) = 0) (pc1 := 59) (L1 := [(3, vi (if (gI s e 4) = (-1) then (0 : Int32) else ((gI s e 3) - (gI s e 4)))), (0, vr 6 31), (1, vr 4 e), (2, vr 5 a)]) (st1 := [vr 6 31]) (h1 := xhp (sI (sJ (sI s 31 0 (gI s e 1)) 31 1 (gJ s e 2)) 31 2 0)) (pc2 := 51) (L2 := [(3, vi (if (gI s e 4) = (-1) then (0 : Int32) else ((gI s e 3) - (gI s e 4)))), (0, vr 6 31), (1, vr 4 e), (2, vr 5 a)]) (st2 := [vr 6 31]) (h2 := xhp (sI (sJ (sI s 31 0 (gI s e 1)) 31 1 (gJ s e 2)) 31 2 0)) 1 (fun _ _ _ _ => rfl) (fun hc => ?_) (fun hc => ?_)
    · have hc2 : (gI (sI (sJ (sI s 31 0 (gI s e 1)) 31 1 (gJ s e 2)) 31 2 0) e 6) = 0 := hc
      refine xW.seg (pc1 := 63) (L1 := [(3, vi (if (gI s e 4) = (-1) then (0 : Int32) else ((gI s e 3) - (gI s e 4)))), (0, vr 6 31), (1, vr 4 e), (2, vr 5 a)]) (st1 := [vi (gI (sI (sJ (sI s 31 0 (gI s e 1)) 31 1 (gJ s e 2)) 31 2 0) e 7), vr 6 31]) (h1 := xhp (sI (sJ (sI s 31 0 (gI s e 1)) 31 1 (gJ s e 2)) 31 2 0)) 2 (fun _ _ _ _ => rfl) ?_
      refine xW.to (v := vi (if (gI (sI (sJ (sI s 31 0 (gI s e 1)) 31 1 (gJ s e 2)) 31 2 0) e 6) = 0 then (gI (sI (sJ (sI s 31 0 (gI s e 1)) 31 1 (gJ s e 2)) 31 2 0) e 7) else (-(gI (sI (sJ (sI s 31 0 (gI s e 1)) 31 1 (gJ s e 2)) 31 2 0) e 7)))) ((congrArg vi (if_pos hc2)).symm) ?_
      exact J
    · have hc2 : ¬ ((gI (sI (sJ (sI s 31 0 (gI s e 1)) 31 1 (gJ s e 2)) 31 2 0) e 6) = 0) := hc
      refine xW.seg (pc1 := 63) (L1 := [(3, vi (if (gI s e 4) = (-1) then (0 : Int32) else ((gI s e 3) - (gI s e 4)))), (0, vr 6 31), (1, vr 4 e), (2, vr 5 a)]) (st1 := [vi (-(gI (sI (sJ (sI s 31 0 (gI s e 1)) 31 1 (gJ s e 2)) 31 2 0) e 7)), vr 6 31]) (h1 := xhp (sI (sJ (sI s 31 0 (gI s e 1)) 31 1 (gJ s e 2)) 31 2 0)) 4 (fun _ _ _ _ => rfl) ?_
      refine xW.to (v := vi (if (gI (sI (sJ (sI s 31 0 (gI s e 1)) 31 1 (gJ s e 2)) 31 2 0) e 6) = 0 then (gI (sI (sJ (sI s 31 0 (gI s e 1)) 31 1 (gJ s e 2)) 31 2 0) e 7) else (-(gI (sI (sJ (sI s 31 0 (gI s e 1)) 31 1 (gJ s e 2)) 31 2 0) e 7)))) ((congrArg vi (if_neg hc2)).symm) ?_
      exact J
  refine xW.call (y := 123) (as := [vr 6 31, vr 5 a]) (h0 := xhp (sI (sI (sJ (sI s 31 0 (gI s e 1)) 31 1 (gJ s e 2)) 31 2 0) 31 3 ((if (gI (sI (sJ (sI s 31 0 (gI s e 1)) 31 1 (gJ s e 2)) 31 2 0) e 6) = 0 then (gI (sI (sJ (sI s 31 0 (gI s e 1)) 31 1 (gJ s e 2)) 31 2 0) e 7) else (-(gI (sI (sJ (sI s 31 0 (gI s e 1)) 31 1 (gJ s e 2)) 31 2 0) e 7))) - (if (gI s e 4) = (-1) then (0 : Int32) else ((gI s e 3) - (gI s e 4)))))) (pc0 := 70) (len := 3) (L0 := [(3, vi (if (gI s e 4) = (-1) then (0 : Int32) else ((gI s e 3) - (gI s e 4)))), (0, vr 6 31), (1, vr 4 e), (2, vr 5 a)]) (rest := []) 6 (fun _ _ _ _ => rfl) (m123 _ _ g.1 ?_)
  show xW (xX0 xs Ls) p118 73 [(3, vi (if (gI s e 4) = (-1) then (0 : Int32) else ((gI s e 3) - (gI s e 4)))), (0, vr 6 31), (1, vr 4 e), (2, vr 5 a)] [vi ((ar_round (sI (sI (sJ (sI s 31 0 (gI s e 1)) 31 1 (gJ s e 2)) 31 2 0) 31 3 ((if (gI (sI (sJ (sI s 31 0 (gI s e 1)) 31 1 (gJ s e 2)) 31 2 0) e 6) = 0 then (gI (sI (sJ (sI s 31 0 (gI s e 1)) 31 1 (gJ s e 2)) 31 2 0) e 7) else (-(gI (sI (sJ (sI s 31 0 (gI s e 1)) 31 1 (gJ s e 2)) 31 2 0) e 7))) - (if (gI s e 4) = (-1) then (0 : Int32) else ((gI s e 3) - (gI s e 4))))) a).1)] (xhp ((ar_round (sI (sI (sJ (sI s 31 0 (gI s e 1)) 31 1 (gJ s e 2)) 31 2 0) 31 3 ((if (gI (sI (sJ (sI s 31 0 (gI s e 1)) 31 1 (gJ s e 2)) 31 2 0) e 6) = 0 then (gI (sI (sJ (sI s 31 0 (gI s e 1)) 31 1 (gJ s e 2)) 31 2 0) e 7) else (-(gI (sI (sJ (sI s 31 0 (gI s e 1)) 31 1 (gJ s e 2)) 31 2 0) e 7))) - (if (gI s e 4) = (-1) then (0 : Int32) else ((gI s e 3) - (gI s e 4))))) a).2)) Φ
  replace g := g.2
  exact xW.ret (v0 := some (vi ((ar_round (sI (sI (sJ (sI s 31 0 (gI s e 1)) 31 1 (gJ s e 2)) 31 2 0) 31 3 ((if (gI (sI (sJ (sI s 31 0 (gI s e 1)) 31 1 (gJ s e 2)) 31 2 0) e 6) = 0 then (gI (sI (sJ (sI s 31 0 (gI s e 1)) 31 1 (gJ s e 2)) 31 2 0) e 7) else (-(gI (sI (sJ (sI s 31 0 (gI s e 1)) 31 1 (gJ s e 2)) 31 2 0) e 7))) - (if (gI s e 4) = (-1) then (0 : Int32) else ((gI s e 3) - (gI s e 4))))) a).1))) (h1 := xhp ((ar_round (sI (sI (sJ (sI s 31 0 (gI s e 1)) 31 1 (gJ s e 2)) 31 2 0) 31 3 ((if (gI (sI (sJ (sI s 31 0 (gI s e 1)) 31 1 (gJ s e 2)) 31 2 0) e 6) = 0 then (gI (sI (sJ (sI s 31 0 (gI s e 1)) 31 1 (gJ s e 2)) 31 2 0) e 7) else (-(gI (sI (sJ (sI s 31 0 (gI s e 1)) 31 1 (gJ s e 2)) 31 2 0) e 7))) - (if (gI s e 4) = (-1) then (0 : Int32) else ((gI s e 3) - (gI s e 4))))) a).2)) 1 (fun _ _ _ _ => rfl) g
noncomputable def ar_read_d (s : xS) (e : Nat) (a : Nat) : Int32 × xS := (ar_round (sI (sI (sJ (sI s 31 0 (gI s e 1)) 31 1 (gJ s e 2)) 31 2 0) 31 3 ((if (gI (sI (sJ (sI s 31 0 (gI s e 1)) 31 1 (gJ s e 2)) 31 2 0) e 6) = 0 then (gI (sI (sJ (sI s 31 0 (gI s e 1)) 31 1 (gJ s e 2)) 31 2 0) e 7) else (-(gI (sI (sJ (sI s 31 0 (gI s e 1)) 31 1 (gJ s e 2)) 31 2 0) e 7))) - (if (gI s e 4) = (-1) then (0 : Int32) else ((gI s e 3) - (gI s e 4))))) a)
noncomputable def ar_read : xS → Nat → Nat → Int32 × xS := Classical.choose (⟨ar_read_d, rfl⟩ : ∃ f, f = ar_read_d)
set_option maxRecDepth 100000 in
theorem ar_read_eq : ar_read = ar_read_d := Classical.choose_spec (⟨ar_read_d, rfl⟩ : ∃ f, f = ar_read_d)
def ar_read_ok (s : xS) (e : Nat) (a : Nat) : Prop := (((gI s e 1) = 0 ∨ (gI s e 1) = 1) ∧ (ar_round_ok (sI (sI (sJ (sI s 31 0 (gI s e 1)) 31 1 (gJ s e 2)) 31 2 0) 31 3 ((if (gI (sI (sJ (sI s 31 0 (gI s e 1)) 31 1 (gJ s e 2)) 31 2 0) e 6) = 0 then (gI (sI (sJ (sI s 31 0 (gI s e 1)) 31 1 (gJ s e 2)) 31 2 0) e 7) else (-(gI (sI (sJ (sI s 31 0 (gI s e 1)) 31 1 (gJ s e 2)) 31 2 0) e 7))) - (if (gI s e 4) = (-1) then (0 : Int32) else ((gI s e 3) - (gI s e 4))))) a))
set_option maxRecDepth 100000 in
theorem m118 {xs : Nat → Int32} {Ls : Nat} {Ψ : xO → xH → Prop} (s : xS) (e : Nat) (a : Nat) (gq : ar_read_ok s e a) (h : Ψ (.inl (some (vi (ar_read s e a).1))) (xhp (ar_read s e a).2)) : xM (xX0 xs Ls) 118 [vr 6 31, vr 4 e, vr 5 a] (xhp s) Ψ := by
  rw [ar_read_eq] at h
  unfold ar_read_d at h
  unfold ar_read_ok at gq
  exact xM.of (P := p118) rfl rfl rfl (b118_0 s e a (⟨gq.1, by replace gq := gq.2; exact ⟨gq, (by (try dsimp only at h); exact h)⟩⟩))
