/-! tm_thrown -/
theorem b31_0 {xs : Nat → Int32} {Ls : Nat} {Φ : Option xV → xH → Prop} (s : xS) (g : Φ (some (vi (gI s 230 0))) (xhp s)) : xW (xX0 xs Ls) p31 0 [(0, vr 12 230)] [] (xhp s) Φ := by
  exact xW.ret (v0 := some (vi (gI s 230 0))) (h1 := xhp s) 3 (fun _ _ _ _ => rfl) g
noncomputable def tm_thrown (s : xS) : Int32 := (gI s 230 0)
set_option maxRecDepth 100000 in
theorem m31 {xs : Nat → Int32} {Ls : Nat} {Ψ : xO → xH → Prop} (s : xS) (h : Ψ (.inl (some (vi (tm_thrown s)))) (xhp s)) : xM (xX0 xs Ls) 31 [vr 12 230] (xhp s) Ψ := by
  unfold tm_thrown at h
  exact xM.of (P := p31) rfl rfl rfl (b31_0 s (h))
/-! tm_set -/
theorem b32_0 {xs : Nat → Int32} {Ls : Nat} {Φ : Option xV → xH → Prop} (s : xS) (i : Int32) (z : Int32) (d : Int64) (e : Int32) (g : ((vp_in i 640) ∧ ((vp_in i 192) ∧ ((vp_in (23 + i) 640) ∧ Φ none (xhp (sI (sJ (sI s 231 i.toNatClampNeg z) 232 i.toNatClampNeg (if z = 0 then (0 : Int64) else d)) 231 ((23 + i).toNatClampNeg) (if z = 0 then (0 : Int32) else e))))))) : xW (xX0 xs Ls) p32 0 [(0, vr 12 230), (1, vi i), (2, vi z), (3, vl d), (5, vi e)] [] (xhp s) Φ := by
  refine xW.side (c := vp_in i 640) (pc1 := 7) (L1 := [(0, vr 12 230), (1, vi i), (2, vi z), (3, vl d), (5, vi e)]) (st1 := []) (h1 := xhp (sI s 231 i.toNatClampNeg z)) 5 (fun _ _ _ _ => rfl) g.1 ?_
  replace g := g.2
  refine xW.seg (pc1 := 13) (L1 := [(0, vr 12 230), (1, vi i), (2, vi z), (3, vl d), (5, vi e)]) (st1 := [vi z, vi i, vr 41 232]) (h1 := xhp (sI s 231 i.toNatClampNeg z)) 4 (fun _ _ _ _ => rfl) ?_
  suffices J : xW (xX0 xs Ls) p32 21 [(0, vr 12 230), (1, vi i), (2, vi z), (3, vl d), (5, vi e)] [vl (if z = 0 then (0 : Int64) else d), vi i, vr 41 232] (xhp (sI s 231 i.toNatClampNeg z)) Φ by
    refine xW.br (c := ¬ z = 0) (pc1 := 20) (L1 := [(0, vr 12 230), (1, vi i), (2, vi z), (3, vl d), (5, vi e)]) (st1 := [vi i, vr 41 232]) (h1 := xhp (sI s 231 i.toNatClampNeg z)) (pc2 := 16) (L2 := [(0, vr 12 230), (1, vi i), (2, vi z), (3, vl d), (5, vi e)]) (st2 := [vi i, vr 41 232]) (h2 := xhp (sI s 231 i.toNatClampNeg z)) 1 (fun _ _ _ _ => rfl) (fun hc => ?_) (fun hc => ?_)
    · have hc1 : ¬ z = 0 := hc
      refine xW.seg (pc1 := 21) (L1 := [(0, vr 12 230), (1, vi i), (2, vi z), (3, vl d), (5, vi e)]) (st1 := [vl d, vi i, vr 41 232]) (h1 := xhp (sI s 231 i.toNatClampNeg z)) 1 (fun _ _ _ _ => rfl) ?_
      refine xW.to (v := vl (if z = 0 then (0 : Int64) else d)) ((congrArg vl (if_neg hc1)).symm) ?_
      exact J
    · have hc1 : z = 0 := (Decidable.not_not.mp hc)
      refine xW.seg (pc1 := 21) (L1 := [(0, vr 12 230), (1, vi i), (2, vi z), (3, vl d), (5, vi e)]) (st1 := [vl 0, vi i, vr 41 232]) (h1 := xhp (sI s 231 i.toNatClampNeg z)) 2 (fun _ _ _ _ => rfl) ?_
      refine xW.to (v := vl (if z = 0 then (0 : Int64) else d)) ((congrArg vl (if_pos hc1)).symm) ?_
      exact J
  refine xW.side (c := vp_in i 192) (pc1 := 22) (L1 := [(0, vr 12 230), (1, vi i), (2, vi z), (3, vl d), (5, vi e)]) (st1 := []) (h1 := xhp (sJ (sI s 231 i.toNatClampNeg z) 232 i.toNatClampNeg (if z = 0 then (0 : Int64) else d))) 1 (fun _ _ _ _ => rfl) g.1 ?_
  replace g := g.2
  refine xW.seg (pc1 := 31) (L1 := [(0, vr 12 230), (1, vi i), (2, vi z), (3, vl d), (5, vi e)]) (st1 := [vi z, vi (23 + i), vr 40 231]) (h1 := xhp (sJ (sI s 231 i.toNatClampNeg z) 232 i.toNatClampNeg (if z = 0 then (0 : Int64) else d))) 6 (fun _ _ _ _ => rfl) ?_
  suffices J : xW (xX0 xs Ls) p32 40 [(0, vr 12 230), (1, vi i), (2, vi z), (3, vl d), (5, vi e)] [vi (if z = 0 then (0 : Int32) else e), vi (23 + i), vr 40 231] (xhp (sJ (sI s 231 i.toNatClampNeg z) 232 i.toNatClampNeg (if z = 0 then (0 : Int64) else d))) Φ by
    refine xW.br (c := ¬ z = 0) (pc1 := 38) (L1 := [(0, vr 12 230), (1, vi i), (2, vi z), (3, vl d), (5, vi e)]) (st1 := [vi (23 + i), vr 40 231]) (h1 := xhp (sJ (sI s 231 i.toNatClampNeg z) 232 i.toNatClampNeg (if z = 0 then (0 : Int64) else d))) (pc2 := 34) (L2 := [(0, vr 12 230), (1, vi i), (2, vi z), (3, vl d), (5, vi e)]) (st2 := [vi (23 + i), vr 40 231]) (h2 := xhp (sJ (sI s 231 i.toNatClampNeg z) 232 i.toNatClampNeg (if z = 0 then (0 : Int64) else d))) 1 (fun _ _ _ _ => rfl) (fun hc => ?_) (fun hc => ?_)
    · have hc2 : ¬ z = 0 := hc
      refine xW.seg (pc1 := 40) (L1 := [(0, vr 12 230), (1, vi i), (2, vi z), (3, vl d), (5, vi e)]) (st1 := [vi e, vi (23 + i), vr 40 231]) (h1 := xhp (sJ (sI s 231 i.toNatClampNeg z) 232 i.toNatClampNeg (if z = 0 then (0 : Int64) else d))) 1 (fun _ _ _ _ => rfl) ?_
      refine xW.to (v := vi (if z = 0 then (0 : Int32) else e)) ((congrArg vi (if_neg hc2)).symm) ?_
      exact J
    · have hc2 : z = 0 := (Decidable.not_not.mp hc)
      refine xW.seg (pc1 := 40) (L1 := [(0, vr 12 230), (1, vi i), (2, vi z), (3, vl d), (5, vi e)]) (st1 := [vi 0, vi (23 + i), vr 40 231]) (h1 := xhp (sJ (sI s 231 i.toNatClampNeg z) 232 i.toNatClampNeg (if z = 0 then (0 : Int64) else d))) 2 (fun _ _ _ _ => rfl) ?_
      refine xW.to (v := vi (if z = 0 then (0 : Int32) else e)) ((congrArg vi (if_pos hc2)).symm) ?_
      exact J
  refine xW.side (c := vp_in (23 + i) 640) (pc1 := 41) (L1 := [(0, vr 12 230), (1, vi i), (2, vi z), (3, vl d), (5, vi e)]) (st1 := []) (h1 := xhp (sI (sJ (sI s 231 i.toNatClampNeg z) 232 i.toNatClampNeg (if z = 0 then (0 : Int64) else d)) 231 ((23 + i).toNatClampNeg) (if z = 0 then (0 : Int32) else e))) 1 (fun _ _ _ _ => rfl) g.1 ?_
  replace g := g.2
  exact xW.ret (v0 := none) (h1 := xhp (sI (sJ (sI s 231 i.toNatClampNeg z) 232 i.toNatClampNeg (if z = 0 then (0 : Int64) else d)) 231 ((23 + i).toNatClampNeg) (if z = 0 then (0 : Int32) else e))) 1 (fun _ _ _ _ => rfl) g
noncomputable def tm_set_d (s : xS) (i : Int32) (z : Int32) (d : Int64) (e : Int32) : xS := (sI (sJ (sI s 231 i.toNatClampNeg z) 232 i.toNatClampNeg (if z = 0 then (0 : Int64) else d)) 231 ((23 + i).toNatClampNeg) (if z = 0 then (0 : Int32) else e))
noncomputable def tm_set : xS → Int32 → Int32 → Int64 → Int32 → xS := Classical.choose (⟨tm_set_d, rfl⟩ : ∃ f, f = tm_set_d)
set_option maxRecDepth 100000 in
theorem tm_set_eq : tm_set = tm_set_d := Classical.choose_spec (⟨tm_set_d, rfl⟩ : ∃ f, f = tm_set_d)
def tm_set_ok (s : xS) (i : Int32) (z : Int32) (d : Int64) (e : Int32) : Prop := ((vp_in i 640) ∧ ((vp_in i 192) ∧ (vp_in (23 + i) 640)))
set_option maxRecDepth 100000 in
theorem m32 {xs : Nat → Int32} {Ls : Nat} {Ψ : xO → xH → Prop} (s : xS) (i : Int32) (z : Int32) (d : Int64) (e : Int32) (gq : tm_set_ok s i z d e) (h : Ψ (.inl none) (xhp (tm_set s i z d e))) : xM (xX0 xs Ls) 32 [vr 12 230, vi i, vi z, vl d, vi e] (xhp s) Ψ := by
  rw [tm_set_eq] at h
  unfold tm_set_d at h
  unfold tm_set_ok at gq
  exact xM.of (P := p32) rfl rfl rfl (b32_0 s i z d e (⟨gq.1, by replace gq := gq.2; exact ⟨gq.1, by replace gq := gq.2; exact ⟨gq, h⟩⟩⟩))
/-! tm_move -/
theorem b33_0 {xs : Nat → Int32} {Ls : Nat} {Φ : Option xV → xH → Prop} (s : xS) (f : Int32) (i : Int32) (g : ((vp_in f 640) ∧ ((vp_in f 192) ∧ ((vp_in (23 + f) 640) ∧ ((tm_set_ok s i (gI s 231 f.toNatClampNeg) (gJ s 232 f.toNatClampNeg) (gI s 231 ((23 + f).toNatClampNeg))) ∧ Φ none (xhp (tm_set s i (gI s 231 f.toNatClampNeg) (gJ s 232 f.toNatClampNeg) (gI s 231 ((23 + f).toNatClampNeg))))))))) : xW (xX0 xs Ls) p33 0 [(0, vr 12 230), (1, vi f), (2, vi i)] [] (xhp s) Φ := by
  refine xW.side (c := vp_in f 640) (pc1 := 8) (L1 := [(0, vr 12 230), (1, vi f), (2, vi i)]) (st1 := [vi (gI s 231 f.toNatClampNeg), vi i, vr 12 230]) (h1 := xhp s) 6 (fun _ _ _ _ => rfl) g.1 ?_
  replace g := g.2
  refine xW.side (c := vp_in f 192) (pc1 := 14) (L1 := [(0, vr 12 230), (1, vi f), (2, vi i)]) (st1 := [vl (gJ s 232 f.toNatClampNeg), vi (gI s 231 f.toNatClampNeg), vi i, vr 12 230]) (h1 := xhp s) 4 (fun _ _ _ _ => rfl) g.1 ?_
  replace g := g.2
  refine xW.side (c := vp_in (23 + f) 640) (pc1 := 23) (L1 := [(0, vr 12 230), (1, vi f), (2, vi i)]) (st1 := [vi (gI s 231 ((23 + f).toNatClampNeg)), vl (gJ s 232 f.toNatClampNeg), vi (gI s 231 f.toNatClampNeg), vi i, vr 12 230]) (h1 := xhp s) 6 (fun _ _ _ _ => rfl) g.1 ?_
  replace g := g.2
  refine xW.call (y := 32) (as := [vr 12 230, vi i, vi (gI s 231 f.toNatClampNeg), vl (gJ s 232 f.toNatClampNeg), vi (gI s 231 ((23 + f).toNatClampNeg))]) (h0 := xhp s) (pc0 := 23) (len := 3) (L0 := [(0, vr 12 230), (1, vi f), (2, vi i)]) (rest := []) 1 (fun _ _ _ _ => rfl) (m32 _ _ _ _ _ g.1 ?_)
  show xW (xX0 xs Ls) p33 26 [(0, vr 12 230), (1, vi f), (2, vi i)] [] (xhp (tm_set s i (gI s 231 f.toNatClampNeg) (gJ s 232 f.toNatClampNeg) (gI s 231 ((23 + f).toNatClampNeg)))) Φ
  replace g := g.2
  exact xW.ret (v0 := none) (h1 := xhp (tm_set s i (gI s 231 f.toNatClampNeg) (gJ s 232 f.toNatClampNeg) (gI s 231 ((23 + f).toNatClampNeg)))) 1 (fun _ _ _ _ => rfl) g
noncomputable def tm_move_d (s : xS) (f : Int32) (i : Int32) : xS := (tm_set s i (gI s 231 f.toNatClampNeg) (gJ s 232 f.toNatClampNeg) (gI s 231 ((23 + f).toNatClampNeg)))
noncomputable def tm_move : xS → Int32 → Int32 → xS := Classical.choose (⟨tm_move_d, rfl⟩ : ∃ f, f = tm_move_d)
set_option maxRecDepth 100000 in
theorem tm_move_eq : tm_move = tm_move_d := Classical.choose_spec (⟨tm_move_d, rfl⟩ : ∃ f, f = tm_move_d)
def tm_move_ok (s : xS) (f : Int32) (i : Int32) : Prop := ((vp_in f 640) ∧ ((vp_in f 192) ∧ ((vp_in (23 + f) 640) ∧ (tm_set_ok s i (gI s 231 f.toNatClampNeg) (gJ s 232 f.toNatClampNeg) (gI s 231 ((23 + f).toNatClampNeg))))))
set_option maxRecDepth 100000 in
theorem m33 {xs : Nat → Int32} {Ls : Nat} {Ψ : xO → xH → Prop} (s : xS) (f : Int32) (i : Int32) (gq : tm_move_ok s f i) (h : Ψ (.inl none) (xhp (tm_move s f i))) : xM (xX0 xs Ls) 33 [vr 12 230, vi f, vi i] (xhp s) Ψ := by
  rw [tm_move_eq] at h
  unfold tm_move_d at h
  unfold tm_move_ok at gq
  exact xM.of (P := p33) rfl rfl rfl (b33_0 s f i (⟨gq.1, by replace gq := gq.2; exact ⟨gq.1, by replace gq := gq.2; exact ⟨gq.1, by replace gq := gq.2; exact ⟨gq, h⟩⟩⟩⟩))
/-! tm_clearRow -/
theorem b34_2 {xs : Nat → Int32} {Ls : Nat} {Φ : Option xV → xH → Prop} (s : xS) (x1 : Int32) (g : ((256 ≤ x1 → Φ none (xhp s)) ∧ (¬ (256 ≤ x1) → ((vp_in x1 256) ∧ xW (xX0 xs Ls) p34 2 [(0, vr 12 230), (1, vi (x1 + 1))] [] (xhp (sI s 242 x1.toNatClampNeg 0)) Φ)))) : xW (xX0 xs Ls) p34 2 [(0, vr 12 230), (1, vi x1)] [] (xhp s) Φ := by
  refine xW.br (c := 256 ≤ x1) (pc1 := 22) (L1 := [(0, vr 12 230), (1, vi x1)]) (st1 := []) (h1 := xhp s) (pc2 := 9) (L2 := [(0, vr 12 230), (1, vi x1)]) (st2 := []) (h2 := xhp s) 3 (fun _ _ _ _ => rfl) (fun hc => ?_) (fun hc => ?_)
  · replace g := g.1 hc
    exact xW.ret (v0 := none) (h1 := xhp s) 1 (fun _ _ _ _ => rfl) g
  · replace g := g.2 hc
    refine xW.side (c := vp_in x1 256) (pc1 := 16) (L1 := [(0, vr 12 230), (1, vi x1)]) (st1 := []) (h1 := xhp (sI s 242 x1.toNatClampNeg 0)) 5 (fun _ _ _ _ => rfl) g.1 ?_
    replace g := g.2
    refine xW.seg (pc1 := 2) (L1 := [(1, vi (x1 + 1)), (0, vr 12 230)]) (st1 := []) (h1 := xhp (sI s 242 x1.toNatClampNeg 0)) 2 (fun _ _ _ _ => rfl) ?_
    exact xW.locs (L := [(0, vr 12 230), (1, vi (x1 + 1))]) ⟨rfl, rfl, trivial⟩ rfl g
noncomputable def tm_clearRow_2 : Nat → xS → Int32 → xS
  | 0, s, _ => s
  | n + 1, s, x1 => (if 256 ≤ x1 then s else (tm_clearRow_2 n (sI s 242 x1.toNatClampNeg 0) (x1 + 1)))
def tm_clearRow_2_ok : Nat → xS → Int32 → Prop
  | 0, _, _ => False
  | n + 1, s, x1 => (¬ (256 ≤ x1) → ((vp_in x1 256) ∧ (tm_clearRow_2_ok n (sI s 242 x1.toNatClampNeg 0) (x1 + 1))))
set_option maxRecDepth 100000 in
theorem n34_2 {xs : Nat → Int32} {Ls : Nat} {Φ : Option xV → xH → Prop} : ∀ (n : Nat) (s : xS) (x1 : Int32), tm_clearRow_2_ok n s x1 → Φ none (xhp (tm_clearRow_2 n s x1)) → xW (xX0 xs Ls) p34 2 [(0, vr 12 230), (1, vi x1)] [] (xhp s) Φ := by
  intro n
  induction n with
  | zero => intro s _ gq; exact gq.elim
  | succ n ih =>
    intro s x1 gq h
    unfold tm_clearRow_2_ok at gq
    unfold tm_clearRow_2 at h
    exact b34_2 s x1 (⟨fun hc => by rw [if_pos hc] at h; exact h, fun hc => by rw [if_neg hc] at h; replace gq := gq hc; exact ⟨gq.1, by replace gq := gq.2; exact ih _ _ gq h⟩⟩)
set_option maxRecDepth 100000 in
theorem b34_0 {xs : Nat → Int32} {Ls : Nat} {Φ : Option xV → xH → Prop} (s : xS) (g : xW (xX0 xs Ls) p34 2 [(0, vr 12 230), (1, vi 0)] [] (xhp s) Φ) : xW (xX0 xs Ls) p34 0 [(0, vr 12 230)] [] (xhp s) Φ := by
  refine xW.seg (pc1 := 2) (L1 := [(1, vi 0), (0, vr 12 230)]) (st1 := []) (h1 := xhp s) 2 (fun _ _ _ _ => rfl) ?_
  exact xW.locs (L := [(0, vr 12 230), (1, vi 0)]) ⟨rfl, rfl, trivial⟩ rfl g
noncomputable def tm_clearRow_d (s : xS) : xS := (tm_clearRow_2 xfu s 0)
noncomputable def tm_clearRow : xS → xS := Classical.choose (⟨tm_clearRow_d, rfl⟩ : ∃ f, f = tm_clearRow_d)
set_option maxRecDepth 100000 in
theorem tm_clearRow_eq : tm_clearRow = tm_clearRow_d := Classical.choose_spec (⟨tm_clearRow_d, rfl⟩ : ∃ f, f = tm_clearRow_d)
def tm_clearRow_ok (s : xS) : Prop := (tm_clearRow_2_ok xfu s 0)
set_option maxRecDepth 100000 in
theorem m34 {xs : Nat → Int32} {Ls : Nat} {Ψ : xO → xH → Prop} (s : xS) (gq : tm_clearRow_ok s) (h : Ψ (.inl none) (xhp (tm_clearRow s))) : xM (xX0 xs Ls) 34 [vr 12 230] (xhp s) Ψ := by
  rw [tm_clearRow_eq] at h
  unfold tm_clearRow_d at h
  unfold tm_clearRow_ok at gq
  exact xM.of (P := p34) rfl rfl rfl (b34_0 s (n34_2 _ _ _ gq h))
/-! tm_round -/
theorem b35_220 {xs : Nat → Int32} {Ls : Nat} {Φ : Option xV → xH → Prop} (s : xS) (x1 : Int32) (x6 : Int64) (x10 : Int32) (g : ((x10 ≤ 99 → Φ (some (vi 0)) (xhp (sI (sJ (sI s 230 29 (if (-99) ≤ x10 then x1 else 0)) 230 30 x6) 230 31 x10))) ∧ (¬ (x10 ≤ 99) → Φ (some (vi 2)) (xhp s)))) : xW (xX0 xs Ls) p35 220 [(0, vr 12 230), (1, vi x1), (6, vl x6), (10, vi x10)] [] (xhp s) Φ := by
  refine xW.br (c := x10 ≤ 99) (pc1 := 229) (L1 := [(0, vr 12 230), (1, vi x1), (6, vl x6), (10, vi x10)]) (st1 := []) (h1 := xhp s) (pc2 := 227) (L2 := [(0, vr 12 230), (1, vi x1), (6, vl x6), (10, vi x10)]) (st2 := []) (h2 := xhp s) 3 (fun _ _ _ _ => rfl) (fun hc => ?_) (fun hc => ?_)
  · replace g := g.1 hc
    refine xW.seg (pc1 := 234) (L1 := [(0, vr 12 230), (1, vi x1), (6, vl x6), (10, vi x10)]) (st1 := [vi (-99), vi x10, vr 12 230]) (h1 := xhp s) 3 (fun _ _ _ _ => rfl) ?_
    suffices J : xW (xX0 xs Ls) p35 242 [(0, vr 12 230), (1, vi x1), (6, vl x6), (10, vi x10)] [vi (if (-99) ≤ x10 then x1 else 0), vr 12 230] (xhp s) Φ by
      refine xW.br (c := (-99) ≤ x10) (pc1 := 241) (L1 := [(0, vr 12 230), (1, vi x1), (6, vl x6), (10, vi x10)]) (st1 := [vr 12 230]) (h1 := xhp s) (pc2 := 237) (L2 := [(0, vr 12 230), (1, vi x1), (6, vl x6), (10, vi x10)]) (st2 := [vr 12 230]) (h2 := xhp s) 1 (fun _ _ _ _ => rfl) (fun hc => ?_) (fun hc => ?_)
      · have hc1 : (-99) ≤ x10 := hc
        refine xW.seg (pc1 := 242) (L1 := [(0, vr 12 230), (1, vi x1), (6, vl x6), (10, vi x10)]) (st1 := [vi x1, vr 12 230]) (h1 := xhp s) 1 (fun _ _ _ _ => rfl) ?_
        refine xW.to (v := vi (if (-99) ≤ x10 then x1 else 0)) ((congrArg vi (if_pos hc1)).symm) ?_
        exact J
      · have hc1 : ¬ ((-99) ≤ x10) := hc
        refine xW.seg (pc1 := 242) (L1 := [(0, vr 12 230), (1, vi x1), (6, vl x6), (10, vi x10)]) (st1 := [vi 0, vr 12 230]) (h1 := xhp s) 2 (fun _ _ _ _ => rfl) ?_
        refine xW.to (v := vi (if (-99) ≤ x10 then x1 else 0)) ((congrArg vi (if_neg hc1)).symm) ?_
        exact J
    exact xW.ret (v0 := some (vi 0)) (h1 := xhp (sI (sJ (sI s 230 29 (if (-99) ≤ x10 then x1 else 0)) 230 30 x6) 230 31 x10)) 9 (fun _ _ _ _ => rfl) g
  · replace g := g.2 hc
    exact xW.ret (v0 := some (vi 2)) (h1 := xhp s) 2 (fun _ _ _ _ => rfl) g
noncomputable def tm_round_220_d (s : xS) (x1 : Int32) (x6 : Int64) (x10 : Int32) : Int32 × xS := (if x10 ≤ 99 then (0, (sI (sJ (sI s 230 29 (if (-99) ≤ x10 then x1 else 0)) 230 30 x6) 230 31 x10)) else (2, s))
noncomputable def tm_round_220 : xS → Int32 → Int64 → Int32 → Int32 × xS := Classical.choose (⟨tm_round_220_d, rfl⟩ : ∃ f, f = tm_round_220_d)
set_option maxRecDepth 100000 in
theorem tm_round_220_eq : tm_round_220 = tm_round_220_d := Classical.choose_spec (⟨tm_round_220_d, rfl⟩ : ∃ f, f = tm_round_220_d)
set_option maxRecDepth 100000 in
theorem n35_220 {xs : Nat → Int32} {Ls : Nat} {Φ : Option xV → xH → Prop} (s : xS) (x1 : Int32) (x6 : Int64) (x10 : Int32) (h : Φ (some (vi (tm_round_220 s x1 x6 x10).1)) (xhp (tm_round_220 s x1 x6 x10).2)) : xW (xX0 xs Ls) p35 220 [(0, vr 12 230), (1, vi x1), (6, vl x6), (10, vi x10)] [] (xhp s) Φ := by
  rw [tm_round_220_eq] at h
  unfold tm_round_220_d at h
  exact b35_220 s x1 x6 x10 (⟨fun hc => by rw [if_pos hc] at h; exact (by (try dsimp only at h); exact h), fun hc => by rw [if_neg hc] at h; exact (by (try dsimp only at h); exact h)⟩)
set_option maxRecDepth 100000 in
theorem b35_195 {xs : Nat → Int32} {Ls : Nat} {Φ : Option xV → xH → Prop} (s : xS) (x1 : Int32) (x2 : Int32) (x5 : Int32) (y0 : Int64) (g : ((¬ y0 = 1000000000000 → xW (xX0 xs Ls) p35 220 [(0, vr 12 230), (1, vi x1), (6, vl y0), (10, vi (x2 - x5))] [] (xhp s) Φ) ∧ (y0 = 1000000000000 → xW (xX0 xs Ls) p35 220 [(0, vr 12 230), (1, vi x1), (6, vl 100000000000), (10, vi ((x2 - x5) + 1))] [] (xhp s) Φ))) : xW (xX0 xs Ls) p35 195 [(0, vr 12 230), (1, vi x1), (2, vi x2), (5, vi x5)] [vl y0] (xhp s) Φ := by
  refine xW.br (c := ¬ (lg_cmp y0 1000000000000) = 0) (pc1 := 220) (L1 := [(10, vi (x2 - x5)), (6, vl y0), (0, vr 12 230), (1, vi x1), (2, vi x2), (5, vi x5)]) (st1 := []) (h1 := xhp s) (pc2 := 212) (L2 := [(10, vi (x2 - x5)), (6, vl y0), (0, vr 12 230), (1, vi x1), (2, vi x2), (5, vi x5)]) (st2 := []) (h2 := xhp s) 9 (fun _ _ _ _ => rfl) (fun hc => ?_) (fun hc => ?_)
  · replace g := g.1 (fun q => hc (lc_eq.mpr q))
    exact xW.locs (L := [(0, vr 12 230), (1, vi x1), (6, vl y0), (10, vi (x2 - x5))]) ⟨rfl, rfl, rfl, rfl, trivial⟩ rfl g
  · replace g := g.2 (lc_eq.mp (Decidable.not_not.mp hc))
    refine xW.seg (pc1 := 220) (L1 := [(10, vi ((x2 - x5) + 1)), (6, vl 100000000000), (0, vr 12 230), (1, vi x1), (2, vi x2), (5, vi x5)]) (st1 := []) (h1 := xhp s) 3 (fun _ _ _ _ => rfl) ?_
    exact xW.locs (L := [(0, vr 12 230), (1, vi x1), (6, vl 100000000000), (10, vi ((x2 - x5) + 1))]) ⟨rfl, rfl, rfl, rfl, trivial⟩ rfl g
noncomputable def tm_round_195_d (s : xS) (x1 : Int32) (x2 : Int32) (x5 : Int32) (y0 : Int64) : Int32 × xS := (if ¬ y0 = 1000000000000 then (tm_round_220 s x1 y0 (x2 - x5)) else (tm_round_220 s x1 100000000000 ((x2 - x5) + 1)))
noncomputable def tm_round_195 : xS → Int32 → Int32 → Int32 → Int64 → Int32 × xS := Classical.choose (⟨tm_round_195_d, rfl⟩ : ∃ f, f = tm_round_195_d)
set_option maxRecDepth 100000 in
theorem tm_round_195_eq : tm_round_195 = tm_round_195_d := Classical.choose_spec (⟨tm_round_195_d, rfl⟩ : ∃ f, f = tm_round_195_d)
set_option maxRecDepth 100000 in
theorem n35_195 {xs : Nat → Int32} {Ls : Nat} {Φ : Option xV → xH → Prop} (s : xS) (x1 : Int32) (x2 : Int32) (x5 : Int32) (y0 : Int64) (h : Φ (some (vi (tm_round_195 s x1 x2 x5 y0).1)) (xhp (tm_round_195 s x1 x2 x5 y0).2)) : xW (xX0 xs Ls) p35 195 [(0, vr 12 230), (1, vi x1), (2, vi x2), (5, vi x5)] [vl y0] (xhp s) Φ := by
  rw [tm_round_195_eq] at h
  unfold tm_round_195_d at h
  exact b35_195 s x1 x2 x5 y0 (⟨fun hc => by rw [if_pos hc] at h; exact n35_220 _ _ _ _ h, fun hc => by rw [if_neg (fun z => z hc)] at h; exact n35_220 _ _ _ _ h⟩)
set_option maxRecDepth 100000 in
theorem b35_193 {xs : Nat → Int32} {Ls : Nat} {Φ : Option xV → xH → Prop} (s : xS) (x1 : Int32) (x2 : Int32) (x5 : Int32) (x6 : Int64) (g : xW (xX0 xs Ls) p35 195 [(0, vr 12 230), (1, vi x1), (2, vi x2), (5, vi x5)] [vl x6] (xhp s) Φ) : xW (xX0 xs Ls) p35 193 [(0, vr 12 230), (1, vi x1), (2, vi x2), (5, vi x5), (6, vl x6)] [] (xhp s) Φ := by
  refine xW.seg (pc1 := 195) (L1 := [(0, vr 12 230), (1, vi x1), (2, vi x2), (5, vi x5), (6, vl x6)]) (st1 := [vl x6]) (h1 := xhp s) 1 (fun _ _ _ _ => rfl) ?_
  exact xW.locs (L := [(0, vr 12 230), (1, vi x1), (2, vi x2), (5, vi x5)]) ⟨rfl, rfl, rfl, rfl, trivial⟩ rfl g
noncomputable def tm_round_193_d (s : xS) (x1 : Int32) (x2 : Int32) (x5 : Int32) (x6 : Int64) : Int32 × xS := (tm_round_195 s x1 x2 x5 x6)
noncomputable def tm_round_193 : xS → Int32 → Int32 → Int32 → Int64 → Int32 × xS := Classical.choose (⟨tm_round_193_d, rfl⟩ : ∃ f, f = tm_round_193_d)
set_option maxRecDepth 100000 in
theorem tm_round_193_eq : tm_round_193 = tm_round_193_d := Classical.choose_spec (⟨tm_round_193_d, rfl⟩ : ∃ f, f = tm_round_193_d)
set_option maxRecDepth 100000 in
theorem n35_193 {xs : Nat → Int32} {Ls : Nat} {Φ : Option xV → xH → Prop} (s : xS) (x1 : Int32) (x2 : Int32) (x5 : Int32) (x6 : Int64) (h : Φ (some (vi (tm_round_193 s x1 x2 x5 x6).1)) (xhp (tm_round_193 s x1 x2 x5 x6).2)) : xW (xX0 xs Ls) p35 193 [(0, vr 12 230), (1, vi x1), (2, vi x2), (5, vi x5), (6, vl x6)] [] (xhp s) Φ := by
  rw [tm_round_193_eq] at h
  unfold tm_round_193_d at h
  exact b35_193 s x1 x2 x5 x6 (n35_195 _ _ _ _ _ h)
set_option maxRecDepth 100000 in
theorem b35_186 {xs : Nat → Int32} {Ls : Nat} {Φ : Option xV → xH → Prop} (s : xS) (x1 : Int32) (x2 : Int32) (x5 : Int32) (x6 : Int64) (g : xW (xX0 xs Ls) p35 195 [(0, vr 12 230), (1, vi x1), (2, vi x2), (5, vi x5)] [vl (x6 + 1)] (xhp s) Φ) : xW (xX0 xs Ls) p35 186 [(0, vr 12 230), (1, vi x1), (2, vi x2), (5, vi x5), (6, vl x6)] [] (xhp s) Φ := by
  refine xW.seg (pc1 := 195) (L1 := [(0, vr 12 230), (1, vi x1), (2, vi x2), (5, vi x5), (6, vl x6)]) (st1 := [vl (x6 + 1)]) (h1 := xhp s) 4 (fun _ _ _ _ => rfl) ?_
  exact xW.locs (L := [(0, vr 12 230), (1, vi x1), (2, vi x2), (5, vi x5)]) ⟨rfl, rfl, rfl, rfl, trivial⟩ rfl g
noncomputable def tm_round_186_d (s : xS) (x1 : Int32) (x2 : Int32) (x5 : Int32) (x6 : Int64) : Int32 × xS := (tm_round_195 s x1 x2 x5 (x6 + 1))
noncomputable def tm_round_186 : xS → Int32 → Int32 → Int32 → Int64 → Int32 × xS := Classical.choose (⟨tm_round_186_d, rfl⟩ : ∃ f, f = tm_round_186_d)
set_option maxRecDepth 100000 in
theorem tm_round_186_eq : tm_round_186 = tm_round_186_d := Classical.choose_spec (⟨tm_round_186_d, rfl⟩ : ∃ f, f = tm_round_186_d)
set_option maxRecDepth 100000 in
theorem n35_186 {xs : Nat → Int32} {Ls : Nat} {Φ : Option xV → xH → Prop} (s : xS) (x1 : Int32) (x2 : Int32) (x5 : Int32) (x6 : Int64) (h : Φ (some (vi (tm_round_186 s x1 x2 x5 x6).1)) (xhp (tm_round_186 s x1 x2 x5 x6).2)) : xW (xX0 xs Ls) p35 186 [(0, vr 12 230), (1, vi x1), (2, vi x2), (5, vi x5), (6, vl x6)] [] (xhp s) Φ := by
  rw [tm_round_186_eq] at h
  unfold tm_round_186_d at h
  exact b35_186 s x1 x2 x5 x6 (n35_195 _ _ _ _ _ h)
set_option maxRecDepth 100000 in
theorem b35_124 {xs : Nat → Int32} {Ls : Nat} {Φ : Option xV → xH → Prop} (s : xS) (x1 : Int32) (x2 : Int32) (x3 : Int32) (x5 : Int32) (x6 : Int64) (x8 : Int32) (x9 : Int32) (x10 : Int32) (g : ((x3 ≤ x10 → ((5 < x8 → xW (xX0 xs Ls) p35 186 [(0, vr 12 230), (1, vi x1), (2, vi x2), (5, vi x5), (6, vl x6)] [] (xhp s) Φ) ∧ (¬ (5 < x8) → ((¬ x8 = 5 → xW (xX0 xs Ls) p35 193 [(0, vr 12 230), (1, vi x1), (2, vi x2), (5, vi x5), (6, vl x6)] [] (xhp s) Φ) ∧ (x8 = 5 → ((¬ x9 = 0 → xW (xX0 xs Ls) p35 186 [(0, vr 12 230), (1, vi x1), (2, vi x2), (5, vi x5), (6, vl x6)] [] (xhp s) Φ) ∧ (x9 = 0 → xW (xX0 xs Ls) p35 195 [(0, vr 12 230), (1, vi x1), (2, vi x2), (5, vi x5)] [vl (if (x6 - x6 / 2 * 2) = 1 then (x6 + 1) else x6)] (xhp s) Φ))))))) ∧ (¬ (x3 ≤ x10) → ((¬ x9 = 0 → xW (xX0 xs Ls) p35 124 [(0, vr 12 230), (1, vi x1), (2, vi x2), (3, vi x3), (5, vi x5), (6, vl x6), (8, vi x8), (9, vi 1), (10, vi (x10 + 1))] [] (xhp s) Φ) ∧ (x9 = 0 → ((vp_in x10 256) ∧ xW (xX0 xs Ls) p35 124 [(0, vr 12 230), (1, vi x1), (2, vi x2), (3, vi x3), (5, vi x5), (6, vl x6), (8, vi x8), (9, vi (zb (!decide ((gI s 242 x10.toNatClampNeg) ≤ 0)))), (10, vi (x10 + 1))] [] (xhp s) Φ)))))) : xW (xX0 xs Ls) p35 124 [(0, vr 12 230), (1, vi x1), (2, vi x2), (3, vi x3), (5, vi x5), (6, vl x6), (8, vi x8), (9, vi x9), (10, vi x10)] [] (xhp s) Φ := by
  refine xW.br (c := x3 ≤ x10) (pc1 := 158) (L1 := [(0, vr 12 230), (1, vi x1), (2, vi x2), (3, vi x3), (5, vi x5), (6, vl x6), (8, vi x8), (9, vi x9), (10, vi x10)]) (st1 := []) (h1 := xhp s) (pc2 := 130) (L2 := [(0, vr 12 230), (1, vi x1), (2, vi x2), (3, vi x3), (5, vi x5), (6, vl x6), (8, vi x8), (9, vi x9), (10, vi x10)]) (st2 := []) (h2 := xhp s) 3 (fun _ _ _ _ => rfl) (fun hc => ?_) (fun hc => ?_)
  · replace g := g.1 hc
    refine xW.br (c := 5 < x8) (pc1 := 186) (L1 := [(0, vr 12 230), (1, vi x1), (2, vi x2), (3, vi x3), (5, vi x5), (6, vl x6), (8, vi x8), (9, vi x9), (10, vi x10)]) (st1 := []) (h1 := xhp s) (pc2 := 164) (L2 := [(0, vr 12 230), (1, vi x1), (2, vi x2), (3, vi x3), (5, vi x5), (6, vl x6), (8, vi x8), (9, vi x9), (10, vi x10)]) (st2 := []) (h2 := xhp s) 3 (fun _ _ _ _ => rfl) (fun hc => ?_) (fun hc => ?_)
    · replace g := g.1 hc
      exact xW.locs (L := [(0, vr 12 230), (1, vi x1), (2, vi x2), (5, vi x5), (6, vl x6)]) ⟨rfl, rfl, rfl, rfl, rfl, trivial⟩ rfl g
    · replace g := g.2 hc
      refine xW.br (c := ¬ x8 = 5) (pc1 := 193) (L1 := [(0, vr 12 230), (1, vi x1), (2, vi x2), (3, vi x3), (5, vi x5), (6, vl x6), (8, vi x8), (9, vi x9), (10, vi x10)]) (st1 := []) (h1 := xhp s) (pc2 := 170) (L2 := [(0, vr 12 230), (1, vi x1), (2, vi x2), (3, vi x3), (5, vi x5), (6, vl x6), (8, vi x8), (9, vi x9), (10, vi x10)]) (st2 := []) (h2 := xhp s) 3 (fun _ _ _ _ => rfl) (fun hc => ?_) (fun hc => ?_)
      · replace g := g.1 hc
        exact xW.locs (L := [(0, vr 12 230), (1, vi x1), (2, vi x2), (5, vi x5), (6, vl x6)]) ⟨rfl, rfl, rfl, rfl, rfl, trivial⟩ rfl g
      · replace g := g.2 (Decidable.not_not.mp hc)
        refine xW.br (c := ¬ x9 = 0) (pc1 := 186) (L1 := [(0, vr 12 230), (1, vi x1), (2, vi x2), (3, vi x3), (5, vi x5), (6, vl x6), (8, vi x8), (9, vi x9), (10, vi x10)]) (st1 := []) (h1 := xhp s) (pc2 := 175) (L2 := [(0, vr 12 230), (1, vi x1), (2, vi x2), (3, vi x3), (5, vi x5), (6, vl x6), (8, vi x8), (9, vi x9), (10, vi x10)]) (st2 := []) (h2 := xhp s) 2 (fun _ _ _ _ => rfl) (fun hc => ?_) (fun hc => ?_)
        · replace g := g.1 hc
          exact xW.locs (L := [(0, vr 12 230), (1, vi x1), (2, vi x2), (5, vi x5), (6, vl x6)]) ⟨rfl, rfl, rfl, rfl, rfl, trivial⟩ rfl g
        · replace g := g.2 (Decidable.not_not.mp hc)
          refine xW.side (c := ¬ (2 : Int64) = 0) (pc1 := 181) (L1 := [(0, vr 12 230), (1, vi x1), (2, vi x2), (3, vi x3), (5, vi x5), (6, vl x6), (8, vi x8), (9, vi x9), (10, vi x10)]) (st1 := [vl (x6 - x6 / 2 * 2)]) (h1 := xhp s) 3 (fun _ _ _ _ => rfl) (by decide) ?_
          refine xW.seg (pc1 := 183) (L1 := [(0, vr 12 230), (1, vi x1), (2, vi x2), (3, vi x3), (5, vi x5), (6, vl x6), (8, vi x8), (9, vi x9), (10, vi x10)]) (st1 := [vi (lg_cmp (x6 - x6 / 2 * 2) 1)]) (h1 := xhp s) 2 (fun _ _ _ _ => rfl) ?_
          suffices J : xW (xX0 xs Ls) p35 195 [(0, vr 12 230), (1, vi x1), (2, vi x2), (3, vi x3), (5, vi x5), (6, vl x6), (8, vi x8), (9, vi x9), (10, vi x10)] [vl (if (x6 - x6 / 2 * 2) = 1 then (x6 + 1) else x6)] (xhp s) Φ by
            refine xW.br (c := ¬ (lg_cmp (x6 - x6 / 2 * 2) 1) = 0) (pc1 := 193) (L1 := [(0, vr 12 230), (1, vi x1), (2, vi x2), (3, vi x3), (5, vi x5), (6, vl x6), (8, vi x8), (9, vi x9), (10, vi x10)]) (st1 := []) (h1 := xhp s) (pc2 := 186) (L2 := [(0, vr 12 230), (1, vi x1), (2, vi x2), (3, vi x3), (5, vi x5), (6, vl x6), (8, vi x8), (9, vi x9), (10, vi x10)]) (st2 := []) (h2 := xhp s) 1 (fun _ _ _ _ => rfl) (fun hc => ?_) (fun hc => ?_)
            · have hc1 : ¬ (x6 - x6 / 2 * 2) = 1 := (fun q => hc (lc_eq.mpr q))
              refine xW.seg (pc1 := 195) (L1 := [(0, vr 12 230), (1, vi x1), (2, vi x2), (3, vi x3), (5, vi x5), (6, vl x6), (8, vi x8), (9, vi x9), (10, vi x10)]) (st1 := [vl x6]) (h1 := xhp s) 1 (fun _ _ _ _ => rfl) ?_
              refine xW.to (v := vl (if (x6 - x6 / 2 * 2) = 1 then (x6 + 1) else x6)) ((congrArg vl (if_neg hc1)).symm) ?_
              exact J
            · have hc1 : (x6 - x6 / 2 * 2) = 1 := (lc_eq.mp (Decidable.not_not.mp hc))
              refine xW.seg (pc1 := 195) (L1 := [(0, vr 12 230), (1, vi x1), (2, vi x2), (3, vi x3), (5, vi x5), (6, vl x6), (8, vi x8), (9, vi x9), (10, vi x10)]) (st1 := [vl (x6 + 1)]) (h1 := xhp s) 4 (fun _ _ _ _ => rfl) ?_
              refine xW.to (v := vl (if (x6 - x6 / 2 * 2) = 1 then (x6 + 1) else x6)) ((congrArg vl (if_pos hc1)).symm) ?_
              exact J
          exact xW.locs (L := [(0, vr 12 230), (1, vi x1), (2, vi x2), (5, vi x5)]) ⟨rfl, rfl, rfl, rfl, trivial⟩ rfl g
  · replace g := g.2 hc
    refine xW.br (c := ¬ x9 = 0) (pc1 := 145) (L1 := [(0, vr 12 230), (1, vi x1), (2, vi x2), (3, vi x3), (5, vi x5), (6, vl x6), (8, vi x8), (9, vi x9), (10, vi x10)]) (st1 := []) (h1 := xhp s) (pc2 := 135) (L2 := [(0, vr 12 230), (1, vi x1), (2, vi x2), (3, vi x3), (5, vi x5), (6, vl x6), (8, vi x8), (9, vi x9), (10, vi x10)]) (st2 := []) (h2 := xhp s) 2 (fun _ _ _ _ => rfl) (fun hc => ?_) (fun hc => ?_)
    · replace g := g.1 hc
      refine xW.seg (pc1 := 124) (L1 := [(10, vi (x10 + 1)), (9, vi 1), (0, vr 12 230), (1, vi x1), (2, vi x2), (3, vi x3), (5, vi x5), (6, vl x6), (8, vi x8)]) (st1 := []) (h1 := xhp s) 5 (fun _ _ _ _ => rfl) ?_
      exact xW.locs (L := [(0, vr 12 230), (1, vi x1), (2, vi x2), (3, vi x3), (5, vi x5), (6, vl x6), (8, vi x8), (9, vi 1), (10, vi (x10 + 1))]) ⟨rfl, rfl, rfl, rfl, rfl, rfl, rfl, rfl, rfl, trivial⟩ rfl g
    · replace g := g.2 (Decidable.not_not.mp hc)
      refine xW.side (c := vp_in x10 256) (pc1 := 142) (L1 := [(0, vr 12 230), (1, vi x1), (2, vi x2), (3, vi x3), (5, vi x5), (6, vl x6), (8, vi x8), (9, vi x9), (10, vi x10)]) (st1 := [vi (gI s 242 x10.toNatClampNeg)]) (h1 := xhp s) 4 (fun _ _ _ _ => rfl) g.1 ?_
      replace g := g.2
      suffices J : xW (xX0 xs Ls) p35 150 [(0, vr 12 230), (1, vi x1), (2, vi x2), (3, vi x3), (5, vi x5), (6, vl x6), (8, vi x8), (9, vi x9), (10, vi x10)] [vi (zb (!decide ((gI s 242 x10.toNatClampNeg) ≤ 0)))] (xhp s) Φ by
        refine xW.br (c := (gI s 242 x10.toNatClampNeg) ≤ 0) (pc1 := 149) (L1 := [(0, vr 12 230), (1, vi x1), (2, vi x2), (3, vi x3), (5, vi x5), (6, vl x6), (8, vi x8), (9, vi x9), (10, vi x10)]) (st1 := []) (h1 := xhp s) (pc2 := 145) (L2 := [(0, vr 12 230), (1, vi x1), (2, vi x2), (3, vi x3), (5, vi x5), (6, vl x6), (8, vi x8), (9, vi x9), (10, vi x10)]) (st2 := []) (h2 := xhp s) 1 (fun _ _ _ _ => rfl) (fun hc => ?_) (fun hc => ?_)
        · have hc2 : (gI s 242 x10.toNatClampNeg) ≤ 0 := hc
          refine xW.seg (pc1 := 150) (L1 := [(0, vr 12 230), (1, vi x1), (2, vi x2), (3, vi x3), (5, vi x5), (6, vl x6), (8, vi x8), (9, vi x9), (10, vi x10)]) (st1 := [vi 0]) (h1 := xhp s) 1 (fun _ _ _ _ => rfl) ?_
          refine xW.to (v := vi (zb (!decide ((gI s 242 x10.toNatClampNeg) ≤ 0)))) (zb_f (by simp only [decide_eq_true hc2, Bool.true_or, Bool.or_true, Bool.false_or, Bool.or_false, Bool.true_and, Bool.and_true, Bool.false_and, Bool.and_false, Bool.not_true, Bool.not_false, cond_true, cond_false])) ?_
          exact J
        · have hc2 : ¬ ((gI s 242 x10.toNatClampNeg) ≤ 0) := hc
          refine xW.seg (pc1 := 150) (L1 := [(0, vr 12 230), (1, vi x1), (2, vi x2), (3, vi x3), (5, vi x5), (6, vl x6), (8, vi x8), (9, vi x9), (10, vi x10)]) (st1 := [vi 1]) (h1 := xhp s) 2 (fun _ _ _ _ => rfl) ?_
          refine xW.to (v := vi (zb (!decide ((gI s 242 x10.toNatClampNeg) ≤ 0)))) (zb_t (by simp only [decide_eq_false hc2, Bool.true_or, Bool.or_true, Bool.false_or, Bool.or_false, Bool.true_and, Bool.and_true, Bool.false_and, Bool.and_false, Bool.not_true, Bool.not_false, cond_true, cond_false])) ?_
          exact J
      refine xW.seg (pc1 := 124) (L1 := [(10, vi (x10 + 1)), (9, vi (zb (!decide ((gI s 242 x10.toNatClampNeg) ≤ 0)))), (0, vr 12 230), (1, vi x1), (2, vi x2), (3, vi x3), (5, vi x5), (6, vl x6), (8, vi x8)]) (st1 := []) (h1 := xhp s) 3 (fun _ _ _ _ => rfl) ?_
      exact xW.locs (L := [(0, vr 12 230), (1, vi x1), (2, vi x2), (3, vi x3), (5, vi x5), (6, vl x6), (8, vi x8), (9, vi (zb (!decide ((gI s 242 x10.toNatClampNeg) ≤ 0)))), (10, vi (x10 + 1))]) ⟨rfl, rfl, rfl, rfl, rfl, rfl, rfl, rfl, rfl, trivial⟩ rfl g
noncomputable def tm_round_124 : Nat → xS → Int32 → Int32 → Int32 → Int32 → Int64 → Int32 → Int32 → Int32 → Int32 × xS
  | 0, s, _, _, _, _, _, _, _, _ => (0, s)
  | n + 1, s, x1, x2, x3, x5, x6, x8, x9, x10 => (if x3 ≤ x10 then (if 5 < x8 then (tm_round_186 s x1 x2 x5 x6) else (if ¬ x8 = 5 then (tm_round_193 s x1 x2 x5 x6) else (if ¬ x9 = 0 then (tm_round_186 s x1 x2 x5 x6) else (tm_round_195 s x1 x2 x5 (if (x6 - x6 / 2 * 2) = 1 then (x6 + 1) else x6))))) else (if ¬ x9 = 0 then (tm_round_124 n s x1 x2 x3 x5 x6 x8 1 (x10 + 1)) else (tm_round_124 n s x1 x2 x3 x5 x6 x8 (zb (!decide ((gI s 242 x10.toNatClampNeg) ≤ 0))) (x10 + 1))))
def tm_round_124_ok : Nat → xS → Int32 → Int32 → Int32 → Int32 → Int64 → Int32 → Int32 → Int32 → Prop
  | 0, _, _, _, _, _, _, _, _, _ => False
  | n + 1, s, x1, x2, x3, x5, x6, x8, x9, x10 => (¬ (x3 ≤ x10) → ((¬ x9 = 0 → (tm_round_124_ok n s x1 x2 x3 x5 x6 x8 1 (x10 + 1))) ∧ (x9 = 0 → ((vp_in x10 256) ∧ (tm_round_124_ok n s x1 x2 x3 x5 x6 x8 (zb (!decide ((gI s 242 x10.toNatClampNeg) ≤ 0))) (x10 + 1))))))
set_option maxRecDepth 100000 in
theorem n35_124 {xs : Nat → Int32} {Ls : Nat} {Φ : Option xV → xH → Prop} : ∀ (n : Nat) (s : xS) (x1 : Int32) (x2 : Int32) (x3 : Int32) (x5 : Int32) (x6 : Int64) (x8 : Int32) (x9 : Int32) (x10 : Int32), tm_round_124_ok n s x1 x2 x3 x5 x6 x8 x9 x10 → Φ (some (vi (tm_round_124 n s x1 x2 x3 x5 x6 x8 x9 x10).1)) (xhp (tm_round_124 n s x1 x2 x3 x5 x6 x8 x9 x10).2) → xW (xX0 xs Ls) p35 124 [(0, vr 12 230), (1, vi x1), (2, vi x2), (3, vi x3), (5, vi x5), (6, vl x6), (8, vi x8), (9, vi x9), (10, vi x10)] [] (xhp s) Φ := by
  intro n
  induction n with
  | zero => intro s _ _ _ _ _ _ _ _ gq; exact gq.elim
  | succ n ih =>
    intro s x1 x2 x3 x5 x6 x8 x9 x10 gq h
    unfold tm_round_124_ok at gq
    unfold tm_round_124 at h
    exact b35_124 s x1 x2 x3 x5 x6 x8 x9 x10 (⟨fun hc => by rw [if_pos hc] at h; exact ⟨fun hc => by rw [if_pos hc] at h; exact n35_186 _ _ _ _ _ h, fun hc => by rw [if_neg hc] at h; exact ⟨fun hc => by rw [if_pos hc] at h; exact n35_193 _ _ _ _ _ h, fun hc => by rw [if_neg (fun z => z hc)] at h; exact ⟨fun hc => by rw [if_pos hc] at h; exact n35_186 _ _ _ _ _ h, fun hc => by rw [if_neg (fun z => z hc)] at h; exact n35_195 _ _ _ _ _ h⟩⟩⟩, fun hc => by rw [if_neg hc] at h; replace gq := gq hc; exact ⟨fun hc => by rw [if_pos hc] at h; replace gq := gq.1 hc; exact ih _ _ _ _ _ _ _ _ _ gq h, fun hc => by rw [if_neg (fun z => z hc)] at h; replace gq := gq.2 hc; exact ⟨gq.1, by replace gq := gq.2; exact ih _ _ _ _ _ _ _ _ _ gq h⟩⟩⟩)
set_option maxRecDepth 100000 in
theorem b35_45 {xs : Nat → Int32} {Ls : Nat} {Φ : Option xV → xH → Prop} (s : xS) (x1 : Int32) (x2 : Int32) (x3 : Int32) (x4 : Int32) (x5 : Int32) (x6 : Int64) (x8 : Int32) (g : (((x5 + 12) ≤ x8 → ((x3 ≤ (x5 + 12) → xW (xX0 xs Ls) p35 124 [(0, vr 12 230), (1, vi x1), (2, vi x2), (3, vi x3), (5, vi x5), (6, vl x6), (8, vi 0), (9, vi x4), (10, vi (x5 + 13))] [] (xhp s) Φ) ∧ (¬ (x3 ≤ (x5 + 12)) → ((vp_in (x5 + 12) 256) ∧ xW (xX0 xs Ls) p35 124 [(0, vr 12 230), (1, vi x1), (2, vi x2), (3, vi x3), (5, vi x5), (6, vl x6), (8, vi (gI s 242 ((x5 + 12).toNatClampNeg))), (9, vi x4), (10, vi (x5 + 13))] [] (xhp s) Φ)))) ∧ (¬ ((x5 + 12) ≤ x8) → ((x3 ≤ x8 → xW (xX0 xs Ls) p35 45 [(0, vr 12 230), (1, vi x1), (2, vi x2), (3, vi x3), (4, vi x4), (5, vi x5), (6, vl ((10 * x6) + ((0 : Int32).toInt64))), (8, vi (x8 + 1))] [] (xhp s) Φ) ∧ (¬ (x3 ≤ x8) → ((vp_in x8 256) ∧ xW (xX0 xs Ls) p35 45 [(0, vr 12 230), (1, vi x1), (2, vi x2), (3, vi x3), (4, vi x4), (5, vi x5), (6, vl ((10 * x6) + ((gI s 242 x8.toNatClampNeg).toInt64))), (8, vi (x8 + 1))] [] (xhp s) Φ)))))) : xW (xX0 xs Ls) p35 45 [(0, vr 12 230), (1, vi x1), (2, vi x2), (3, vi x3), (4, vi x4), (5, vi x5), (6, vl x6), (8, vi x8)] [] (xhp s) Φ := by
  refine xW.br (c := (x5 + 12) ≤ x8) (pc1 := 88) (L1 := [(0, vr 12 230), (1, vi x1), (2, vi x2), (3, vi x3), (4, vi x4), (5, vi x5), (6, vl x6), (8, vi x8)]) (st1 := []) (h1 := xhp s) (pc2 := 55) (L2 := [(0, vr 12 230), (1, vi x1), (2, vi x2), (3, vi x3), (4, vi x4), (5, vi x5), (6, vl x6), (8, vi x8)]) (st2 := []) (h2 := xhp s) 5 (fun _ _ _ _ => rfl) (fun hc => ?_) (fun hc => ?_)
  · replace g := g.1 hc
    refine xW.br (c := x3 ≤ (x5 + 12)) (pc1 := 110) (L1 := [(0, vr 12 230), (1, vi x1), (2, vi x2), (3, vi x3), (4, vi x4), (5, vi x5), (6, vl x6), (8, vi x8)]) (st1 := []) (h1 := xhp s) (pc2 := 97) (L2 := [(0, vr 12 230), (1, vi x1), (2, vi x2), (3, vi x3), (4, vi x4), (5, vi x5), (6, vl x6), (8, vi x8)]) (st2 := []) (h2 := xhp s) 5 (fun _ _ _ _ => rfl) (fun hc => ?_) (fun hc => ?_)
    · replace g := g.1 hc
      refine xW.seg (pc1 := 124) (L1 := [(10, vi (x5 + 13)), (9, vi x4), (8, vi 0), (0, vr 12 230), (1, vi x1), (2, vi x2), (3, vi x3), (4, vi x4), (5, vi x5), (6, vl x6)]) (st1 := []) (h1 := xhp s) 8 (fun _ _ _ _ => rfl) ?_
      exact xW.locs (L := [(0, vr 12 230), (1, vi x1), (2, vi x2), (3, vi x3), (5, vi x5), (6, vl x6), (8, vi 0), (9, vi x4), (10, vi (x5 + 13))]) ⟨rfl, rfl, rfl, rfl, rfl, rfl, rfl, rfl, rfl, trivial⟩ rfl g
    · replace g := g.2 hc
      refine xW.side (c := vp_in (x5 + 12) 256) (pc1 := 107) (L1 := [(0, vr 12 230), (1, vi x1), (2, vi x2), (3, vi x3), (4, vi x4), (5, vi x5), (6, vl x6), (8, vi x8)]) (st1 := [vi (gI s 242 ((x5 + 12).toNatClampNeg))]) (h1 := xhp s) 6 (fun _ _ _ _ => rfl) g.1 ?_
      replace g := g.2
      refine xW.seg (pc1 := 124) (L1 := [(10, vi (x5 + 13)), (9, vi x4), (8, vi (gI s 242 ((x5 + 12).toNatClampNeg))), (0, vr 12 230), (1, vi x1), (2, vi x2), (3, vi x3), (4, vi x4), (5, vi x5), (6, vl x6)]) (st1 := []) (h1 := xhp s) 8 (fun _ _ _ _ => rfl) ?_
      exact xW.locs (L := [(0, vr 12 230), (1, vi x1), (2, vi x2), (3, vi x3), (5, vi x5), (6, vl x6), (8, vi (gI s 242 ((x5 + 12).toNatClampNeg))), (9, vi x4), (10, vi (x5 + 13))]) ⟨rfl, rfl, rfl, rfl, rfl, rfl, rfl, rfl, rfl, trivial⟩ rfl g
  · replace g := g.2 hc
    refine xW.br (c := x3 ≤ x8) (pc1 := 77) (L1 := [(0, vr 12 230), (1, vi x1), (2, vi x2), (3, vi x3), (4, vi x4), (5, vi x5), (6, vl x6), (8, vi x8)]) (st1 := [vl (10 * x6)]) (h1 := xhp s) (pc2 := 67) (L2 := [(0, vr 12 230), (1, vi x1), (2, vi x2), (3, vi x3), (4, vi x4), (5, vi x5), (6, vl x6), (8, vi x8)]) (st2 := [vl (10 * x6)]) (h2 := xhp s) 6 (fun _ _ _ _ => rfl) (fun hc => ?_) (fun hc => ?_)
    · replace g := g.1 hc
      refine xW.seg (pc1 := 45) (L1 := [(8, vi (x8 + 1)), (6, vl ((10 * x6) + ((0 : Int32).toInt64))), (0, vr 12 230), (1, vi x1), (2, vi x2), (3, vi x3), (4, vi x4), (5, vi x5)]) (st1 := []) (h1 := xhp s) 6 (fun _ _ _ _ => rfl) ?_
      exact xW.locs (L := [(0, vr 12 230), (1, vi x1), (2, vi x2), (3, vi x3), (4, vi x4), (5, vi x5), (6, vl ((10 * x6) + ((0 : Int32).toInt64))), (8, vi (x8 + 1))]) ⟨rfl, rfl, rfl, rfl, rfl, rfl, rfl, rfl, trivial⟩ rfl g
    · replace g := g.2 hc
      refine xW.side (c := vp_in x8 256) (pc1 := 74) (L1 := [(0, vr 12 230), (1, vi x1), (2, vi x2), (3, vi x3), (4, vi x4), (5, vi x5), (6, vl x6), (8, vi x8)]) (st1 := [vi (gI s 242 x8.toNatClampNeg), vl (10 * x6)]) (h1 := xhp s) 4 (fun _ _ _ _ => rfl) g.1 ?_
      replace g := g.2
      refine xW.seg (pc1 := 45) (L1 := [(8, vi (x8 + 1)), (6, vl ((10 * x6) + ((gI s 242 x8.toNatClampNeg).toInt64))), (0, vr 12 230), (1, vi x1), (2, vi x2), (3, vi x3), (4, vi x4), (5, vi x5)]) (st1 := []) (h1 := xhp s) 6 (fun _ _ _ _ => rfl) ?_
      exact xW.locs (L := [(0, vr 12 230), (1, vi x1), (2, vi x2), (3, vi x3), (4, vi x4), (5, vi x5), (6, vl ((10 * x6) + ((gI s 242 x8.toNatClampNeg).toInt64))), (8, vi (x8 + 1))]) ⟨rfl, rfl, rfl, rfl, rfl, rfl, rfl, rfl, trivial⟩ rfl g
noncomputable def tm_round_45 : Nat → xS → Int32 → Int32 → Int32 → Int32 → Int32 → Int64 → Int32 → Int32 × xS
  | 0, s, _, _, _, _, _, _, _ => (0, s)
  | n + 1, s, x1, x2, x3, x4, x5, x6, x8 => (if (x5 + 12) ≤ x8 then (if x3 ≤ (x5 + 12) then (tm_round_124 xfu s x1 x2 x3 x5 x6 0 x4 (x5 + 13)) else (tm_round_124 xfu s x1 x2 x3 x5 x6 (gI s 242 ((x5 + 12).toNatClampNeg)) x4 (x5 + 13))) else (if x3 ≤ x8 then (tm_round_45 n s x1 x2 x3 x4 x5 ((10 * x6) + ((0 : Int32).toInt64)) (x8 + 1)) else (tm_round_45 n s x1 x2 x3 x4 x5 ((10 * x6) + ((gI s 242 x8.toNatClampNeg).toInt64)) (x8 + 1))))
def tm_round_45_ok : Nat → xS → Int32 → Int32 → Int32 → Int32 → Int32 → Int64 → Int32 → Prop
  | 0, _, _, _, _, _, _, _, _ => False
  | n + 1, s, x1, x2, x3, x4, x5, x6, x8 => (((x5 + 12) ≤ x8 → ((x3 ≤ (x5 + 12) → (tm_round_124_ok xfu s x1 x2 x3 x5 x6 0 x4 (x5 + 13))) ∧ (¬ (x3 ≤ (x5 + 12)) → ((vp_in (x5 + 12) 256) ∧ (tm_round_124_ok xfu s x1 x2 x3 x5 x6 (gI s 242 ((x5 + 12).toNatClampNeg)) x4 (x5 + 13)))))) ∧ (¬ ((x5 + 12) ≤ x8) → ((x3 ≤ x8 → (tm_round_45_ok n s x1 x2 x3 x4 x5 ((10 * x6) + ((0 : Int32).toInt64)) (x8 + 1))) ∧ (¬ (x3 ≤ x8) → ((vp_in x8 256) ∧ (tm_round_45_ok n s x1 x2 x3 x4 x5 ((10 * x6) + ((gI s 242 x8.toNatClampNeg).toInt64)) (x8 + 1)))))))
set_option maxRecDepth 100000 in
theorem n35_45 {xs : Nat → Int32} {Ls : Nat} {Φ : Option xV → xH → Prop} : ∀ (n : Nat) (s : xS) (x1 : Int32) (x2 : Int32) (x3 : Int32) (x4 : Int32) (x5 : Int32) (x6 : Int64) (x8 : Int32), tm_round_45_ok n s x1 x2 x3 x4 x5 x6 x8 → Φ (some (vi (tm_round_45 n s x1 x2 x3 x4 x5 x6 x8).1)) (xhp (tm_round_45 n s x1 x2 x3 x4 x5 x6 x8).2) → xW (xX0 xs Ls) p35 45 [(0, vr 12 230), (1, vi x1), (2, vi x2), (3, vi x3), (4, vi x4), (5, vi x5), (6, vl x6), (8, vi x8)] [] (xhp s) Φ := by
  intro n
  induction n with
  | zero => intro s _ _ _ _ _ _ _ gq; exact gq.elim
  | succ n ih =>
    intro s x1 x2 x3 x4 x5 x6 x8 gq h
    unfold tm_round_45_ok at gq
    unfold tm_round_45 at h
    exact b35_45 s x1 x2 x3 x4 x5 x6 x8 (⟨fun hc => by rw [if_pos hc] at h; replace gq := gq.1 hc; exact ⟨fun hc => by rw [if_pos hc] at h; replace gq := gq.1 hc; exact n35_124 _ _ _ _ _ _ _ _ _ _ gq h, fun hc => by rw [if_neg hc] at h; replace gq := gq.2 hc; exact ⟨gq.1, by replace gq := gq.2; exact n35_124 _ _ _ _ _ _ _ _ _ _ gq h⟩⟩, fun hc => by rw [if_neg hc] at h; replace gq := gq.2 hc; exact ⟨fun hc => by rw [if_pos hc] at h; replace gq := gq.1 hc; exact ih _ _ _ _ _ _ _ _ gq h, fun hc => by rw [if_neg hc] at h; replace gq := gq.2 hc; exact ⟨gq.1, by replace gq := gq.2; exact ih _ _ _ _ _ _ _ _ gq h⟩⟩⟩)
set_option maxRecDepth 100000 in
theorem b35_25 {xs : Nat → Int32} {Ls : Nat} {Φ : Option xV → xH → Prop} (s : xS) (x1 : Int32) (x2 : Int32) (x3 : Int32) (x4 : Int32) (x5 : Int32) (g : ((¬ x5 = x3 → xW (xX0 xs Ls) p35 45 [(0, vr 12 230), (1, vi x1), (2, vi x2), (3, vi x3), (4, vi x4), (5, vi x5), (6, vl 0), (8, vi x5)] [] (xhp s) Φ) ∧ (x5 = x3 → Φ (some (vi 0)) (xhp (sI s 230 29 0))))) : xW (xX0 xs Ls) p35 25 [(0, vr 12 230), (1, vi x1), (2, vi x2), (3, vi x3), (4, vi x4), (5, vi x5)] [] (xhp s) Φ := by
  refine xW.br (c := ¬ x5 = x3) (pc1 := 38) (L1 := [(0, vr 12 230), (1, vi x1), (2, vi x2), (3, vi x3), (4, vi x4), (5, vi x5)]) (st1 := []) (h1 := xhp s) (pc2 := 31) (L2 := [(0, vr 12 230), (1, vi x1), (2, vi x2), (3, vi x3), (4, vi x4), (5, vi x5)]) (st2 := []) (h2 := xhp s) 3 (fun _ _ _ _ => rfl) (fun hc => ?_) (fun hc => ?_)
  · replace g := g.1 hc
    refine xW.seg (pc1 := 45) (L1 := [(8, vi x5), (6, vl 0), (0, vr 12 230), (1, vi x1), (2, vi x2), (3, vi x3), (4, vi x4), (5, vi x5)]) (st1 := []) (h1 := xhp s) 4 (fun _ _ _ _ => rfl) ?_
    exact xW.locs (L := [(0, vr 12 230), (1, vi x1), (2, vi x2), (3, vi x3), (4, vi x4), (5, vi x5), (6, vl 0), (8, vi x5)]) ⟨rfl, rfl, rfl, rfl, rfl, rfl, rfl, rfl, trivial⟩ rfl g
  · replace g := g.2 (Decidable.not_not.mp hc)
    exact xW.ret (v0 := some (vi 0)) (h1 := xhp (sI s 230 29 0)) 5 (fun _ _ _ _ => rfl) g
noncomputable def tm_round_25_d (s : xS) (x1 : Int32) (x2 : Int32) (x3 : Int32) (x4 : Int32) (x5 : Int32) : Int32 × xS := (if ¬ x5 = x3 then (tm_round_45 xfu s x1 x2 x3 x4 x5 0 x5) else (0, (sI s 230 29 0)))
noncomputable def tm_round_25 : xS → Int32 → Int32 → Int32 → Int32 → Int32 → Int32 × xS := Classical.choose (⟨tm_round_25_d, rfl⟩ : ∃ f, f = tm_round_25_d)
set_option maxRecDepth 100000 in
theorem tm_round_25_eq : tm_round_25 = tm_round_25_d := Classical.choose_spec (⟨tm_round_25_d, rfl⟩ : ∃ f, f = tm_round_25_d)
def tm_round_25_ok (s : xS) (x1 : Int32) (x2 : Int32) (x3 : Int32) (x4 : Int32) (x5 : Int32) : Prop := (¬ x5 = x3 → (tm_round_45_ok xfu s x1 x2 x3 x4 x5 0 x5))
set_option maxRecDepth 100000 in
theorem n35_25 {xs : Nat → Int32} {Ls : Nat} {Φ : Option xV → xH → Prop} (s : xS) (x1 : Int32) (x2 : Int32) (x3 : Int32) (x4 : Int32) (x5 : Int32) (gq : tm_round_25_ok s x1 x2 x3 x4 x5) (h : Φ (some (vi (tm_round_25 s x1 x2 x3 x4 x5).1)) (xhp (tm_round_25 s x1 x2 x3 x4 x5).2)) : xW (xX0 xs Ls) p35 25 [(0, vr 12 230), (1, vi x1), (2, vi x2), (3, vi x3), (4, vi x4), (5, vi x5)] [] (xhp s) Φ := by
  rw [tm_round_25_eq] at h
  unfold tm_round_25_d at h
  unfold tm_round_25_ok at gq
  exact b35_25 s x1 x2 x3 x4 x5 (⟨fun hc => by rw [if_pos hc] at h; replace gq := gq hc; exact n35_45 _ _ _ _ _ _ _ _ _ gq h, fun hc => by rw [if_neg (fun z => z hc)] at h; exact (by (try dsimp only at h); exact h)⟩)
set_option maxRecDepth 100000 in
theorem b35_3 {xs : Nat → Int32} {Ls : Nat} {Φ : Option xV → xH → Prop} (s : xS) (x1 : Int32) (x2 : Int32) (x3 : Int32) (x4 : Int32) (x5 : Int32) (g : ((x3 ≤ x5 → xW (xX0 xs Ls) p35 25 [(0, vr 12 230), (1, vi x1), (2, vi x2), (3, vi x3), (4, vi x4), (5, vi x5)] [] (xhp s) Φ) ∧ (¬ (x3 ≤ x5) → ((vp_in x5 256) ∧ ((¬ (gI s 242 x5.toNatClampNeg) = 0 → xW (xX0 xs Ls) p35 25 [(0, vr 12 230), (1, vi x1), (2, vi x2), (3, vi x3), (4, vi x4), (5, vi x5)] [] (xhp s) Φ) ∧ ((gI s 242 x5.toNatClampNeg) = 0 → xW (xX0 xs Ls) p35 3 [(0, vr 12 230), (1, vi x1), (2, vi x2), (3, vi x3), (4, vi x4), (5, vi (x5 + 1))] [] (xhp s) Φ)))))) : xW (xX0 xs Ls) p35 3 [(0, vr 12 230), (1, vi x1), (2, vi x2), (3, vi x3), (4, vi x4), (5, vi x5)] [] (xhp s) Φ := by
  refine xW.br (c := x3 ≤ x5) (pc1 := 25) (L1 := [(0, vr 12 230), (1, vi x1), (2, vi x2), (3, vi x3), (4, vi x4), (5, vi x5)]) (st1 := []) (h1 := xhp s) (pc2 := 9) (L2 := [(0, vr 12 230), (1, vi x1), (2, vi x2), (3, vi x3), (4, vi x4), (5, vi x5)]) (st2 := []) (h2 := xhp s) 3 (fun _ _ _ _ => rfl) (fun hc => ?_) (fun hc => ?_)
  · replace g := g.1 hc
    exact g
  · replace g := g.2 hc
    refine xW.side (c := vp_in x5 256) (pc1 := 16) (L1 := [(0, vr 12 230), (1, vi x1), (2, vi x2), (3, vi x3), (4, vi x4), (5, vi x5)]) (st1 := [vi (gI s 242 x5.toNatClampNeg)]) (h1 := xhp s) 4 (fun _ _ _ _ => rfl) g.1 ?_
    replace g := g.2
    refine xW.br (c := ¬ (gI s 242 x5.toNatClampNeg) = 0) (pc1 := 25) (L1 := [(0, vr 12 230), (1, vi x1), (2, vi x2), (3, vi x3), (4, vi x4), (5, vi x5)]) (st1 := []) (h1 := xhp s) (pc2 := 19) (L2 := [(0, vr 12 230), (1, vi x1), (2, vi x2), (3, vi x3), (4, vi x4), (5, vi x5)]) (st2 := []) (h2 := xhp s) 1 (fun _ _ _ _ => rfl) (fun hc => ?_) (fun hc => ?_)
    · replace g := g.1 hc
      exact g
    · replace g := g.2 (Decidable.not_not.mp hc)
      refine xW.seg (pc1 := 3) (L1 := [(5, vi (x5 + 1)), (0, vr 12 230), (1, vi x1), (2, vi x2), (3, vi x3), (4, vi x4)]) (st1 := []) (h1 := xhp s) 2 (fun _ _ _ _ => rfl) ?_
      exact xW.locs (L := [(0, vr 12 230), (1, vi x1), (2, vi x2), (3, vi x3), (4, vi x4), (5, vi (x5 + 1))]) ⟨rfl, rfl, rfl, rfl, rfl, rfl, trivial⟩ rfl g
noncomputable def tm_round_3 : Nat → xS → Int32 → Int32 → Int32 → Int32 → Int32 → Int32 × xS
  | 0, s, _, _, _, _, _ => (0, s)
  | n + 1, s, x1, x2, x3, x4, x5 => (if x3 ≤ x5 then (tm_round_25 s x1 x2 x3 x4 x5) else (if ¬ (gI s 242 x5.toNatClampNeg) = 0 then (tm_round_25 s x1 x2 x3 x4 x5) else (tm_round_3 n s x1 x2 x3 x4 (x5 + 1))))
def tm_round_3_ok : Nat → xS → Int32 → Int32 → Int32 → Int32 → Int32 → Prop
  | 0, _, _, _, _, _, _ => False
  | n + 1, s, x1, x2, x3, x4, x5 => ((x3 ≤ x5 → (tm_round_25_ok s x1 x2 x3 x4 x5)) ∧ (¬ (x3 ≤ x5) → ((vp_in x5 256) ∧ ((¬ (gI s 242 x5.toNatClampNeg) = 0 → (tm_round_25_ok s x1 x2 x3 x4 x5)) ∧ ((gI s 242 x5.toNatClampNeg) = 0 → (tm_round_3_ok n s x1 x2 x3 x4 (x5 + 1)))))))
set_option maxRecDepth 100000 in
theorem n35_3 {xs : Nat → Int32} {Ls : Nat} {Φ : Option xV → xH → Prop} : ∀ (n : Nat) (s : xS) (x1 : Int32) (x2 : Int32) (x3 : Int32) (x4 : Int32) (x5 : Int32), tm_round_3_ok n s x1 x2 x3 x4 x5 → Φ (some (vi (tm_round_3 n s x1 x2 x3 x4 x5).1)) (xhp (tm_round_3 n s x1 x2 x3 x4 x5).2) → xW (xX0 xs Ls) p35 3 [(0, vr 12 230), (1, vi x1), (2, vi x2), (3, vi x3), (4, vi x4), (5, vi x5)] [] (xhp s) Φ := by
  intro n
  induction n with
  | zero => intro s _ _ _ _ _ gq; exact gq.elim
  | succ n ih =>
    intro s x1 x2 x3 x4 x5 gq h
    unfold tm_round_3_ok at gq
    unfold tm_round_3 at h
    exact b35_3 s x1 x2 x3 x4 x5 (⟨fun hc => by rw [if_pos hc] at h; replace gq := gq.1 hc; exact n35_25 _ _ _ _ _ _ gq h, fun hc => by rw [if_neg hc] at h; replace gq := gq.2 hc; exact ⟨gq.1, by replace gq := gq.2; exact ⟨fun hc => by rw [if_pos hc] at h; replace gq := gq.1 hc; exact n35_25 _ _ _ _ _ _ gq h, fun hc => by rw [if_neg (fun z => z hc)] at h; replace gq := gq.2 hc; exact ih _ _ _ _ _ _ gq h⟩⟩⟩)
set_option maxRecDepth 100000 in
theorem b35_0 {xs : Nat → Int32} {Ls : Nat} {Φ : Option xV → xH → Prop} (s : xS) (z : Int32) (f : Int32) (c : Int32) (m : Int32) (g : xW (xX0 xs Ls) p35 3 [(0, vr 12 230), (1, vi z), (2, vi f), (3, vi c), (4, vi m), (5, vi 0)] [] (xhp s) Φ) : xW (xX0 xs Ls) p35 0 [(0, vr 12 230), (1, vi z), (2, vi f), (3, vi c), (4, vi m)] [] (xhp s) Φ := by
  refine xW.seg (pc1 := 3) (L1 := [(5, vi 0), (0, vr 12 230), (1, vi z), (2, vi f), (3, vi c), (4, vi m)]) (st1 := []) (h1 := xhp s) 2 (fun _ _ _ _ => rfl) ?_
  exact xW.locs (L := [(0, vr 12 230), (1, vi z), (2, vi f), (3, vi c), (4, vi m), (5, vi 0)]) ⟨rfl, rfl, rfl, rfl, rfl, rfl, trivial⟩ rfl g
noncomputable def tm_round_d (s : xS) (z : Int32) (f : Int32) (c : Int32) (m : Int32) : Int32 × xS := (tm_round_3 xfu s z f c m 0)
noncomputable def tm_round : xS → Int32 → Int32 → Int32 → Int32 → Int32 × xS := Classical.choose (⟨tm_round_d, rfl⟩ : ∃ f, f = tm_round_d)
set_option maxRecDepth 100000 in
theorem tm_round_eq : tm_round = tm_round_d := Classical.choose_spec (⟨tm_round_d, rfl⟩ : ∃ f, f = tm_round_d)
def tm_round_ok (s : xS) (z : Int32) (f : Int32) (c : Int32) (m : Int32) : Prop := (tm_round_3_ok xfu s z f c m 0)
set_option maxRecDepth 100000 in
theorem m35 {xs : Nat → Int32} {Ls : Nat} {Ψ : xO → xH → Prop} (s : xS) (z : Int32) (f : Int32) (c : Int32) (m : Int32) (gq : tm_round_ok s z f c m) (h : Ψ (.inl (some (vi (tm_round s z f c m).1))) (xhp (tm_round s z f c m).2)) : xM (xX0 xs Ls) 35 [vr 12 230, vi z, vi f, vi c, vi m] (xhp s) Ψ := by
  rw [tm_round_eq] at h
  unfold tm_round_d at h
  unfold tm_round_ok at gq
  exact xM.of (P := p35) rfl rfl rfl (b35_0 s z f c m (n35_3 _ _ _ _ _ _ _ gq h))
/-! tm_lay -/
theorem b36_7 {xs : Nat → Int32} {Ls : Nat} {Φ : Option xV → xH → Prop} (s : xS) (x3 : Int32) (x4 : Int32) (x5 : Int64) (x7 : Int32) (g : ((x7 < 0 → Φ none (xhp s)) ∧ (¬ (x7 < 0) → ((vp_in ((100 - x3) + x7) 256) ∧ ((vp_in ((100 - x3) + x7) 256) ∧ xW (xX0 xs Ls) p36 7 [(0, vr 12 230), (3, vi x3), (4, vi x4), (5, vl (x5 / 10)), (7, vi (x7 + (-1)))] [] (xhp (sI s 242 (((100 - x3) + x7).toNatClampNeg) ((gI s 242 (((100 - x3) + x7).toNatClampNeg)) + (x4 * ((x5 - x5 / 10 * 10).toInt32))))) Φ))))) : xW (xX0 xs Ls) p36 7 [(0, vr 12 230), (3, vi x3), (4, vi x4), (5, vl x5), (7, vi x7)] [] (xhp s) Φ := by
  refine xW.br (c := x7 < 0) (pc1 := 61) (L1 := [(0, vr 12 230), (3, vi x3), (4, vi x4), (5, vl x5), (7, vi x7)]) (st1 := []) (h1 := xhp s) (pc2 := 12) (L2 := [(0, vr 12 230), (3, vi x3), (4, vi x4), (5, vl x5), (7, vi x7)]) (st2 := []) (h2 := xhp s) 2 (fun _ _ _ _ => rfl) (fun hc => ?_) (fun hc => ?_)
  · replace g := g.1 hc
    exact xW.ret (v0 := none) (h1 := xhp s) 1 (fun _ _ _ _ => rfl) g
  · replace g := g.2 hc
    refine xW.side (c := vp_in ((100 - x3) + x7) 256) (pc1 := 35) (L1 := [(0, vr 12 230), (3, vi x3), (4, vi x4), (5, vl x5), (7, vi x7)]) (st1 := [vi (gI s 242 (((100 - x3) + x7).toNatClampNeg)), vi ((100 - x3) + x7), vr 40 242]) (h1 := xhp s) 15 (fun _ _ _ _ => rfl) g.1 ?_
    replace g := g.2
    refine xW.side (c := ¬ (10 : Int64) = 0) (pc1 := 43) (L1 := [(0, vr 12 230), (3, vi x3), (4, vi x4), (5, vl x5), (7, vi x7)]) (st1 := [vl (x5 - x5 / 10 * 10), vi x4, vi (gI s 242 (((100 - x3) + x7).toNatClampNeg)), vi ((100 - x3) + x7), vr 40 242]) (h1 := xhp s) 4 (fun _ _ _ _ => rfl) (by decide) ?_
    refine xW.side (c := vp_in ((100 - x3) + x7) 256) (pc1 := 47) (L1 := [(0, vr 12 230), (3, vi x3), (4, vi x4), (5, vl x5), (7, vi x7)]) (st1 := []) (h1 := xhp (sI s 242 (((100 - x3) + x7).toNatClampNeg) ((gI s 242 (((100 - x3) + x7).toNatClampNeg)) + (x4 * ((x5 - x5 / 10 * 10).toInt32))))) 4 (fun _ _ _ _ => rfl) g.1 ?_
    replace g := g.2
    refine xW.side (c := ¬ (10 : Int64) = 0) (pc1 := 53) (L1 := [(0, vr 12 230), (3, vi x3), (4, vi x4), (5, vl x5), (7, vi x7)]) (st1 := [vl (x5 / 10)]) (h1 := xhp (sI s 242 (((100 - x3) + x7).toNatClampNeg) ((gI s 242 (((100 - x3) + x7).toNatClampNeg)) + (x4 * ((x5 - x5 / 10 * 10).toInt32))))) 3 (fun _ _ _ _ => rfl) (by decide) ?_
    refine xW.seg (pc1 := 7) (L1 := [(7, vi (x7 + (-1))), (5, vl (x5 / 10)), (0, vr 12 230), (3, vi x3), (4, vi x4)]) (st1 := []) (h1 := xhp (sI s 242 (((100 - x3) + x7).toNatClampNeg) ((gI s 242 (((100 - x3) + x7).toNatClampNeg)) + (x4 * ((x5 - x5 / 10 * 10).toInt32))))) 3 (fun _ _ _ _ => rfl) ?_
    exact xW.locs (L := [(0, vr 12 230), (3, vi x3), (4, vi x4), (5, vl (x5 / 10)), (7, vi (x7 + (-1)))]) ⟨rfl, rfl, rfl, rfl, rfl, trivial⟩ rfl g
noncomputable def tm_lay_7 : Nat → xS → Int32 → Int32 → Int64 → Int32 → xS
  | 0, s, _, _, _, _ => s
  | n + 1, s, x3, x4, x5, x7 => (if x7 < 0 then s else (tm_lay_7 n (sI s 242 (((100 - x3) + x7).toNatClampNeg) ((gI s 242 (((100 - x3) + x7).toNatClampNeg)) + (x4 * ((x5 - x5 / 10 * 10).toInt32)))) x3 x4 (x5 / 10) (x7 + (-1))))
def tm_lay_7_ok : Nat → xS → Int32 → Int32 → Int64 → Int32 → Prop
  | 0, _, _, _, _, _ => False
  | n + 1, s, x3, x4, x5, x7 => (¬ (x7 < 0) → ((vp_in ((100 - x3) + x7) 256) ∧ ((vp_in ((100 - x3) + x7) 256) ∧ (tm_lay_7_ok n (sI s 242 (((100 - x3) + x7).toNatClampNeg) ((gI s 242 (((100 - x3) + x7).toNatClampNeg)) + (x4 * ((x5 - x5 / 10 * 10).toInt32)))) x3 x4 (x5 / 10) (x7 + (-1))))))
set_option maxRecDepth 100000 in
theorem n36_7 {xs : Nat → Int32} {Ls : Nat} {Φ : Option xV → xH → Prop} : ∀ (n : Nat) (s : xS) (x3 : Int32) (x4 : Int32) (x5 : Int64) (x7 : Int32), tm_lay_7_ok n s x3 x4 x5 x7 → Φ none (xhp (tm_lay_7 n s x3 x4 x5 x7)) → xW (xX0 xs Ls) p36 7 [(0, vr 12 230), (3, vi x3), (4, vi x4), (5, vl x5), (7, vi x7)] [] (xhp s) Φ := by
  intro n
  induction n with
  | zero => intro s _ _ _ _ gq; exact gq.elim
  | succ n ih =>
    intro s x3 x4 x5 x7 gq h
    unfold tm_lay_7_ok at gq
    unfold tm_lay_7 at h
    exact b36_7 s x3 x4 x5 x7 (⟨fun hc => by rw [if_pos hc] at h; exact h, fun hc => by rw [if_neg hc] at h; replace gq := gq hc; exact ⟨gq.1, by replace gq := gq.2; exact ⟨gq.1, by replace gq := gq.2; exact ih _ _ _ _ _ gq h⟩⟩⟩)
set_option maxRecDepth 100000 in
theorem b36_0 {xs : Nat → Int32} {Ls : Nat} {Φ : Option xV → xH → Prop} (s : xS) (d : Int64) (e : Int32) (b : Int32) (g : xW (xX0 xs Ls) p36 7 [(0, vr 12 230), (3, vi e), (4, vi b), (5, vl d), (7, vi 11)] [] (xhp s) Φ) : xW (xX0 xs Ls) p36 0 [(0, vr 12 230), (1, vl d), (3, vi e), (4, vi b)] [] (xhp s) Φ := by
  refine xW.seg (pc1 := 7) (L1 := [(7, vi 11), (5, vl d), (0, vr 12 230), (1, vl d), (3, vi e), (4, vi b)]) (st1 := []) (h1 := xhp s) 4 (fun _ _ _ _ => rfl) ?_
  exact xW.locs (L := [(0, vr 12 230), (3, vi e), (4, vi b), (5, vl d), (7, vi 11)]) ⟨rfl, rfl, rfl, rfl, rfl, trivial⟩ rfl g
noncomputable def tm_lay_d (s : xS) (d : Int64) (e : Int32) (b : Int32) : xS := (tm_lay_7 xfu s e b d 11)
noncomputable def tm_lay : xS → Int64 → Int32 → Int32 → xS := Classical.choose (⟨tm_lay_d, rfl⟩ : ∃ f, f = tm_lay_d)
set_option maxRecDepth 100000 in
theorem tm_lay_eq : tm_lay = tm_lay_d := Classical.choose_spec (⟨tm_lay_d, rfl⟩ : ∃ f, f = tm_lay_d)
def tm_lay_ok (s : xS) (d : Int64) (e : Int32) (b : Int32) : Prop := (tm_lay_7_ok xfu s e b d 11)
set_option maxRecDepth 100000 in
theorem m36 {xs : Nat → Int32} {Ls : Nat} {Ψ : xO → xH → Prop} (s : xS) (d : Int64) (e : Int32) (b : Int32) (gq : tm_lay_ok s d e b) (h : Ψ (.inl none) (xhp (tm_lay s d e b))) : xM (xX0 xs Ls) 36 [vr 12 230, vl d, vi e, vi b] (xhp s) Ψ := by
  rw [tm_lay_eq] at h
  unfold tm_lay_d at h
  unfold tm_lay_ok at gq
  exact xM.of (P := p36) rfl rfl rfl (b36_0 s d e b (n36_7 _ _ _ _ _ _ gq h))
/-! tm_compare -/
theorem b37_0 {xs : Nat → Int32} {Ls : Nat} {Φ : Option xV → xH → Prop} (s : xS) (d : Int64) (e : Int32) (d2 : Int64) (e2 : Int32) (g : Φ (some (vi (if e = e2 then (if d2 ≤ d then (zb (!decide (d ≤ d2))) else (-1)) else (if e2 ≤ e then (1 : Int32) else (-1))))) (xhp s)) : xW (xX0 xs Ls) p37 0 [(0, vl d), (2, vi e), (3, vl d2), (5, vi e2)] [] (xhp s) Φ := by
  refine xW.seg (pc1 := 3) (L1 := [(0, vl d), (2, vi e), (3, vl d2), (5, vi e2)]) (st1 := [vi e2, vi e]) (h1 := xhp s) 2 (fun _ _ _ _ => rfl) ?_
  suffices J : xW (xX0 xs Ls) p37 41 [(0, vl d), (2, vi e), (3, vl d2), (5, vi e2)] [vi (if e = e2 then (if d2 ≤ d then (zb (!decide (d ≤ d2))) else (-1)) else (if e2 ≤ e then (1 : Int32) else (-1)))] (xhp s) Φ by
    refine xW.br (c := e = e2) (pc1 := 20) (L1 := [(0, vl d), (2, vi e), (3, vl d2), (5, vi e2)]) (st1 := []) (h1 := xhp s) (pc2 := 6) (L2 := [(0, vl d), (2, vi e), (3, vl d2), (5, vi e2)]) (st2 := []) (h2 := xhp s) 1 (fun _ _ _ _ => rfl) (fun hc => ?_) (fun hc => ?_)
    · have hc1 : e = e2 := hc
      refine xW.br (c := 0 ≤ (lg_cmp d d2)) (pc1 := 30) (L1 := [(0, vl d), (2, vi e), (3, vl d2), (5, vi e2)]) (st1 := []) (h1 := xhp s) (pc2 := 26) (L2 := [(0, vl d), (2, vi e), (3, vl d2), (5, vi e2)]) (st2 := []) (h2 := xhp s) 4 (fun _ _ _ _ => rfl) (fun hc => ?_) (fun hc => ?_)
      · have hc2 : d2 ≤ d := (lc_ge.mp hc)
        refine xW.br (c := (lg_cmp d d2) ≤ 0) (pc1 := 40) (L1 := [(0, vl d), (2, vi e), (3, vl d2), (5, vi e2)]) (st1 := []) (h1 := xhp s) (pc2 := 36) (L2 := [(0, vl d), (2, vi e), (3, vl d2), (5, vi e2)]) (st2 := []) (h2 := xhp s) 4 (fun _ _ _ _ => rfl) (fun hc => ?_) (fun hc => ?_)
        · have hc3 : d ≤ d2 := (lc_le.mp hc)
          refine xW.seg (pc1 := 41) (L1 := [(0, vl d), (2, vi e), (3, vl d2), (5, vi e2)]) (st1 := [vi 0]) (h1 := xhp s) 1 (fun _ _ _ _ => rfl) ?_
          refine xW.to (v := vi (if e = e2 then (if d2 ≤ d then (zb (!decide (d ≤ d2))) else (-1)) else (if e2 ≤ e then (1 : Int32) else (-1)))) ((congrArg vi ((if_pos hc1).trans ((if_pos hc2).trans (show zb (!decide (d ≤ d2)) = 0 by rw [decide_eq_true hc3]; rfl)))).symm) ?_
          exact J
        · have hc3 : ¬ (d ≤ d2) := (fun q => hc (lc_le.mpr q))
          refine xW.seg (pc1 := 41) (L1 := [(0, vl d), (2, vi e), (3, vl d2), (5, vi e2)]) (st1 := [vi 1]) (h1 := xhp s) 2 (fun _ _ _ _ => rfl) ?_
          refine xW.to (v := vi (if e = e2 then (if d2 ≤ d then (zb (!decide (d ≤ d2))) else (-1)) else (if e2 ≤ e then (1 : Int32) else (-1)))) ((congrArg vi ((if_pos hc1).trans ((if_pos hc2).trans (show zb (!decide (d ≤ d2)) = 1 by rw [decide_eq_false hc3]; rfl)))).symm) ?_
          exact J
      · have hc2 : ¬ (d2 ≤ d) := (fun q => hc (lc_ge.mpr q))
        refine xW.seg (pc1 := 41) (L1 := [(0, vl d), (2, vi e), (3, vl d2), (5, vi e2)]) (st1 := [vi (-1)]) (h1 := xhp s) 2 (fun _ _ _ _ => rfl) ?_
        refine xW.to (v := vi (if e = e2 then (if d2 ≤ d then (zb (!decide (d ≤ d2))) else (-1)) else (if e2 ≤ e then (1 : Int32) else (-1)))) ((congrArg vi ((if_pos hc1).trans (if_neg hc2))).symm) ?_
        exact J
    · have hc1 : ¬ (e = e2) := hc
      refine xW.br (c := e2 ≤ e) (pc1 := 16) (L1 := [(0, vl d), (2, vi e), (3, vl d2), (5, vi e2)]) (st1 := []) (h1 := xhp s) (pc2 := 12) (L2 := [(0, vl d), (2, vi e), (3, vl d2), (5, vi e2)]) (st2 := []) (h2 := xhp s) 3 (fun _ _ _ _ => rfl) (fun hc => ?_) (fun hc => ?_)
      · have hc4 : e2 ≤ e := hc
        refine xW.seg (pc1 := 41) (L1 := [(0, vl d), (2, vi e), (3, vl d2), (5, vi e2)]) (st1 := [vi 1]) (h1 := xhp s) 2 (fun _ _ _ _ => rfl) ?_
        refine xW.to (v := vi (if e = e2 then (if d2 ≤ d then (zb (!decide (d ≤ d2))) else (-1)) else (if e2 ≤ e then (1 : Int32) else (-1)))) ((congrArg vi ((if_neg hc1).trans (if_pos hc4))).symm) ?_
        exact J
      · have hc4 : ¬ (e2 ≤ e) := hc
        refine xW.seg (pc1 := 41) (L1 := [(0, vl d), (2, vi e), (3, vl d2), (5, vi e2)]) (st1 := [vi (-1)]) (h1 := xhp s) 2 (fun _ _ _ _ => rfl) ?_
        refine xW.to (v := vi (if e = e2 then (if d2 ≤ d then (zb (!decide (d ≤ d2))) else (-1)) else (if e2 ≤ e then (1 : Int32) else (-1)))) ((congrArg vi ((if_neg hc1).trans (if_neg hc4))).symm) ?_
        exact J
  exact xW.ret (v0 := some (vi (if e = e2 then (if d2 ≤ d then (zb (!decide (d ≤ d2))) else (-1)) else (if e2 ≤ e then (1 : Int32) else (-1))))) (h1 := xhp s) 1 (fun _ _ _ _ => rfl) g
noncomputable def tm_compare (d : Int64) (e : Int32) (d2 : Int64) (e2 : Int32) : Int32 := (if e = e2 then (if d2 ≤ d then (zb (!decide (d ≤ d2))) else (-1)) else (if e2 ≤ e then (1 : Int32) else (-1)))
set_option maxRecDepth 100000 in
theorem m37 {xs : Nat → Int32} {Ls : Nat} {Ψ : xO → xH → Prop} (s : xS) (d : Int64) (e : Int32) (d2 : Int64) (e2 : Int32) (h : Ψ (.inl (some (vi (tm_compare d e d2 e2)))) (xhp s)) : xM (xX0 xs Ls) 37 [vl d, vi e, vl d2, vi e2] (xhp s) Ψ := by
  unfold tm_compare at h
  exact xM.of (P := p37) rfl rfl rfl (b37_0 s d e d2 e2 (h))
/-! tm_add -/
theorem b38_98 {xs : Nat → Int32} {Ls : Nat} {Φ : Option xV → xH → Prop} (s : xS) (x10 : Int32) (x11 : Int32) (g : ((x11 ≤ 0 → ((tm_round_ok s x10 100 212 0) ∧ Φ (some (vi ((tm_round s x10 100 212 0).1))) (xhp ((tm_round s x10 100 212 0).2)))) ∧ (¬ (x11 ≤ 0) → ((vp_in x11 256) ∧ ((0 ≤ (gI s 242 x11.toNatClampNeg) → ((vp_in x11 256) ∧ (((gI s 242 x11.toNatClampNeg) ≤ 9 → ((vp_in x11 256) ∧ ((vp_in (x11 - 1) 256) ∧ ((vp_in x11 256) ∧ ((0 ≤ (gI s 242 x11.toNatClampNeg) → ((vp_in x11 256) ∧ ((vp_in (x11 - 1) 256) ∧ ((vp_in x11 256) ∧ xW (xX0 xs Ls) p38 98 [(0, vr 12 230), (10, vi x10), (11, vi (x11 + (-1)))] [] (xhp (sI (sI s 242 ((x11 - 1).toNatClampNeg) ((gI s 242 ((x11 - 1).toNatClampNeg)) + (zb (!decide ((gI s 242 x11.toNatClampNeg) ≤ 9))))) 242 x11.toNatClampNeg (gI s 242 x11.toNatClampNeg))) Φ)))) ∧ (¬ (0 ≤ (gI s 242 x11.toNatClampNeg)) → ((vp_in (x11 - 1) 256) ∧ ((vp_in x11 256) ∧ xW (xX0 xs Ls) p38 98 [(0, vr 12 230), (10, vi x10), (11, vi (x11 + (-1)))] [] (xhp (sI (sI s 242 ((x11 - 1).toNatClampNeg) ((gI s 242 ((x11 - 1).toNatClampNeg)) + (-1))) 242 x11.toNatClampNeg (gI s 242 x11.toNatClampNeg))) Φ)))))))) ∧ (¬ ((gI s 242 x11.toNatClampNeg) ≤ 9) → ((vp_in x11 256) ∧ ((vp_in (x11 - 1) 256) ∧ ((vp_in x11 256) ∧ ((0 ≤ (gI s 242 x11.toNatClampNeg) → ((vp_in x11 256) ∧ ((vp_in (x11 - 1) 256) ∧ ((vp_in x11 256) ∧ xW (xX0 xs Ls) p38 98 [(0, vr 12 230), (10, vi x10), (11, vi (x11 + (-1)))] [] (xhp (sI (sI s 242 ((x11 - 1).toNatClampNeg) ((gI s 242 ((x11 - 1).toNatClampNeg)) + (zb (!decide ((gI s 242 x11.toNatClampNeg) ≤ 9))))) 242 x11.toNatClampNeg ((gI s 242 x11.toNatClampNeg) - 10))) Φ)))) ∧ (¬ (0 ≤ (gI s 242 x11.toNatClampNeg)) → ((vp_in (x11 - 1) 256) ∧ ((vp_in x11 256) ∧ xW (xX0 xs Ls) p38 98 [(0, vr 12 230), (10, vi x10), (11, vi (x11 + (-1)))] [] (xhp (sI (sI s 242 ((x11 - 1).toNatClampNeg) ((gI s 242 ((x11 - 1).toNatClampNeg)) + (-1))) 242 x11.toNatClampNeg ((gI s 242 x11.toNatClampNeg) - 10))) Φ))))))))))) ∧ (¬ (0 ≤ (gI s 242 x11.toNatClampNeg)) → ((vp_in x11 256) ∧ ((vp_in (x11 - 1) 256) ∧ ((vp_in x11 256) ∧ ((0 ≤ (gI s 242 x11.toNatClampNeg) → ((vp_in x11 256) ∧ ((vp_in (x11 - 1) 256) ∧ ((vp_in x11 256) ∧ xW (xX0 xs Ls) p38 98 [(0, vr 12 230), (10, vi x10), (11, vi (x11 + (-1)))] [] (xhp (sI (sI s 242 ((x11 - 1).toNatClampNeg) ((gI s 242 ((x11 - 1).toNatClampNeg)) + (zb (!decide ((gI s 242 x11.toNatClampNeg) ≤ 9))))) 242 x11.toNatClampNeg ((gI s 242 x11.toNatClampNeg) + 10))) Φ)))) ∧ (¬ (0 ≤ (gI s 242 x11.toNatClampNeg)) → ((vp_in (x11 - 1) 256) ∧ ((vp_in x11 256) ∧ xW (xX0 xs Ls) p38 98 [(0, vr 12 230), (10, vi x10), (11, vi (x11 + (-1)))] [] (xhp (sI (sI s 242 ((x11 - 1).toNatClampNeg) ((gI s 242 ((x11 - 1).toNatClampNeg)) + (-1))) 242 x11.toNatClampNeg ((gI s 242 x11.toNatClampNeg) + 10))) Φ))))))))))))) : xW (xX0 xs Ls) p38 98 [(0, vr 12 230), (10, vi x10), (11, vi x11)] [] (xhp s) Φ := by
  refine xW.br (c := x11 ≤ 0) (pc1 := 225) (L1 := [(0, vr 12 230), (10, vi x10), (11, vi x11)]) (st1 := []) (h1 := xhp s) (pc2 := 103) (L2 := [(0, vr 12 230), (10, vi x10), (11, vi x11)]) (st2 := []) (h2 := xhp s) 2 (fun _ _ _ _ => rfl) (fun hc => ?_) (fun hc => ?_)
  · replace g := g.1 hc
    refine xW.call (y := 35) (as := [vr 12 230, vi x10, vi 100, vi 212, vi 0]) (h0 := xhp s) (pc0 := 234) (len := 3) (L0 := [(0, vr 12 230), (10, vi x10), (11, vi x11)]) (rest := []) 6 (fun _ _ _ _ => rfl) (m35 _ _ _ _ _ g.1 ?_)
    show xW (xX0 xs Ls) p38 237 [(0, vr 12 230), (10, vi x10), (11, vi x11)] [vi ((tm_round s x10 100 212 0).1)] (xhp ((tm_round s x10 100 212 0).2)) Φ
    replace g := g.2
    exact xW.ret (v0 := some (vi ((tm_round s x10 100 212 0).1))) (h1 := xhp ((tm_round s x10 100 212 0).2)) 1 (fun _ _ _ _ => rfl) g
  · replace g := g.2 hc
    refine xW.side (c := vp_in x11 256) (pc1 := 110) (L1 := [(0, vr 12 230), (10, vi x10), (11, vi x11)]) (st1 := [vi (gI s 242 x11.toNatClampNeg)]) (h1 := xhp s) 4 (fun _ _ _ _ => rfl) g.1 ?_
    replace g := g.2
    refine xW.br (c := 0 ≤ (gI s 242 x11.toNatClampNeg)) (pc1 := 126) (L1 := [(0, vr 12 230), (10, vi x10), (11, vi x11)]) (st1 := []) (h1 := xhp s) (pc2 := 113) (L2 := [(0, vr 12 230), (10, vi x10), (11, vi x11)]) (st2 := []) (h2 := xhp s) 1 (fun _ _ _ _ => rfl) (fun hc => ?_) (fun hc => ?_)
    · replace g := g.1 hc
      refine xW.side (c := vp_in x11 256) (pc1 := 133) (L1 := [(0, vr 12 230), (10, vi x10), (11, vi x11)]) (st1 := [vi (gI s 242 x11.toNatClampNeg)]) (h1 := xhp s) 4 (fun _ _ _ _ => rfl) g.1 ?_
      replace g := g.2
      refine xW.br (c := (gI s 242 x11.toNatClampNeg) ≤ 9) (pc1 := 151) (L1 := [(0, vr 12 230), (10, vi x10), (11, vi x11)]) (st1 := []) (h1 := xhp s) (pc2 := 138) (L2 := [(0, vr 12 230), (10, vi x10), (11, vi x11)]) (st2 := []) (h2 := xhp s) 2 (fun _ _ _ _ => rfl) (fun hc => ?_) (fun hc => ?_)
      · replace g := g.1 hc
        refine xW.side (c := vp_in x11 256) (pc1 := 158) (L1 := [(0, vr 12 230), (10, vi x10), (11, vi x11)]) (st1 := [vi (gI s 242 x11.toNatClampNeg)]) (h1 := xhp s) 4 (fun _ _ _ _ => rfl) g.1 ?_
        replace g := g.2
        refine xW.side (c := vp_in (x11 - 1) 256) (pc1 := 177) (L1 := [(12, vi (gI s 242 x11.toNatClampNeg)), (0, vr 12 230), (10, vi x10), (11, vi x11)]) (st1 := [vi (gI s 242 ((x11 - 1).toNatClampNeg)), vi (x11 - 1), vr 40 242]) (h1 := xhp s) 12 (fun _ _ _ _ => rfl) g.1 ?_
        replace g := g.2
        refine xW.side (c := vp_in x11 256) (pc1 := 184) (L1 := [(12, vi (gI s 242 x11.toNatClampNeg)), (0, vr 12 230), (10, vi x10), (11, vi x11)]) (st1 := [vi (gI s 242 x11.toNatClampNeg), vi (gI s 242 ((x11 - 1).toNatClampNeg)), vi (x11 - 1), vr 40 242]) (h1 := xhp s) 4 (fun _ _ _ _ => rfl) g.1 ?_
        replace g := g.2
        refine xW.br (c := 0 ≤ (gI s 242 x11.toNatClampNeg)) (pc1 := 191) (L1 := [(12, vi (gI s 242 x11.toNatClampNeg)), (0, vr 12 230), (10, vi x10), (11, vi x11)]) (st1 := [vi (gI s 242 ((x11 - 1).toNatClampNeg)), vi (x11 - 1), vr 40 242]) (h1 := xhp s) (pc2 := 187) (L2 := [(12, vi (gI s 242 x11.toNatClampNeg)), (0, vr 12 230), (10, vi x10), (11, vi x11)]) (st2 := [vi (gI s 242 ((x11 - 1).toNatClampNeg)), vi (x11 - 1), vr 40 242]) (h2 := xhp s) 1 (fun _ _ _ _ => rfl) (fun hc => ?_) (fun hc => ?_)
        · replace g := g.1 hc
          refine xW.side (c := vp_in x11 256) (pc1 := 198) (L1 := [(12, vi (gI s 242 x11.toNatClampNeg)), (0, vr 12 230), (10, vi x10), (11, vi x11)]) (st1 := [vi (gI s 242 x11.toNatClampNeg), vi (gI s 242 ((x11 - 1).toNatClampNeg)), vi (x11 - 1), vr 40 242]) (h1 := xhp s) 4 (fun _ _ _ _ => rfl) g.1 ?_
          replace g := g.2
          refine xW.seg (pc1 := 200) (L1 := [(12, vi (gI s 242 x11.toNatClampNeg)), (0, vr 12 230), (10, vi x10), (11, vi x11)]) (st1 := [vi 9, vi (gI s 242 x11.toNatClampNeg), vi (gI s 242 ((x11 - 1).toNatClampNeg)), vi (x11 - 1), vr 40 242]) (h1 := xhp s) 1 (fun _ _ _ _ => rfl) ?_
          suffices J : xW (xX0 xs Ls) p38 208 [(12, vi (gI s 242 x11.toNatClampNeg)), (0, vr 12 230), (10, vi x10), (11, vi x11)] [vi (zb (!decide ((gI s 242 x11.toNatClampNeg) ≤ 9))), vi (gI s 242 ((x11 - 1).toNatClampNeg)), vi (x11 - 1), vr 40 242] (xhp s) Φ by
            refine xW.br (c := (gI s 242 x11.toNatClampNeg) ≤ 9) (pc1 := 207) (L1 := [(12, vi (gI s 242 x11.toNatClampNeg)), (0, vr 12 230), (10, vi x10), (11, vi x11)]) (st1 := [vi (gI s 242 ((x11 - 1).toNatClampNeg)), vi (x11 - 1), vr 40 242]) (h1 := xhp s) (pc2 := 203) (L2 := [(12, vi (gI s 242 x11.toNatClampNeg)), (0, vr 12 230), (10, vi x10), (11, vi x11)]) (st2 := [vi (gI s 242 ((x11 - 1).toNatClampNeg)), vi (x11 - 1), vr 40 242]) (h2 := xhp s) 1 (fun _ _ _ _ => rfl) (fun hc => ?_) (fun hc => ?_)
            · have hc1 : (gI s 242 x11.toNatClampNeg) ≤ 9 := hc
              refine xW.seg (pc1 := 208) (L1 := [(12, vi (gI s 242 x11.toNatClampNeg)), (0, vr 12 230), (10, vi x10), (11, vi x11)]) (st1 := [vi 0, vi (gI s 242 ((x11 - 1).toNatClampNeg)), vi (x11 - 1), vr 40 242]) (h1 := xhp s) 1 (fun _ _ _ _ => rfl) ?_
              refine xW.to (v := vi (zb (!decide ((gI s 242 x11.toNatClampNeg) ≤ 9)))) (zb_f (by simp only [decide_eq_true hc1, Bool.true_or, Bool.or_true, Bool.false_or, Bool.or_false, Bool.true_and, Bool.and_true, Bool.false_and, Bool.and_false, Bool.not_true, Bool.not_false, cond_true, cond_false])) ?_
              exact J
            · have hc1 : ¬ ((gI s 242 x11.toNatClampNeg) ≤ 9) := hc
              refine xW.seg (pc1 := 208) (L1 := [(12, vi (gI s 242 x11.toNatClampNeg)), (0, vr 12 230), (10, vi x10), (11, vi x11)]) (st1 := [vi 1, vi (gI s 242 ((x11 - 1).toNatClampNeg)), vi (x11 - 1), vr 40 242]) (h1 := xhp s) 2 (fun _ _ _ _ => rfl) ?_
              refine xW.to (v := vi (zb (!decide ((gI s 242 x11.toNatClampNeg) ≤ 9)))) (zb_t (by simp only [decide_eq_false hc1, Bool.true_or, Bool.or_true, Bool.false_or, Bool.or_false, Bool.true_and, Bool.and_true, Bool.false_and, Bool.and_false, Bool.not_true, Bool.not_false, cond_true, cond_false])) ?_
              exact J
          refine xW.side (c := vp_in (x11 - 1) 256) (pc1 := 210) (L1 := [(12, vi (gI s 242 x11.toNatClampNeg)), (0, vr 12 230), (10, vi x10), (11, vi x11)]) (st1 := []) (h1 := xhp (sI s 242 ((x11 - 1).toNatClampNeg) ((gI s 242 ((x11 - 1).toNatClampNeg)) + (zb (!decide ((gI s 242 x11.toNatClampNeg) ≤ 9)))))) 2 (fun _ _ _ _ => rfl) g.1 ?_
          replace g := g.2
          refine xW.side (c := vp_in x11 256) (pc1 := 219) (L1 := [(12, vi (gI s 242 x11.toNatClampNeg)), (0, vr 12 230), (10, vi x10), (11, vi x11)]) (st1 := []) (h1 := xhp (sI (sI s 242 ((x11 - 1).toNatClampNeg) ((gI s 242 ((x11 - 1).toNatClampNeg)) + (zb (!decide ((gI s 242 x11.toNatClampNeg) ≤ 9))))) 242 x11.toNatClampNeg (gI s 242 x11.toNatClampNeg))) 5 (fun _ _ _ _ => rfl) g.1 ?_
          replace g := g.2
          refine xW.seg (pc1 := 98) (L1 := [(11, vi (x11 + (-1))), (12, vi (gI s 242 x11.toNatClampNeg)), (0, vr 12 230), (10, vi x10)]) (st1 := []) (h1 := xhp (sI (sI s 242 ((x11 - 1).toNatClampNeg) ((gI s 242 ((x11 - 1).toNatClampNeg)) + (zb (!decide ((gI s 242 x11.toNatClampNeg) ≤ 9))))) 242 x11.toNatClampNeg (gI s 242 x11.toNatClampNeg))) 2 (fun _ _ _ _ => rfl) ?_
          exact xW.locs (L := [(0, vr 12 230), (10, vi x10), (11, vi (x11 + (-1)))]) ⟨rfl, rfl, rfl, trivial⟩ rfl g
        · replace g := g.2 hc
          refine xW.side (c := vp_in (x11 - 1) 256) (pc1 := 210) (L1 := [(12, vi (gI s 242 x11.toNatClampNeg)), (0, vr 12 230), (10, vi x10), (11, vi x11)]) (st1 := []) (h1 := xhp (sI s 242 ((x11 - 1).toNatClampNeg) ((gI s 242 ((x11 - 1).toNatClampNeg)) + (-1)))) 4 (fun _ _ _ _ => rfl) g.1 ?_
          replace g := g.2
          refine xW.side (c := vp_in x11 256) (pc1 := 219) (L1 := [(12, vi (gI s 242 x11.toNatClampNeg)), (0, vr 12 230), (10, vi x10), (11, vi x11)]) (st1 := []) (h1 := xhp (sI (sI s 242 ((x11 - 1).toNatClampNeg) ((gI s 242 ((x11 - 1).toNatClampNeg)) + (-1))) 242 x11.toNatClampNeg (gI s 242 x11.toNatClampNeg))) 5 (fun _ _ _ _ => rfl) g.1 ?_
          replace g := g.2
          refine xW.seg (pc1 := 98) (L1 := [(11, vi (x11 + (-1))), (12, vi (gI s 242 x11.toNatClampNeg)), (0, vr 12 230), (10, vi x10)]) (st1 := []) (h1 := xhp (sI (sI s 242 ((x11 - 1).toNatClampNeg) ((gI s 242 ((x11 - 1).toNatClampNeg)) + (-1))) 242 x11.toNatClampNeg (gI s 242 x11.toNatClampNeg))) 2 (fun _ _ _ _ => rfl) ?_
          exact xW.locs (L := [(0, vr 12 230), (10, vi x10), (11, vi (x11 + (-1)))]) ⟨rfl, rfl, rfl, trivial⟩ rfl g
      · replace g := g.2 hc
        refine xW.side (c := vp_in x11 256) (pc1 := 145) (L1 := [(0, vr 12 230), (10, vi x10), (11, vi x11)]) (st1 := [vi (gI s 242 x11.toNatClampNeg)]) (h1 := xhp s) 4 (fun _ _ _ _ => rfl) g.1 ?_
        replace g := g.2
        refine xW.side (c := vp_in (x11 - 1) 256) (pc1 := 177) (L1 := [(12, vi ((gI s 242 x11.toNatClampNeg) - 10)), (0, vr 12 230), (10, vi x10), (11, vi x11)]) (st1 := [vi (gI s 242 ((x11 - 1).toNatClampNeg)), vi (x11 - 1), vr 40 242]) (h1 := xhp s) 15 (fun _ _ _ _ => rfl) g.1 ?_
        replace g := g.2
        refine xW.side (c := vp_in x11 256) (pc1 := 184) (L1 := [(12, vi ((gI s 242 x11.toNatClampNeg) - 10)), (0, vr 12 230), (10, vi x10), (11, vi x11)]) (st1 := [vi (gI s 242 x11.toNatClampNeg), vi (gI s 242 ((x11 - 1).toNatClampNeg)), vi (x11 - 1), vr 40 242]) (h1 := xhp s) 4 (fun _ _ _ _ => rfl) g.1 ?_
        replace g := g.2
        refine xW.br (c := 0 ≤ (gI s 242 x11.toNatClampNeg)) (pc1 := 191) (L1 := [(12, vi ((gI s 242 x11.toNatClampNeg) - 10)), (0, vr 12 230), (10, vi x10), (11, vi x11)]) (st1 := [vi (gI s 242 ((x11 - 1).toNatClampNeg)), vi (x11 - 1), vr 40 242]) (h1 := xhp s) (pc2 := 187) (L2 := [(12, vi ((gI s 242 x11.toNatClampNeg) - 10)), (0, vr 12 230), (10, vi x10), (11, vi x11)]) (st2 := [vi (gI s 242 ((x11 - 1).toNatClampNeg)), vi (x11 - 1), vr 40 242]) (h2 := xhp s) 1 (fun _ _ _ _ => rfl) (fun hc => ?_) (fun hc => ?_)
        · replace g := g.1 hc
          refine xW.side (c := vp_in x11 256) (pc1 := 198) (L1 := [(12, vi ((gI s 242 x11.toNatClampNeg) - 10)), (0, vr 12 230), (10, vi x10), (11, vi x11)]) (st1 := [vi (gI s 242 x11.toNatClampNeg), vi (gI s 242 ((x11 - 1).toNatClampNeg)), vi (x11 - 1), vr 40 242]) (h1 := xhp s) 4 (fun _ _ _ _ => rfl) g.1 ?_
          replace g := g.2
          refine xW.seg (pc1 := 200) (L1 := [(12, vi ((gI s 242 x11.toNatClampNeg) - 10)), (0, vr 12 230), (10, vi x10), (11, vi x11)]) (st1 := [vi 9, vi (gI s 242 x11.toNatClampNeg), vi (gI s 242 ((x11 - 1).toNatClampNeg)), vi (x11 - 1), vr 40 242]) (h1 := xhp s) 1 (fun _ _ _ _ => rfl) ?_
          suffices J : xW (xX0 xs Ls) p38 208 [(12, vi ((gI s 242 x11.toNatClampNeg) - 10)), (0, vr 12 230), (10, vi x10), (11, vi x11)] [vi (zb (!decide ((gI s 242 x11.toNatClampNeg) ≤ 9))), vi (gI s 242 ((x11 - 1).toNatClampNeg)), vi (x11 - 1), vr 40 242] (xhp s) Φ by
            refine xW.br (c := (gI s 242 x11.toNatClampNeg) ≤ 9) (pc1 := 207) (L1 := [(12, vi ((gI s 242 x11.toNatClampNeg) - 10)), (0, vr 12 230), (10, vi x10), (11, vi x11)]) (st1 := [vi (gI s 242 ((x11 - 1).toNatClampNeg)), vi (x11 - 1), vr 40 242]) (h1 := xhp s) (pc2 := 203) (L2 := [(12, vi ((gI s 242 x11.toNatClampNeg) - 10)), (0, vr 12 230), (10, vi x10), (11, vi x11)]) (st2 := [vi (gI s 242 ((x11 - 1).toNatClampNeg)), vi (x11 - 1), vr 40 242]) (h2 := xhp s) 1 (fun _ _ _ _ => rfl) (fun hc => ?_) (fun hc => ?_)
            · have hc2 : (gI s 242 x11.toNatClampNeg) ≤ 9 := hc
              refine xW.seg (pc1 := 208) (L1 := [(12, vi ((gI s 242 x11.toNatClampNeg) - 10)), (0, vr 12 230), (10, vi x10), (11, vi x11)]) (st1 := [vi 0, vi (gI s 242 ((x11 - 1).toNatClampNeg)), vi (x11 - 1), vr 40 242]) (h1 := xhp s) 1 (fun _ _ _ _ => rfl) ?_
              refine xW.to (v := vi (zb (!decide ((gI s 242 x11.toNatClampNeg) ≤ 9)))) (zb_f (by simp only [decide_eq_true hc2, Bool.true_or, Bool.or_true, Bool.false_or, Bool.or_false, Bool.true_and, Bool.and_true, Bool.false_and, Bool.and_false, Bool.not_true, Bool.not_false, cond_true, cond_false])) ?_
              exact J
            · have hc2 : ¬ ((gI s 242 x11.toNatClampNeg) ≤ 9) := hc
              refine xW.seg (pc1 := 208) (L1 := [(12, vi ((gI s 242 x11.toNatClampNeg) - 10)), (0, vr 12 230), (10, vi x10), (11, vi x11)]) (st1 := [vi 1, vi (gI s 242 ((x11 - 1).toNatClampNeg)), vi (x11 - 1), vr 40 242]) (h1 := xhp s) 2 (fun _ _ _ _ => rfl) ?_
              refine xW.to (v := vi (zb (!decide ((gI s 242 x11.toNatClampNeg) ≤ 9)))) (zb_t (by simp only [decide_eq_false hc2, Bool.true_or, Bool.or_true, Bool.false_or, Bool.or_false, Bool.true_and, Bool.and_true, Bool.false_and, Bool.and_false, Bool.not_true, Bool.not_false, cond_true, cond_false])) ?_
              exact J
          refine xW.side (c := vp_in (x11 - 1) 256) (pc1 := 210) (L1 := [(12, vi ((gI s 242 x11.toNatClampNeg) - 10)), (0, vr 12 230), (10, vi x10), (11, vi x11)]) (st1 := []) (h1 := xhp (sI s 242 ((x11 - 1).toNatClampNeg) ((gI s 242 ((x11 - 1).toNatClampNeg)) + (zb (!decide ((gI s 242 x11.toNatClampNeg) ≤ 9)))))) 2 (fun _ _ _ _ => rfl) g.1 ?_
          replace g := g.2
          refine xW.side (c := vp_in x11 256) (pc1 := 219) (L1 := [(12, vi ((gI s 242 x11.toNatClampNeg) - 10)), (0, vr 12 230), (10, vi x10), (11, vi x11)]) (st1 := []) (h1 := xhp (sI (sI s 242 ((x11 - 1).toNatClampNeg) ((gI s 242 ((x11 - 1).toNatClampNeg)) + (zb (!decide ((gI s 242 x11.toNatClampNeg) ≤ 9))))) 242 x11.toNatClampNeg ((gI s 242 x11.toNatClampNeg) - 10))) 5 (fun _ _ _ _ => rfl) g.1 ?_
          replace g := g.2
          refine xW.seg (pc1 := 98) (L1 := [(11, vi (x11 + (-1))), (12, vi ((gI s 242 x11.toNatClampNeg) - 10)), (0, vr 12 230), (10, vi x10)]) (st1 := []) (h1 := xhp (sI (sI s 242 ((x11 - 1).toNatClampNeg) ((gI s 242 ((x11 - 1).toNatClampNeg)) + (zb (!decide ((gI s 242 x11.toNatClampNeg) ≤ 9))))) 242 x11.toNatClampNeg ((gI s 242 x11.toNatClampNeg) - 10))) 2 (fun _ _ _ _ => rfl) ?_
          exact xW.locs (L := [(0, vr 12 230), (10, vi x10), (11, vi (x11 + (-1)))]) ⟨rfl, rfl, rfl, trivial⟩ rfl g
        · replace g := g.2 hc
          refine xW.side (c := vp_in (x11 - 1) 256) (pc1 := 210) (L1 := [(12, vi ((gI s 242 x11.toNatClampNeg) - 10)), (0, vr 12 230), (10, vi x10), (11, vi x11)]) (st1 := []) (h1 := xhp (sI s 242 ((x11 - 1).toNatClampNeg) ((gI s 242 ((x11 - 1).toNatClampNeg)) + (-1)))) 4 (fun _ _ _ _ => rfl) g.1 ?_
          replace g := g.2
          refine xW.side (c := vp_in x11 256) (pc1 := 219) (L1 := [(12, vi ((gI s 242 x11.toNatClampNeg) - 10)), (0, vr 12 230), (10, vi x10), (11, vi x11)]) (st1 := []) (h1 := xhp (sI (sI s 242 ((x11 - 1).toNatClampNeg) ((gI s 242 ((x11 - 1).toNatClampNeg)) + (-1))) 242 x11.toNatClampNeg ((gI s 242 x11.toNatClampNeg) - 10))) 5 (fun _ _ _ _ => rfl) g.1 ?_
          replace g := g.2
          refine xW.seg (pc1 := 98) (L1 := [(11, vi (x11 + (-1))), (12, vi ((gI s 242 x11.toNatClampNeg) - 10)), (0, vr 12 230), (10, vi x10)]) (st1 := []) (h1 := xhp (sI (sI s 242 ((x11 - 1).toNatClampNeg) ((gI s 242 ((x11 - 1).toNatClampNeg)) + (-1))) 242 x11.toNatClampNeg ((gI s 242 x11.toNatClampNeg) - 10))) 2 (fun _ _ _ _ => rfl) ?_
          exact xW.locs (L := [(0, vr 12 230), (10, vi x10), (11, vi (x11 + (-1)))]) ⟨rfl, rfl, rfl, trivial⟩ rfl g
    · replace g := g.2 hc
      refine xW.side (c := vp_in x11 256) (pc1 := 120) (L1 := [(0, vr 12 230), (10, vi x10), (11, vi x11)]) (st1 := [vi (gI s 242 x11.toNatClampNeg)]) (h1 := xhp s) 4 (fun _ _ _ _ => rfl) g.1 ?_
      replace g := g.2
      refine xW.side (c := vp_in (x11 - 1) 256) (pc1 := 177) (L1 := [(12, vi ((gI s 242 x11.toNatClampNeg) + 10)), (0, vr 12 230), (10, vi x10), (11, vi x11)]) (st1 := [vi (gI s 242 ((x11 - 1).toNatClampNeg)), vi (x11 - 1), vr 40 242]) (h1 := xhp s) 15 (fun _ _ _ _ => rfl) g.1 ?_
      replace g := g.2
      refine xW.side (c := vp_in x11 256) (pc1 := 184) (L1 := [(12, vi ((gI s 242 x11.toNatClampNeg) + 10)), (0, vr 12 230), (10, vi x10), (11, vi x11)]) (st1 := [vi (gI s 242 x11.toNatClampNeg), vi (gI s 242 ((x11 - 1).toNatClampNeg)), vi (x11 - 1), vr 40 242]) (h1 := xhp s) 4 (fun _ _ _ _ => rfl) g.1 ?_
      replace g := g.2
      refine xW.br (c := 0 ≤ (gI s 242 x11.toNatClampNeg)) (pc1 := 191) (L1 := [(12, vi ((gI s 242 x11.toNatClampNeg) + 10)), (0, vr 12 230), (10, vi x10), (11, vi x11)]) (st1 := [vi (gI s 242 ((x11 - 1).toNatClampNeg)), vi (x11 - 1), vr 40 242]) (h1 := xhp s) (pc2 := 187) (L2 := [(12, vi ((gI s 242 x11.toNatClampNeg) + 10)), (0, vr 12 230), (10, vi x10), (11, vi x11)]) (st2 := [vi (gI s 242 ((x11 - 1).toNatClampNeg)), vi (x11 - 1), vr 40 242]) (h2 := xhp s) 1 (fun _ _ _ _ => rfl) (fun hc => ?_) (fun hc => ?_)
      · replace g := g.1 hc
        refine xW.side (c := vp_in x11 256) (pc1 := 198) (L1 := [(12, vi ((gI s 242 x11.toNatClampNeg) + 10)), (0, vr 12 230), (10, vi x10), (11, vi x11)]) (st1 := [vi (gI s 242 x11.toNatClampNeg), vi (gI s 242 ((x11 - 1).toNatClampNeg)), vi (x11 - 1), vr 40 242]) (h1 := xhp s) 4 (fun _ _ _ _ => rfl) g.1 ?_
        replace g := g.2
        refine xW.seg (pc1 := 200) (L1 := [(12, vi ((gI s 242 x11.toNatClampNeg) + 10)), (0, vr 12 230), (10, vi x10), (11, vi x11)]) (st1 := [vi 9, vi (gI s 242 x11.toNatClampNeg), vi (gI s 242 ((x11 - 1).toNatClampNeg)), vi (x11 - 1), vr 40 242]) (h1 := xhp s) 1 (fun _ _ _ _ => rfl) ?_
        suffices J : xW (xX0 xs Ls) p38 208 [(12, vi ((gI s 242 x11.toNatClampNeg) + 10)), (0, vr 12 230), (10, vi x10), (11, vi x11)] [vi (zb (!decide ((gI s 242 x11.toNatClampNeg) ≤ 9))), vi (gI s 242 ((x11 - 1).toNatClampNeg)), vi (x11 - 1), vr 40 242] (xhp s) Φ by
          refine xW.br (c := (gI s 242 x11.toNatClampNeg) ≤ 9) (pc1 := 207) (L1 := [(12, vi ((gI s 242 x11.toNatClampNeg) + 10)), (0, vr 12 230), (10, vi x10), (11, vi x11)]) (st1 := [vi (gI s 242 ((x11 - 1).toNatClampNeg)), vi (x11 - 1), vr 40 242]) (h1 := xhp s) (pc2 := 203) (L2 := [(12, vi ((gI s 242 x11.toNatClampNeg) + 10)), (0, vr 12 230), (10, vi x10), (11, vi x11)]) (st2 := [vi (gI s 242 ((x11 - 1).toNatClampNeg)), vi (x11 - 1), vr 40 242]) (h2 := xhp s) 1 (fun _ _ _ _ => rfl) (fun hc => ?_) (fun hc => ?_)
          · have hc3 : (gI s 242 x11.toNatClampNeg) ≤ 9 := hc
            refine xW.seg (pc1 := 208) (L1 := [(12, vi ((gI s 242 x11.toNatClampNeg) + 10)), (0, vr 12 230), (10, vi x10), (11, vi x11)]) (st1 := [vi 0, vi (gI s 242 ((x11 - 1).toNatClampNeg)), vi (x11 - 1), vr 40 242]) (h1 := xhp s) 1 (fun _ _ _ _ => rfl) ?_
            refine xW.to (v := vi (zb (!decide ((gI s 242 x11.toNatClampNeg) ≤ 9)))) (zb_f (by simp only [decide_eq_true hc3, Bool.true_or, Bool.or_true, Bool.false_or, Bool.or_false, Bool.true_and, Bool.and_true, Bool.false_and, Bool.and_false, Bool.not_true, Bool.not_false, cond_true, cond_false])) ?_
            exact J
          · have hc3 : ¬ ((gI s 242 x11.toNatClampNeg) ≤ 9) := hc
            refine xW.seg (pc1 := 208) (L1 := [(12, vi ((gI s 242 x11.toNatClampNeg) + 10)), (0, vr 12 230), (10, vi x10), (11, vi x11)]) (st1 := [vi 1, vi (gI s 242 ((x11 - 1).toNatClampNeg)), vi (x11 - 1), vr 40 242]) (h1 := xhp s) 2 (fun _ _ _ _ => rfl) ?_
            refine xW.to (v := vi (zb (!decide ((gI s 242 x11.toNatClampNeg) ≤ 9)))) (zb_t (by simp only [decide_eq_false hc3, Bool.true_or, Bool.or_true, Bool.false_or, Bool.or_false, Bool.true_and, Bool.and_true, Bool.false_and, Bool.and_false, Bool.not_true, Bool.not_false, cond_true, cond_false])) ?_
            exact J
        refine xW.side (c := vp_in (x11 - 1) 256) (pc1 := 210) (L1 := [(12, vi ((gI s 242 x11.toNatClampNeg) + 10)), (0, vr 12 230), (10, vi x10), (11, vi x11)]) (st1 := []) (h1 := xhp (sI s 242 ((x11 - 1).toNatClampNeg) ((gI s 242 ((x11 - 1).toNatClampNeg)) + (zb (!decide ((gI s 242 x11.toNatClampNeg) ≤ 9)))))) 2 (fun _ _ _ _ => rfl) g.1 ?_
        replace g := g.2
        refine xW.side (c := vp_in x11 256) (pc1 := 219) (L1 := [(12, vi ((gI s 242 x11.toNatClampNeg) + 10)), (0, vr 12 230), (10, vi x10), (11, vi x11)]) (st1 := []) (h1 := xhp (sI (sI s 242 ((x11 - 1).toNatClampNeg) ((gI s 242 ((x11 - 1).toNatClampNeg)) + (zb (!decide ((gI s 242 x11.toNatClampNeg) ≤ 9))))) 242 x11.toNatClampNeg ((gI s 242 x11.toNatClampNeg) + 10))) 5 (fun _ _ _ _ => rfl) g.1 ?_
        replace g := g.2
        refine xW.seg (pc1 := 98) (L1 := [(11, vi (x11 + (-1))), (12, vi ((gI s 242 x11.toNatClampNeg) + 10)), (0, vr 12 230), (10, vi x10)]) (st1 := []) (h1 := xhp (sI (sI s 242 ((x11 - 1).toNatClampNeg) ((gI s 242 ((x11 - 1).toNatClampNeg)) + (zb (!decide ((gI s 242 x11.toNatClampNeg) ≤ 9))))) 242 x11.toNatClampNeg ((gI s 242 x11.toNatClampNeg) + 10))) 2 (fun _ _ _ _ => rfl) ?_
        exact xW.locs (L := [(0, vr 12 230), (10, vi x10), (11, vi (x11 + (-1)))]) ⟨rfl, rfl, rfl, trivial⟩ rfl g
      · replace g := g.2 hc
        refine xW.side (c := vp_in (x11 - 1) 256) (pc1 := 210) (L1 := [(12, vi ((gI s 242 x11.toNatClampNeg) + 10)), (0, vr 12 230), (10, vi x10), (11, vi x11)]) (st1 := []) (h1 := xhp (sI s 242 ((x11 - 1).toNatClampNeg) ((gI s 242 ((x11 - 1).toNatClampNeg)) + (-1)))) 4 (fun _ _ _ _ => rfl) g.1 ?_
        replace g := g.2
        refine xW.side (c := vp_in x11 256) (pc1 := 219) (L1 := [(12, vi ((gI s 242 x11.toNatClampNeg) + 10)), (0, vr 12 230), (10, vi x10), (11, vi x11)]) (st1 := []) (h1 := xhp (sI (sI s 242 ((x11 - 1).toNatClampNeg) ((gI s 242 ((x11 - 1).toNatClampNeg)) + (-1))) 242 x11.toNatClampNeg ((gI s 242 x11.toNatClampNeg) + 10))) 5 (fun _ _ _ _ => rfl) g.1 ?_
        replace g := g.2
        refine xW.seg (pc1 := 98) (L1 := [(11, vi (x11 + (-1))), (12, vi ((gI s 242 x11.toNatClampNeg) + 10)), (0, vr 12 230), (10, vi x10)]) (st1 := []) (h1 := xhp (sI (sI s 242 ((x11 - 1).toNatClampNeg) ((gI s 242 ((x11 - 1).toNatClampNeg)) + (-1))) 242 x11.toNatClampNeg ((gI s 242 x11.toNatClampNeg) + 10))) 2 (fun _ _ _ _ => rfl) ?_
        exact xW.locs (L := [(0, vr 12 230), (10, vi x10), (11, vi (x11 + (-1)))]) ⟨rfl, rfl, rfl, trivial⟩ rfl g
noncomputable def tm_add_98 : Nat → xS → Int32 → Int32 → Int32 × xS
  | 0, s, _, _ => (0, s)
  | n + 1, s, x10, x11 => (if x11 ≤ 0 then (tm_round s x10 100 212 0) else (if 0 ≤ (gI s 242 x11.toNatClampNeg) then (if (gI s 242 x11.toNatClampNeg) ≤ 9 then (if 0 ≤ (gI s 242 x11.toNatClampNeg) then (tm_add_98 n (sI (sI s 242 ((x11 - 1).toNatClampNeg) ((gI s 242 ((x11 - 1).toNatClampNeg)) + (zb (!decide ((gI s 242 x11.toNatClampNeg) ≤ 9))))) 242 x11.toNatClampNeg (gI s 242 x11.toNatClampNeg)) x10 (x11 + (-1))) else (tm_add_98 n (sI (sI s 242 ((x11 - 1).toNatClampNeg) ((gI s 242 ((x11 - 1).toNatClampNeg)) + (-1))) 242 x11.toNatClampNeg (gI s 242 x11.toNatClampNeg)) x10 (x11 + (-1)))) else (if 0 ≤ (gI s 242 x11.toNatClampNeg) then (tm_add_98 n (sI (sI s 242 ((x11 - 1).toNatClampNeg) ((gI s 242 ((x11 - 1).toNatClampNeg)) + (zb (!decide ((gI s 242 x11.toNatClampNeg) ≤ 9))))) 242 x11.toNatClampNeg ((gI s 242 x11.toNatClampNeg) - 10)) x10 (x11 + (-1))) else (tm_add_98 n (sI (sI s 242 ((x11 - 1).toNatClampNeg) ((gI s 242 ((x11 - 1).toNatClampNeg)) + (-1))) 242 x11.toNatClampNeg ((gI s 242 x11.toNatClampNeg) - 10)) x10 (x11 + (-1))))) else (if 0 ≤ (gI s 242 x11.toNatClampNeg) then (tm_add_98 n (sI (sI s 242 ((x11 - 1).toNatClampNeg) ((gI s 242 ((x11 - 1).toNatClampNeg)) + (zb (!decide ((gI s 242 x11.toNatClampNeg) ≤ 9))))) 242 x11.toNatClampNeg ((gI s 242 x11.toNatClampNeg) + 10)) x10 (x11 + (-1))) else (tm_add_98 n (sI (sI s 242 ((x11 - 1).toNatClampNeg) ((gI s 242 ((x11 - 1).toNatClampNeg)) + (-1))) 242 x11.toNatClampNeg ((gI s 242 x11.toNatClampNeg) + 10)) x10 (x11 + (-1))))))
def tm_add_98_ok : Nat → xS → Int32 → Int32 → Prop
  | 0, _, _, _ => False
  | n + 1, s, x10, x11 => ((x11 ≤ 0 → (tm_round_ok s x10 100 212 0)) ∧ (¬ (x11 ≤ 0) → ((vp_in x11 256) ∧ ((0 ≤ (gI s 242 x11.toNatClampNeg) → ((vp_in x11 256) ∧ (((gI s 242 x11.toNatClampNeg) ≤ 9 → ((vp_in x11 256) ∧ ((vp_in (x11 - 1) 256) ∧ ((vp_in x11 256) ∧ ((0 ≤ (gI s 242 x11.toNatClampNeg) → ((vp_in x11 256) ∧ ((vp_in (x11 - 1) 256) ∧ ((vp_in x11 256) ∧ (tm_add_98_ok n (sI (sI s 242 ((x11 - 1).toNatClampNeg) ((gI s 242 ((x11 - 1).toNatClampNeg)) + (zb (!decide ((gI s 242 x11.toNatClampNeg) ≤ 9))))) 242 x11.toNatClampNeg (gI s 242 x11.toNatClampNeg)) x10 (x11 + (-1))))))) ∧ (¬ (0 ≤ (gI s 242 x11.toNatClampNeg)) → ((vp_in (x11 - 1) 256) ∧ ((vp_in x11 256) ∧ (tm_add_98_ok n (sI (sI s 242 ((x11 - 1).toNatClampNeg) ((gI s 242 ((x11 - 1).toNatClampNeg)) + (-1))) 242 x11.toNatClampNeg (gI s 242 x11.toNatClampNeg)) x10 (x11 + (-1))))))))))) ∧ (¬ ((gI s 242 x11.toNatClampNeg) ≤ 9) → ((vp_in x11 256) ∧ ((vp_in (x11 - 1) 256) ∧ ((vp_in x11 256) ∧ ((0 ≤ (gI s 242 x11.toNatClampNeg) → ((vp_in x11 256) ∧ ((vp_in (x11 - 1) 256) ∧ ((vp_in x11 256) ∧ (tm_add_98_ok n (sI (sI s 242 ((x11 - 1).toNatClampNeg) ((gI s 242 ((x11 - 1).toNatClampNeg)) + (zb (!decide ((gI s 242 x11.toNatClampNeg) ≤ 9))))) 242 x11.toNatClampNeg ((gI s 242 x11.toNatClampNeg) - 10)) x10 (x11 + (-1))))))) ∧ (¬ (0 ≤ (gI s 242 x11.toNatClampNeg)) → ((vp_in (x11 - 1) 256) ∧ ((vp_in x11 256) ∧ (tm_add_98_ok n (sI (sI s 242 ((x11 - 1).toNatClampNeg) ((gI s 242 ((x11 - 1).toNatClampNeg)) + (-1))) 242 x11.toNatClampNeg ((gI s 242 x11.toNatClampNeg) - 10)) x10 (x11 + (-1)))))))))))))) ∧ (¬ (0 ≤ (gI s 242 x11.toNatClampNeg)) → ((vp_in x11 256) ∧ ((vp_in (x11 - 1) 256) ∧ ((vp_in x11 256) ∧ ((0 ≤ (gI s 242 x11.toNatClampNeg) → ((vp_in x11 256) ∧ ((vp_in (x11 - 1) 256) ∧ ((vp_in x11 256) ∧ (tm_add_98_ok n (sI (sI s 242 ((x11 - 1).toNatClampNeg) ((gI s 242 ((x11 - 1).toNatClampNeg)) + (zb (!decide ((gI s 242 x11.toNatClampNeg) ≤ 9))))) 242 x11.toNatClampNeg ((gI s 242 x11.toNatClampNeg) + 10)) x10 (x11 + (-1))))))) ∧ (¬ (0 ≤ (gI s 242 x11.toNatClampNeg)) → ((vp_in (x11 - 1) 256) ∧ ((vp_in x11 256) ∧ (tm_add_98_ok n (sI (sI s 242 ((x11 - 1).toNatClampNeg) ((gI s 242 ((x11 - 1).toNatClampNeg)) + (-1))) 242 x11.toNatClampNeg ((gI s 242 x11.toNatClampNeg) + 10)) x10 (x11 + (-1)))))))))))))))
set_option maxRecDepth 100000 in
theorem n38_98 {xs : Nat → Int32} {Ls : Nat} {Φ : Option xV → xH → Prop} : ∀ (n : Nat) (s : xS) (x10 : Int32) (x11 : Int32), tm_add_98_ok n s x10 x11 → Φ (some (vi (tm_add_98 n s x10 x11).1)) (xhp (tm_add_98 n s x10 x11).2) → xW (xX0 xs Ls) p38 98 [(0, vr 12 230), (10, vi x10), (11, vi x11)] [] (xhp s) Φ := by
  intro n
  induction n with
  | zero => intro s _ _ gq; exact gq.elim
  | succ n ih =>
    intro s x10 x11 gq h
    unfold tm_add_98_ok at gq
    unfold tm_add_98 at h
    exact b38_98 s x10 x11 (⟨fun hc => by rw [if_pos hc] at h; replace gq := gq.1 hc; exact ⟨gq, (by (try dsimp only at h); exact h)⟩, fun hc => by rw [if_neg hc] at h; replace gq := gq.2 hc; exact ⟨gq.1, by replace gq := gq.2; exact ⟨fun hc => by rw [if_pos hc] at h; replace gq := gq.1 hc; exact ⟨gq.1, by replace gq := gq.2; exact ⟨fun hc => by rw [if_pos hc] at h; replace gq := gq.1 hc; exact ⟨gq.1, by replace gq := gq.2; exact ⟨gq.1, by replace gq := gq.2; exact ⟨gq.1, by replace gq := gq.2; exact ⟨fun hc => by rw [if_pos hc] at h; replace gq := gq.1 hc; exact ⟨gq.1, by replace gq := gq.2; exact ⟨gq.1, by replace gq := gq.2; exact ⟨gq.1, by replace gq := gq.2; exact ih _ _ _ gq h⟩⟩⟩, fun hc => by rw [if_neg hc] at h; replace gq := gq.2 hc; exact ⟨gq.1, by replace gq := gq.2; exact ⟨gq.1, by replace gq := gq.2; exact ih _ _ _ gq h⟩⟩⟩⟩⟩⟩, fun hc => by rw [if_neg hc] at h; replace gq := gq.2 hc; exact ⟨gq.1, by replace gq := gq.2; exact ⟨gq.1, by replace gq := gq.2; exact ⟨gq.1, by replace gq := gq.2; exact ⟨fun hc => by rw [if_pos hc] at h; replace gq := gq.1 hc; exact ⟨gq.1, by replace gq := gq.2; exact ⟨gq.1, by replace gq := gq.2; exact ⟨gq.1, by replace gq := gq.2; exact ih _ _ _ gq h⟩⟩⟩, fun hc => by rw [if_neg hc] at h; replace gq := gq.2 hc; exact ⟨gq.1, by replace gq := gq.2; exact ⟨gq.1, by replace gq := gq.2; exact ih _ _ _ gq h⟩⟩⟩⟩⟩⟩⟩⟩, fun hc => by rw [if_neg hc] at h; replace gq := gq.2 hc; exact ⟨gq.1, by replace gq := gq.2; exact ⟨gq.1, by replace gq := gq.2; exact ⟨gq.1, by replace gq := gq.2; exact ⟨fun hc => by rw [if_pos hc] at h; replace gq := gq.1 hc; exact ⟨gq.1, by replace gq := gq.2; exact ⟨gq.1, by replace gq := gq.2; exact ⟨gq.1, by replace gq := gq.2; exact ih _ _ _ gq h⟩⟩⟩, fun hc => by rw [if_neg hc] at h; replace gq := gq.2 hc; exact ⟨gq.1, by replace gq := gq.2; exact ⟨gq.1, by replace gq := gq.2; exact ih _ _ _ gq h⟩⟩⟩⟩⟩⟩⟩⟩⟩)
set_option maxRecDepth 100000 in
theorem b38_68 {xs : Nat → Int32} {Ls : Nat} {Φ : Option xV → xH → Prop} (s : xS) (x5 : Int32) (x6 : Int64) (x8 : Int32) (x10 : Int32) (g : ((x5 = 0 → xW (xX0 xs Ls) p38 98 [(0, vr 12 230), (10, vi x10), (11, vi 211)] [] (xhp s) Φ) ∧ (¬ (x5 = 0) → ((tm_lay_ok s x6 x8 (if x5 = x10 then (1 : Int32) else (-1))) ∧ xW (xX0 xs Ls) p38 98 [(0, vr 12 230), (10, vi x10), (11, vi 211)] [] (xhp (tm_lay s x6 x8 (if x5 = x10 then (1 : Int32) else (-1)))) Φ)))) : xW (xX0 xs Ls) p38 68 [(0, vr 12 230), (5, vi x5), (6, vl x6), (8, vi x8), (10, vi x10)] [] (xhp s) Φ := by
  refine xW.br (c := x5 = 0) (pc1 := 93) (L1 := [(0, vr 12 230), (5, vi x5), (6, vl x6), (8, vi x8), (10, vi x10)]) (st1 := []) (h1 := xhp s) (pc2 := 73) (L2 := [(0, vr 12 230), (5, vi x5), (6, vl x6), (8, vi x8), (10, vi x10)]) (st2 := []) (h2 := xhp s) 2 (fun _ _ _ _ => rfl) (fun hc => ?_) (fun hc => ?_)
  · replace g := g.1 hc
    refine xW.seg (pc1 := 98) (L1 := [(11, vi 211), (0, vr 12 230), (5, vi x5), (6, vl x6), (8, vi x8), (10, vi x10)]) (st1 := []) (h1 := xhp s) 2 (fun _ _ _ _ => rfl) ?_
    exact xW.locs (L := [(0, vr 12 230), (10, vi x10), (11, vi 211)]) ⟨rfl, rfl, rfl, trivial⟩ rfl g
  · replace g := g.2 hc
    refine xW.seg (pc1 := 82) (L1 := [(0, vr 12 230), (5, vi x5), (6, vl x6), (8, vi x8), (10, vi x10)]) (st1 := [vi x10, vi x5, vi x8, vl x6, vr 12 230]) (h1 := xhp s) 5 (fun _ _ _ _ => rfl) ?_
    suffices J : xW (xX0 xs Ls) p38 90 [(0, vr 12 230), (5, vi x5), (6, vl x6), (8, vi x8), (10, vi x10)] [vi (if x5 = x10 then (1 : Int32) else (-1)), vi x8, vl x6, vr 12 230] (xhp s) Φ by
      refine xW.br (c := ¬ x5 = x10) (pc1 := 89) (L1 := [(0, vr 12 230), (5, vi x5), (6, vl x6), (8, vi x8), (10, vi x10)]) (st1 := [vi x8, vl x6, vr 12 230]) (h1 := xhp s) (pc2 := 85) (L2 := [(0, vr 12 230), (5, vi x5), (6, vl x6), (8, vi x8), (10, vi x10)]) (st2 := [vi x8, vl x6, vr 12 230]) (h2 := xhp s) 1 (fun _ _ _ _ => rfl) (fun hc => ?_) (fun hc => ?_)
      · have hc1 : ¬ x5 = x10 := hc
        refine xW.seg (pc1 := 90) (L1 := [(0, vr 12 230), (5, vi x5), (6, vl x6), (8, vi x8), (10, vi x10)]) (st1 := [vi (-1), vi x8, vl x6, vr 12 230]) (h1 := xhp s) 1 (fun _ _ _ _ => rfl) ?_
        refine xW.to (v := vi (if x5 = x10 then (1 : Int32) else (-1))) ((congrArg vi (if_neg hc1)).symm) ?_
        exact J
      · have hc1 : x5 = x10 := (Decidable.not_not.mp hc)
        refine xW.seg (pc1 := 90) (L1 := [(0, vr 12 230), (5, vi x5), (6, vl x6), (8, vi x8), (10, vi x10)]) (st1 := [vi 1, vi x8, vl x6, vr 12 230]) (h1 := xhp s) 2 (fun _ _ _ _ => rfl) ?_
        refine xW.to (v := vi (if x5 = x10 then (1 : Int32) else (-1))) ((congrArg vi (if_pos hc1)).symm) ?_
        exact J
    refine xW.call (y := 36) (as := [vr 12 230, vl x6, vi x8, vi (if x5 = x10 then (1 : Int32) else (-1))]) (h0 := xhp s) (pc0 := 90) (len := 3) (L0 := [(0, vr 12 230), (5, vi x5), (6, vl x6), (8, vi x8), (10, vi x10)]) (rest := []) 1 (fun _ _ _ _ => rfl) (m36 _ _ _ _ g.1 ?_)
    show xW (xX0 xs Ls) p38 93 [(0, vr 12 230), (5, vi x5), (6, vl x6), (8, vi x8), (10, vi x10)] [] (xhp (tm_lay s x6 x8 (if x5 = x10 then (1 : Int32) else (-1)))) Φ
    replace g := g.2
    refine xW.seg (pc1 := 98) (L1 := [(11, vi 211), (0, vr 12 230), (5, vi x5), (6, vl x6), (8, vi x8), (10, vi x10)]) (st1 := []) (h1 := xhp (tm_lay s x6 x8 (if x5 = x10 then (1 : Int32) else (-1)))) 2 (fun _ _ _ _ => rfl) ?_
    exact xW.locs (L := [(0, vr 12 230), (10, vi x10), (11, vi 211)]) ⟨rfl, rfl, rfl, trivial⟩ rfl g
noncomputable def tm_add_68_d (s : xS) (x5 : Int32) (x6 : Int64) (x8 : Int32) (x10 : Int32) : Int32 × xS := (if x5 = 0 then (tm_add_98 xfu s x10 211) else (tm_add_98 xfu (tm_lay s x6 x8 (if x5 = x10 then (1 : Int32) else (-1))) x10 211))
noncomputable def tm_add_68 : xS → Int32 → Int64 → Int32 → Int32 → Int32 × xS := Classical.choose (⟨tm_add_68_d, rfl⟩ : ∃ f, f = tm_add_68_d)
set_option maxRecDepth 100000 in
theorem tm_add_68_eq : tm_add_68 = tm_add_68_d := Classical.choose_spec (⟨tm_add_68_d, rfl⟩ : ∃ f, f = tm_add_68_d)
def tm_add_68_ok (s : xS) (x5 : Int32) (x6 : Int64) (x8 : Int32) (x10 : Int32) : Prop := ((x5 = 0 → (tm_add_98_ok xfu s x10 211)) ∧ (¬ (x5 = 0) → ((tm_lay_ok s x6 x8 (if x5 = x10 then (1 : Int32) else (-1))) ∧ (tm_add_98_ok xfu (tm_lay s x6 x8 (if x5 = x10 then (1 : Int32) else (-1))) x10 211))))
set_option maxRecDepth 100000 in
theorem n38_68 {xs : Nat → Int32} {Ls : Nat} {Φ : Option xV → xH → Prop} (s : xS) (x5 : Int32) (x6 : Int64) (x8 : Int32) (x10 : Int32) (gq : tm_add_68_ok s x5 x6 x8 x10) (h : Φ (some (vi (tm_add_68 s x5 x6 x8 x10).1)) (xhp (tm_add_68 s x5 x6 x8 x10).2)) : xW (xX0 xs Ls) p38 68 [(0, vr 12 230), (5, vi x5), (6, vl x6), (8, vi x8), (10, vi x10)] [] (xhp s) Φ := by
  rw [tm_add_68_eq] at h
  unfold tm_add_68_d at h
  unfold tm_add_68_ok at gq
  exact b38_68 s x5 x6 x8 x10 (⟨fun hc => by rw [if_pos hc] at h; replace gq := gq.1 hc; exact n38_98 _ _ _ _ gq h, fun hc => by rw [if_neg hc] at h; replace gq := gq.2 hc; exact ⟨gq.1, by replace gq := gq.2; exact n38_98 _ _ _ _ gq h⟩⟩)
set_option maxRecDepth 100000 in
theorem b38_44 {xs : Nat → Int32} {Ls : Nat} {Φ : Option xV → xH → Prop} (s : xS) (x1 : Int32) (x2 : Int64) (x4 : Int32) (x5 : Int32) (x6 : Int64) (x8 : Int32) (y0 : Int32) (g : ((x1 = 0 → xW (xX0 xs Ls) p38 68 [(0, vr 12 230), (5, vi x5), (6, vl x6), (8, vi x8), (10, vi y0)] [] (xhp s) Φ) ∧ (¬ (x1 = 0) → ((tm_lay_ok s x2 x4 (if x1 = y0 then (1 : Int32) else (-1))) ∧ xW (xX0 xs Ls) p38 68 [(0, vr 12 230), (5, vi x5), (6, vl x6), (8, vi x8), (10, vi y0)] [] (xhp (tm_lay s x2 x4 (if x1 = y0 then (1 : Int32) else (-1)))) Φ)))) : xW (xX0 xs Ls) p38 44 [(0, vr 12 230), (1, vi x1), (2, vl x2), (4, vi x4), (5, vi x5), (6, vl x6), (8, vi x8)] [vi y0] (xhp s) Φ := by
  refine xW.br (c := x1 = 0) (pc1 := 68) (L1 := [(10, vi y0), (0, vr 12 230), (1, vi x1), (2, vl x2), (4, vi x4), (5, vi x5), (6, vl x6), (8, vi x8)]) (st1 := []) (h1 := xhp s) (pc2 := 50) (L2 := [(10, vi y0), (0, vr 12 230), (1, vi x1), (2, vl x2), (4, vi x4), (5, vi x5), (6, vl x6), (8, vi x8)]) (st2 := []) (h2 := xhp s) 3 (fun _ _ _ _ => rfl) (fun hc => ?_) (fun hc => ?_)
  · replace g := g.1 hc
    exact xW.locs (L := [(0, vr 12 230), (5, vi x5), (6, vl x6), (8, vi x8), (10, vi y0)]) ⟨rfl, rfl, rfl, rfl, rfl, trivial⟩ rfl g
  · replace g := g.2 hc
    refine xW.seg (pc1 := 57) (L1 := [(10, vi y0), (0, vr 12 230), (1, vi x1), (2, vl x2), (4, vi x4), (5, vi x5), (6, vl x6), (8, vi x8)]) (st1 := [vi y0, vi x1, vi x4, vl x2, vr 12 230]) (h1 := xhp s) 5 (fun _ _ _ _ => rfl) ?_
    suffices J : xW (xX0 xs Ls) p38 65 [(10, vi y0), (0, vr 12 230), (1, vi x1), (2, vl x2), (4, vi x4), (5, vi x5), (6, vl x6), (8, vi x8)] [vi (if x1 = y0 then (1 : Int32) else (-1)), vi x4, vl x2, vr 12 230] (xhp s) Φ by
      refine xW.br (c := ¬ x1 = y0) (pc1 := 64) (L1 := [(10, vi y0), (0, vr 12 230), (1, vi x1), (2, vl x2), (4, vi x4), (5, vi x5), (6, vl x6), (8, vi x8)]) (st1 := [vi x4, vl x2, vr 12 230]) (h1 := xhp s) (pc2 := 60) (L2 := [(10, vi y0), (0, vr 12 230), (1, vi x1), (2, vl x2), (4, vi x4), (5, vi x5), (6, vl x6), (8, vi x8)]) (st2 := [vi x4, vl x2, vr 12 230]) (h2 := xhp s) 1 (fun _ _ _ _ => rfl) (fun hc => ?_) (fun hc => ?_)
      · have hc1 : ¬ x1 = y0 := hc
        refine xW.seg (pc1 := 65) (L1 := [(10, vi y0), (0, vr 12 230), (1, vi x1), (2, vl x2), (4, vi x4), (5, vi x5), (6, vl x6), (8, vi x8)]) (st1 := [vi (-1), vi x4, vl x2, vr 12 230]) (h1 := xhp s) 1 (fun _ _ _ _ => rfl) ?_
        refine xW.to (v := vi (if x1 = y0 then (1 : Int32) else (-1))) ((congrArg vi (if_neg hc1)).symm) ?_
        exact J
      · have hc1 : x1 = y0 := (Decidable.not_not.mp hc)
        refine xW.seg (pc1 := 65) (L1 := [(10, vi y0), (0, vr 12 230), (1, vi x1), (2, vl x2), (4, vi x4), (5, vi x5), (6, vl x6), (8, vi x8)]) (st1 := [vi 1, vi x4, vl x2, vr 12 230]) (h1 := xhp s) 2 (fun _ _ _ _ => rfl) ?_
        refine xW.to (v := vi (if x1 = y0 then (1 : Int32) else (-1))) ((congrArg vi (if_pos hc1)).symm) ?_
        exact J
    refine xW.call (y := 36) (as := [vr 12 230, vl x2, vi x4, vi (if x1 = y0 then (1 : Int32) else (-1))]) (h0 := xhp s) (pc0 := 65) (len := 3) (L0 := [(10, vi y0), (0, vr 12 230), (1, vi x1), (2, vl x2), (4, vi x4), (5, vi x5), (6, vl x6), (8, vi x8)]) (rest := []) 1 (fun _ _ _ _ => rfl) (m36 _ _ _ _ g.1 ?_)
    show xW (xX0 xs Ls) p38 68 [(10, vi y0), (0, vr 12 230), (1, vi x1), (2, vl x2), (4, vi x4), (5, vi x5), (6, vl x6), (8, vi x8)] [] (xhp (tm_lay s x2 x4 (if x1 = y0 then (1 : Int32) else (-1)))) Φ
    replace g := g.2
    exact xW.locs (L := [(0, vr 12 230), (5, vi x5), (6, vl x6), (8, vi x8), (10, vi y0)]) ⟨rfl, rfl, rfl, rfl, rfl, trivial⟩ rfl g
noncomputable def tm_add_44_d (s : xS) (x1 : Int32) (x2 : Int64) (x4 : Int32) (x5 : Int32) (x6 : Int64) (x8 : Int32) (y0 : Int32) : Int32 × xS := (if x1 = 0 then (tm_add_68 s x5 x6 x8 y0) else (tm_add_68 (tm_lay s x2 x4 (if x1 = y0 then (1 : Int32) else (-1))) x5 x6 x8 y0))
noncomputable def tm_add_44 : xS → Int32 → Int64 → Int32 → Int32 → Int64 → Int32 → Int32 → Int32 × xS := Classical.choose (⟨tm_add_44_d, rfl⟩ : ∃ f, f = tm_add_44_d)
set_option maxRecDepth 100000 in
theorem tm_add_44_eq : tm_add_44 = tm_add_44_d := Classical.choose_spec (⟨tm_add_44_d, rfl⟩ : ∃ f, f = tm_add_44_d)
def tm_add_44_ok (s : xS) (x1 : Int32) (x2 : Int64) (x4 : Int32) (x5 : Int32) (x6 : Int64) (x8 : Int32) (y0 : Int32) : Prop := ((x1 = 0 → (tm_add_68_ok s x5 x6 x8 y0)) ∧ (¬ (x1 = 0) → ((tm_lay_ok s x2 x4 (if x1 = y0 then (1 : Int32) else (-1))) ∧ (tm_add_68_ok (tm_lay s x2 x4 (if x1 = y0 then (1 : Int32) else (-1))) x5 x6 x8 y0))))
set_option maxRecDepth 100000 in
theorem n38_44 {xs : Nat → Int32} {Ls : Nat} {Φ : Option xV → xH → Prop} (s : xS) (x1 : Int32) (x2 : Int64) (x4 : Int32) (x5 : Int32) (x6 : Int64) (x8 : Int32) (y0 : Int32) (gq : tm_add_44_ok s x1 x2 x4 x5 x6 x8 y0) (h : Φ (some (vi (tm_add_44 s x1 x2 x4 x5 x6 x8 y0).1)) (xhp (tm_add_44 s x1 x2 x4 x5 x6 x8 y0).2)) : xW (xX0 xs Ls) p38 44 [(0, vr 12 230), (1, vi x1), (2, vl x2), (4, vi x4), (5, vi x5), (6, vl x6), (8, vi x8)] [vi y0] (xhp s) Φ := by
  rw [tm_add_44_eq] at h
  unfold tm_add_44_d at h
  unfold tm_add_44_ok at gq
  exact b38_44 s x1 x2 x4 x5 x6 x8 y0 (⟨fun hc => by rw [if_pos hc] at h; replace gq := gq.1 hc; exact n38_68 _ _ _ _ _ gq h, fun hc => by rw [if_neg hc] at h; replace gq := gq.2 hc; exact ⟨gq.1, by replace gq := gq.2; exact n38_68 _ _ _ _ _ gq h⟩⟩)
set_option maxRecDepth 100000 in
theorem b38_31 {xs : Nat → Int32} {Ls : Nat} {Φ : Option xV → xH → Prop} (s : xS) (x1 : Int32) (x2 : Int64) (x4 : Int32) (x5 : Int32) (x6 : Int64) (x8 : Int32) (y0 : Int32) (g : xW (xX0 xs Ls) p38 44 [(0, vr 12 230), (1, vi x1), (2, vl x2), (4, vi x4), (5, vi x5), (6, vl x6), (8, vi x8)] [vi (if y0 = 0 then x5 else x1)] (xhp s) Φ) : xW (xX0 xs Ls) p38 31 [(0, vr 12 230), (1, vi x1), (2, vl x2), (4, vi x4), (5, vi x5), (6, vl x6), (8, vi x8)] [vi y0] (xhp s) Φ := by
  refine xW.seg (pc1 := 35) (L1 := [(9, vi y0), (0, vr 12 230), (1, vi x1), (2, vl x2), (4, vi x4), (5, vi x5), (6, vl x6), (8, vi x8)]) (st1 := [vi y0]) (h1 := xhp s) 2 (fun _ _ _ _ => rfl) ?_
  suffices J : xW (xX0 xs Ls) p38 44 [(9, vi y0), (0, vr 12 230), (1, vi x1), (2, vl x2), (4, vi x4), (5, vi x5), (6, vl x6), (8, vi x8)] [vi (if y0 = 0 then x5 else x1)] (xhp s) Φ by
    refine xW.br (c := y0 = 0) (pc1 := 42) (L1 := [(9, vi y0), (0, vr 12 230), (1, vi x1), (2, vl x2), (4, vi x4), (5, vi x5), (6, vl x6), (8, vi x8)]) (st1 := []) (h1 := xhp s) (pc2 := 38) (L2 := [(9, vi y0), (0, vr 12 230), (1, vi x1), (2, vl x2), (4, vi x4), (5, vi x5), (6, vl x6), (8, vi x8)]) (st2 := []) (h2 := xhp s) 1 (fun _ _ _ _ => rfl) (fun hc => ?_) (fun hc => ?_)
    · have hc1 : y0 = 0 := hc
      refine xW.seg (pc1 := 44) (L1 := [(9, vi y0), (0, vr 12 230), (1, vi x1), (2, vl x2), (4, vi x4), (5, vi x5), (6, vl x6), (8, vi x8)]) (st1 := [vi x5]) (h1 := xhp s) 1 (fun _ _ _ _ => rfl) ?_
      refine xW.to (v := vi (if y0 = 0 then x5 else x1)) ((congrArg vi (if_pos hc1)).symm) ?_
      exact J
    · have hc1 : ¬ (y0 = 0) := hc
      refine xW.seg (pc1 := 44) (L1 := [(9, vi y0), (0, vr 12 230), (1, vi x1), (2, vl x2), (4, vi x4), (5, vi x5), (6, vl x6), (8, vi x8)]) (st1 := [vi x1]) (h1 := xhp s) 2 (fun _ _ _ _ => rfl) ?_
      refine xW.to (v := vi (if y0 = 0 then x5 else x1)) ((congrArg vi (if_neg hc1)).symm) ?_
      exact J
  exact xW.locs (L := [(0, vr 12 230), (1, vi x1), (2, vl x2), (4, vi x4), (5, vi x5), (6, vl x6), (8, vi x8)]) ⟨rfl, rfl, rfl, rfl, rfl, rfl, rfl, trivial⟩ rfl g
noncomputable def tm_add_31_d (s : xS) (x1 : Int32) (x2 : Int64) (x4 : Int32) (x5 : Int32) (x6 : Int64) (x8 : Int32) (y0 : Int32) : Int32 × xS := (tm_add_44 s x1 x2 x4 x5 x6 x8 (if y0 = 0 then x5 else x1))
noncomputable def tm_add_31 : xS → Int32 → Int64 → Int32 → Int32 → Int64 → Int32 → Int32 → Int32 × xS := Classical.choose (⟨tm_add_31_d, rfl⟩ : ∃ f, f = tm_add_31_d)
set_option maxRecDepth 100000 in
theorem tm_add_31_eq : tm_add_31 = tm_add_31_d := Classical.choose_spec (⟨tm_add_31_d, rfl⟩ : ∃ f, f = tm_add_31_d)
def tm_add_31_ok (s : xS) (x1 : Int32) (x2 : Int64) (x4 : Int32) (x5 : Int32) (x6 : Int64) (x8 : Int32) (y0 : Int32) : Prop := (tm_add_44_ok s x1 x2 x4 x5 x6 x8 (if y0 = 0 then x5 else x1))
set_option maxRecDepth 100000 in
theorem n38_31 {xs : Nat → Int32} {Ls : Nat} {Φ : Option xV → xH → Prop} (s : xS) (x1 : Int32) (x2 : Int64) (x4 : Int32) (x5 : Int32) (x6 : Int64) (x8 : Int32) (y0 : Int32) (gq : tm_add_31_ok s x1 x2 x4 x5 x6 x8 y0) (h : Φ (some (vi (tm_add_31 s x1 x2 x4 x5 x6 x8 y0).1)) (xhp (tm_add_31 s x1 x2 x4 x5 x6 x8 y0).2)) : xW (xX0 xs Ls) p38 31 [(0, vr 12 230), (1, vi x1), (2, vl x2), (4, vi x4), (5, vi x5), (6, vl x6), (8, vi x8)] [vi y0] (xhp s) Φ := by
  rw [tm_add_31_eq] at h
  unfold tm_add_31_d at h
  unfold tm_add_31_ok at gq
  exact b38_31 s x1 x2 x4 x5 x6 x8 y0 (n38_44 _ _ _ _ _ _ _ _ gq h)
set_option maxRecDepth 100000 in
theorem b38_0 {xs : Nat → Int32} {Ls : Nat} {Φ : Option xV → xH → Prop} (s : xS) (z : Int32) (d : Int64) (e : Int32) (z2 : Int32) (d2 : Int64) (e2 : Int32) (g : ((tm_clearRow_ok s) ∧ xW (xX0 xs Ls) p38 31 [(0, vr 12 230), (1, vi z), (2, vl d), (4, vi e), (5, vi z2), (6, vl d2), (8, vi e2)] [vi (zb ((!decide (z = 0)) && ((decide (z2 = 0)) || (!decide ((tm_compare d e d2 e2) < 0)))))] (xhp (tm_clearRow s)) Φ)) : xW (xX0 xs Ls) p38 0 [(0, vr 12 230), (1, vi z), (2, vl d), (4, vi e), (5, vi z2), (6, vl d2), (8, vi e2)] [] (xhp s) Φ := by
  refine xW.call (y := 34) (as := [vr 12 230]) (h0 := xhp s) (pc0 := 1) (len := 3) (L0 := [(0, vr 12 230), (1, vi z), (2, vl d), (4, vi e), (5, vi z2), (6, vl d2), (8, vi e2)]) (rest := []) 2 (fun _ _ _ _ => rfl) (m34 _ g.1 ?_)
  show xW (xX0 xs Ls) p38 4 [(0, vr 12 230), (1, vi z), (2, vl d), (4, vi e), (5, vi z2), (6, vl d2), (8, vi e2)] [] (xhp (tm_clearRow s)) Φ
  replace g := g.2
  refine xW.seg (pc1 := 5) (L1 := [(0, vr 12 230), (1, vi z), (2, vl d), (4, vi e), (5, vi z2), (6, vl d2), (8, vi e2)]) (st1 := [vi z]) (h1 := xhp (tm_clearRow s)) 1 (fun _ _ _ _ => rfl) ?_
  suffices J : xW (xX0 xs Ls) p38 31 [(0, vr 12 230), (1, vi z), (2, vl d), (4, vi e), (5, vi z2), (6, vl d2), (8, vi e2)] [vi (zb ((!decide (z = 0)) && ((decide (z2 = 0)) || (!decide ((tm_compare d e d2 e2) < 0)))))] (xhp (tm_clearRow s)) Φ by
    refine xW.br (c := z = 0) (pc1 := 30) (L1 := [(0, vr 12 230), (1, vi z), (2, vl d), (4, vi e), (5, vi z2), (6, vl d2), (8, vi e2)]) (st1 := []) (h1 := xhp (tm_clearRow s)) (pc2 := 8) (L2 := [(0, vr 12 230), (1, vi z), (2, vl d), (4, vi e), (5, vi z2), (6, vl d2), (8, vi e2)]) (st2 := []) (h2 := xhp (tm_clearRow s)) 1 (fun _ _ _ _ => rfl) (fun hc => ?_) (fun hc => ?_)
    · have hc1 : z = 0 := hc
      refine xW.seg (pc1 := 31) (L1 := [(0, vr 12 230), (1, vi z), (2, vl d), (4, vi e), (5, vi z2), (6, vl d2), (8, vi e2)]) (st1 := [vi 0]) (h1 := xhp (tm_clearRow s)) 1 (fun _ _ _ _ => rfl) ?_
      refine xW.to (v := vi (zb ((!decide (z = 0)) && ((decide (z2 = 0)) || (!decide ((tm_compare d e d2 e2) < 0)))))) (zb_f (by simp only [decide_eq_true hc1, Bool.true_or, Bool.or_true, Bool.false_or, Bool.or_false, Bool.true_and, Bool.and_true, Bool.false_and, Bool.and_false, Bool.not_true, Bool.not_false, cond_true, cond_false])) ?_
      exact J
    · have hc1 : ¬ (z = 0) := hc
      refine xW.br (c := z2 = 0) (pc1 := 26) (L1 := [(0, vr 12 230), (1, vi z), (2, vl d), (4, vi e), (5, vi z2), (6, vl d2), (8, vi e2)]) (st1 := []) (h1 := xhp (tm_clearRow s)) (pc2 := 13) (L2 := [(0, vr 12 230), (1, vi z), (2, vl d), (4, vi e), (5, vi z2), (6, vl d2), (8, vi e2)]) (st2 := []) (h2 := xhp (tm_clearRow s)) 2 (fun _ _ _ _ => rfl) (fun hc => ?_) (fun hc => ?_)
      · have hc2 : z2 = 0 := hc
        refine xW.seg (pc1 := 31) (L1 := [(0, vr 12 230), (1, vi z), (2, vl d), (4, vi e), (5, vi z2), (6, vl d2), (8, vi e2)]) (st1 := [vi 1]) (h1 := xhp (tm_clearRow s)) 2 (fun _ _ _ _ => rfl) ?_
        refine xW.to (v := vi (zb ((!decide (z = 0)) && ((decide (z2 = 0)) || (!decide ((tm_compare d e d2 e2) < 0)))))) (zb_t (by simp only [decide_eq_false hc1, decide_eq_true hc2, Bool.true_or, Bool.or_true, Bool.false_or, Bool.or_false, Bool.true_and, Bool.and_true, Bool.false_and, Bool.and_false, Bool.not_true, Bool.not_false, cond_true, cond_false])) ?_
        exact J
      · have hc2 : ¬ (z2 = 0) := hc
        refine xW.call (y := 37) (as := [vl d, vi e, vl d2, vi e2]) (h0 := xhp (tm_clearRow s)) (pc0 := 20) (len := 3) (L0 := [(0, vr 12 230), (1, vi z), (2, vl d), (4, vi e), (5, vi z2), (6, vl d2), (8, vi e2)]) (rest := []) 5 (fun _ _ _ _ => rfl) (m37 _ _ _ _ _ ?_)
        show xW (xX0 xs Ls) p38 23 [(0, vr 12 230), (1, vi z), (2, vl d), (4, vi e), (5, vi z2), (6, vl d2), (8, vi e2)] [vi (tm_compare d e d2 e2)] (xhp (tm_clearRow s)) Φ
        refine xW.br (c := (tm_compare d e d2 e2) < 0) (pc1 := 30) (L1 := [(0, vr 12 230), (1, vi z), (2, vl d), (4, vi e), (5, vi z2), (6, vl d2), (8, vi e2)]) (st1 := []) (h1 := xhp (tm_clearRow s)) (pc2 := 26) (L2 := [(0, vr 12 230), (1, vi z), (2, vl d), (4, vi e), (5, vi z2), (6, vl d2), (8, vi e2)]) (st2 := []) (h2 := xhp (tm_clearRow s)) 1 (fun _ _ _ _ => rfl) (fun hc => ?_) (fun hc => ?_)
        · have hc3 : (tm_compare d e d2 e2) < 0 := hc
          refine xW.seg (pc1 := 31) (L1 := [(0, vr 12 230), (1, vi z), (2, vl d), (4, vi e), (5, vi z2), (6, vl d2), (8, vi e2)]) (st1 := [vi 0]) (h1 := xhp (tm_clearRow s)) 1 (fun _ _ _ _ => rfl) ?_
          refine xW.to (v := vi (zb ((!decide (z = 0)) && ((decide (z2 = 0)) || (!decide ((tm_compare d e d2 e2) < 0)))))) (zb_f (by simp only [decide_eq_false hc1, decide_eq_false hc2, decide_eq_true hc3, Bool.true_or, Bool.or_true, Bool.false_or, Bool.or_false, Bool.true_and, Bool.and_true, Bool.false_and, Bool.and_false, Bool.not_true, Bool.not_false, cond_true, cond_false])) ?_
          exact J
        · have hc3 : ¬ ((tm_compare d e d2 e2) < 0) := hc
          refine xW.seg (pc1 := 31) (L1 := [(0, vr 12 230), (1, vi z), (2, vl d), (4, vi e), (5, vi z2), (6, vl d2), (8, vi e2)]) (st1 := [vi 1]) (h1 := xhp (tm_clearRow s)) 2 (fun _ _ _ _ => rfl) ?_
          refine xW.to (v := vi (zb ((!decide (z = 0)) && ((decide (z2 = 0)) || (!decide ((tm_compare d e d2 e2) < 0)))))) (zb_t (by simp only [decide_eq_false hc1, decide_eq_false hc2, decide_eq_false hc3, Bool.true_or, Bool.or_true, Bool.false_or, Bool.or_false, Bool.true_and, Bool.and_true, Bool.false_and, Bool.and_false, Bool.not_true, Bool.not_false, cond_true, cond_false])) ?_
          exact J
  exact g
noncomputable def tm_add_d (s : xS) (z : Int32) (d : Int64) (e : Int32) (z2 : Int32) (d2 : Int64) (e2 : Int32) : Int32 × xS := (tm_add_31 (tm_clearRow s) z d e z2 d2 e2 (zb ((!decide (z = 0)) && ((decide (z2 = 0)) || (!decide ((tm_compare d e d2 e2) < 0))))))
noncomputable def tm_add : xS → Int32 → Int64 → Int32 → Int32 → Int64 → Int32 → Int32 × xS := Classical.choose (⟨tm_add_d, rfl⟩ : ∃ f, f = tm_add_d)
set_option maxRecDepth 100000 in
theorem tm_add_eq : tm_add = tm_add_d := Classical.choose_spec (⟨tm_add_d, rfl⟩ : ∃ f, f = tm_add_d)
def tm_add_ok (s : xS) (z : Int32) (d : Int64) (e : Int32) (z2 : Int32) (d2 : Int64) (e2 : Int32) : Prop := ((tm_clearRow_ok s) ∧ (tm_add_31_ok (tm_clearRow s) z d e z2 d2 e2 (zb ((!decide (z = 0)) && ((decide (z2 = 0)) || (!decide ((tm_compare d e d2 e2) < 0)))))))
set_option maxRecDepth 100000 in
theorem m38 {xs : Nat → Int32} {Ls : Nat} {Ψ : xO → xH → Prop} (s : xS) (z : Int32) (d : Int64) (e : Int32) (z2 : Int32) (d2 : Int64) (e2 : Int32) (gq : tm_add_ok s z d e z2 d2 e2) (h : Ψ (.inl (some (vi (tm_add s z d e z2 d2 e2).1))) (xhp (tm_add s z d e z2 d2 e2).2)) : xM (xX0 xs Ls) 38 [vr 12 230, vi z, vl d, vi e, vi z2, vl d2, vi e2] (xhp s) Ψ := by
  rw [tm_add_eq] at h
  unfold tm_add_d at h
  unfold tm_add_ok at gq
  exact xM.of (P := p38) rfl rfl rfl (b38_0 s z d e z2 d2 e2 (⟨gq.1, by replace gq := gq.2; exact n38_31 _ _ _ _ _ _ _ _ gq h⟩))
/-! tm_multiply -/
theorem b39_24 {xs : Nat → Int32} {Ls : Nat} {Φ : Option xV → xH → Prop} (s : xS) (x1 : Int32) (x4 : Int32) (x5 : Int32) (x6 : Int64) (x8 : Int32) (x9 : Int64) (x11 : Int32) (x12 : Int64) (x14 : Int32) (g : ((x14 < 0 → xW (xX0 xs Ls) p39 83 [(0, vr 12 230), (1, vi x1), (4, vi x4), (5, vi x5), (6, vl x6), (8, vi x8), (9, vl x9), (11, vi x11)] [] (xhp s) Φ) ∧ (¬ (x14 < 0) → ((vp_in ((x11 + x14) + 1) 256) ∧ ((vp_in ((x11 + x14) + 1) 256) ∧ xW (xX0 xs Ls) p39 24 [(0, vr 12 230), (1, vi x1), (4, vi x4), (5, vi x5), (6, vl x6), (8, vi x8), (9, vl x9), (11, vi x11), (12, vl (x12 / 10)), (14, vi (x14 + (-1)))] [] (xhp (sI s 242 (((x11 + x14) + 1).toNatClampNeg) ((gI s 242 (((x11 + x14) + 1).toNatClampNeg)) + (((x9 - x9 / 10 * 10).toInt32) * ((x12 - x12 / 10 * 10).toInt32))))) Φ))))) : xW (xX0 xs Ls) p39 24 [(0, vr 12 230), (1, vi x1), (4, vi x4), (5, vi x5), (6, vl x6), (8, vi x8), (9, vl x9), (11, vi x11), (12, vl x12), (14, vi x14)] [] (xhp s) Φ := by
  refine xW.br (c := x14 < 0) (pc1 := 83) (L1 := [(0, vr 12 230), (1, vi x1), (4, vi x4), (5, vi x5), (6, vl x6), (8, vi x8), (9, vl x9), (11, vi x11), (12, vl x12), (14, vi x14)]) (st1 := []) (h1 := xhp s) (pc2 := 29) (L2 := [(0, vr 12 230), (1, vi x1), (4, vi x4), (5, vi x5), (6, vl x6), (8, vi x8), (9, vl x9), (11, vi x11), (12, vl x12), (14, vi x14)]) (st2 := []) (h2 := xhp s) 2 (fun _ _ _ _ => rfl) (fun hc => ?_) (fun hc => ?_)
  · replace g := g.1 hc
    exact xW.locs (L := [(0, vr 12 230), (1, vi x1), (4, vi x4), (5, vi x5), (6, vl x6), (8, vi x8), (9, vl x9), (11, vi x11)]) ⟨rfl, rfl, rfl, rfl, rfl, rfl, rfl, rfl, trivial⟩ rfl g
  · replace g := g.2 hc
    refine xW.side (c := vp_in ((x11 + x14) + 1) 256) (pc1 := 52) (L1 := [(0, vr 12 230), (1, vi x1), (4, vi x4), (5, vi x5), (6, vl x6), (8, vi x8), (9, vl x9), (11, vi x11), (12, vl x12), (14, vi x14)]) (st1 := [vi (gI s 242 (((x11 + x14) + 1).toNatClampNeg)), vi ((x11 + x14) + 1), vr 40 242]) (h1 := xhp s) 15 (fun _ _ _ _ => rfl) g.1 ?_
    replace g := g.2
    refine xW.side (c := ¬ (10 : Int64) = 0) (pc1 := 58) (L1 := [(0, vr 12 230), (1, vi x1), (4, vi x4), (5, vi x5), (6, vl x6), (8, vi x8), (9, vl x9), (11, vi x11), (12, vl x12), (14, vi x14)]) (st1 := [vl (x9 - x9 / 10 * 10), vi (gI s 242 (((x11 + x14) + 1).toNatClampNeg)), vi ((x11 + x14) + 1), vr 40 242]) (h1 := xhp s) 3 (fun _ _ _ _ => rfl) (by decide) ?_
    refine xW.side (c := ¬ (10 : Int64) = 0) (pc1 := 65) (L1 := [(0, vr 12 230), (1, vi x1), (4, vi x4), (5, vi x5), (6, vl x6), (8, vi x8), (9, vl x9), (11, vi x11), (12, vl x12), (14, vi x14)]) (st1 := [vl (x12 - x12 / 10 * 10), vi ((x9 - x9 / 10 * 10).toInt32), vi (gI s 242 (((x11 + x14) + 1).toNatClampNeg)), vi ((x11 + x14) + 1), vr 40 242]) (h1 := xhp s) 4 (fun _ _ _ _ => rfl) (by decide) ?_
    refine xW.side (c := vp_in ((x11 + x14) + 1) 256) (pc1 := 69) (L1 := [(0, vr 12 230), (1, vi x1), (4, vi x4), (5, vi x5), (6, vl x6), (8, vi x8), (9, vl x9), (11, vi x11), (12, vl x12), (14, vi x14)]) (st1 := []) (h1 := xhp (sI s 242 (((x11 + x14) + 1).toNatClampNeg) ((gI s 242 (((x11 + x14) + 1).toNatClampNeg)) + (((x9 - x9 / 10 * 10).toInt32) * ((x12 - x12 / 10 * 10).toInt32))))) 4 (fun _ _ _ _ => rfl) g.1 ?_
    replace g := g.2
    refine xW.side (c := ¬ (10 : Int64) = 0) (pc1 := 75) (L1 := [(0, vr 12 230), (1, vi x1), (4, vi x4), (5, vi x5), (6, vl x6), (8, vi x8), (9, vl x9), (11, vi x11), (12, vl x12), (14, vi x14)]) (st1 := [vl (x12 / 10)]) (h1 := xhp (sI s 242 (((x11 + x14) + 1).toNatClampNeg) ((gI s 242 (((x11 + x14) + 1).toNatClampNeg)) + (((x9 - x9 / 10 * 10).toInt32) * ((x12 - x12 / 10 * 10).toInt32))))) 3 (fun _ _ _ _ => rfl) (by decide) ?_
    refine xW.seg (pc1 := 24) (L1 := [(14, vi (x14 + (-1))), (12, vl (x12 / 10)), (0, vr 12 230), (1, vi x1), (4, vi x4), (5, vi x5), (6, vl x6), (8, vi x8), (9, vl x9), (11, vi x11)]) (st1 := []) (h1 := xhp (sI s 242 (((x11 + x14) + 1).toNatClampNeg) ((gI s 242 (((x11 + x14) + 1).toNatClampNeg)) + (((x9 - x9 / 10 * 10).toInt32) * ((x12 - x12 / 10 * 10).toInt32))))) 3 (fun _ _ _ _ => rfl) ?_
    exact xW.locs (L := [(0, vr 12 230), (1, vi x1), (4, vi x4), (5, vi x5), (6, vl x6), (8, vi x8), (9, vl x9), (11, vi x11), (12, vl (x12 / 10)), (14, vi (x14 + (-1)))]) ⟨rfl, rfl, rfl, rfl, rfl, rfl, rfl, rfl, rfl, rfl, trivial⟩ rfl g
noncomputable def tm_multiply_24 : Nat → xS → Int32 → Int32 → Int32 → Int64 → Int32 → Int64 → Int32 → Int64 → Int32 → Int32 × Int32 × Int32 × Int64 × Int32 × Int64 × Int32 × xS
  | 0, s, _, _, _, _, _, _, _, _, _ => (0, 0, 0, 0, 0, 0, 0, s)
  | n + 1, s, x1, x4, x5, x6, x8, x9, x11, x12, x14 => (if x14 < 0 then (x1, x4, x5, x6, x8, x9, x11, s) else (tm_multiply_24 n (sI s 242 (((x11 + x14) + 1).toNatClampNeg) ((gI s 242 (((x11 + x14) + 1).toNatClampNeg)) + (((x9 - x9 / 10 * 10).toInt32) * ((x12 - x12 / 10 * 10).toInt32)))) x1 x4 x5 x6 x8 x9 x11 (x12 / 10) (x14 + (-1))))
def tm_multiply_24_ok : Nat → xS → Int32 → Int32 → Int32 → Int64 → Int32 → Int64 → Int32 → Int64 → Int32 → Prop
  | 0, _, _, _, _, _, _, _, _, _, _ => False
  | n + 1, s, x1, x4, x5, x6, x8, x9, x11, x12, x14 => ((x14 < 0 → True) ∧ (¬ (x14 < 0) → ((vp_in ((x11 + x14) + 1) 256) ∧ ((vp_in ((x11 + x14) + 1) 256) ∧ (tm_multiply_24_ok n (sI s 242 (((x11 + x14) + 1).toNatClampNeg) ((gI s 242 (((x11 + x14) + 1).toNatClampNeg)) + (((x9 - x9 / 10 * 10).toInt32) * ((x12 - x12 / 10 * 10).toInt32)))) x1 x4 x5 x6 x8 x9 x11 (x12 / 10) (x14 + (-1)))))))
set_option maxRecDepth 100000 in
theorem n39_24 {xs : Nat → Int32} {Ls : Nat} {Φ : Option xV → xH → Prop} : ∀ (n : Nat) (s : xS) (x1 : Int32) (x4 : Int32) (x5 : Int32) (x6 : Int64) (x8 : Int32) (x9 : Int64) (x11 : Int32) (x12 : Int64) (x14 : Int32), tm_multiply_24_ok n s x1 x4 x5 x6 x8 x9 x11 x12 x14 → xW (xX0 xs Ls) p39 83 [(0, vr 12 230), (1, vi (tm_multiply_24 n s x1 x4 x5 x6 x8 x9 x11 x12 x14).1), (4, vi (tm_multiply_24 n s x1 x4 x5 x6 x8 x9 x11 x12 x14).2.1), (5, vi (tm_multiply_24 n s x1 x4 x5 x6 x8 x9 x11 x12 x14).2.2.1), (6, vl (tm_multiply_24 n s x1 x4 x5 x6 x8 x9 x11 x12 x14).2.2.2.1), (8, vi (tm_multiply_24 n s x1 x4 x5 x6 x8 x9 x11 x12 x14).2.2.2.2.1), (9, vl (tm_multiply_24 n s x1 x4 x5 x6 x8 x9 x11 x12 x14).2.2.2.2.2.1), (11, vi (tm_multiply_24 n s x1 x4 x5 x6 x8 x9 x11 x12 x14).2.2.2.2.2.2.1)] [] (xhp (tm_multiply_24 n s x1 x4 x5 x6 x8 x9 x11 x12 x14).2.2.2.2.2.2.2) Φ → xW (xX0 xs Ls) p39 24 [(0, vr 12 230), (1, vi x1), (4, vi x4), (5, vi x5), (6, vl x6), (8, vi x8), (9, vl x9), (11, vi x11), (12, vl x12), (14, vi x14)] [] (xhp s) Φ := by
  intro n
  induction n with
  | zero => intro s _ _ _ _ _ _ _ _ _ gq; exact gq.elim
  | succ n ih =>
    intro s x1 x4 x5 x6 x8 x9 x11 x12 x14 gq h
    unfold tm_multiply_24_ok at gq
    unfold tm_multiply_24 at h
    exact b39_24 s x1 x4 x5 x6 x8 x9 x11 x12 x14 (⟨fun hc => by rw [if_pos hc] at h; replace gq := gq.1 hc; exact h, fun hc => by rw [if_neg hc] at h; replace gq := gq.2 hc; exact ⟨gq.1, by replace gq := gq.2; exact ⟨gq.1, by replace gq := gq.2; exact ih _ _ _ _ _ _ _ _ _ _ gq h⟩⟩⟩)
set_option maxRecDepth 100000 in
theorem b39_101 {xs : Nat → Int32} {Ls : Nat} {Φ : Option xV → xH → Prop} (s : xS) (x1 : Int32) (x4 : Int32) (x5 : Int32) (x8 : Int32) (x11 : Int32) (g : ((x11 ≤ 0 → ((tm_round_ok s (x1 * x5) ((x4 + x8) + 1) (if (x1 * x5) = 0 then (0 : Int32) else 24) 0) ∧ Φ (some (vi ((tm_round s (x1 * x5) ((x4 + x8) + 1) (if (x1 * x5) = 0 then (0 : Int32) else 24) 0).1))) (xhp ((tm_round s (x1 * x5) ((x4 + x8) + 1) (if (x1 * x5) = 0 then (0 : Int32) else 24) 0).2)))) ∧ (¬ (x11 ≤ 0) → ((vp_in (x11 - 1) 256) ∧ ((vp_in x11 256) ∧ ((vp_in (x11 - 1) 256) ∧ ((vp_in x11 256) ∧ ((vp_in x11 256) ∧ xW (xX0 xs Ls) p39 101 [(0, vr 12 230), (1, vi x1), (4, vi x4), (5, vi x5), (8, vi x8), (11, vi (x11 + (-1)))] [] (xhp (sI (sI s 242 ((x11 - 1).toNatClampNeg) ((gI s 242 ((x11 - 1).toNatClampNeg)) + ((gI s 242 x11.toNatClampNeg) / 10))) 242 x11.toNatClampNeg ((gI (sI s 242 ((x11 - 1).toNatClampNeg) ((gI s 242 ((x11 - 1).toNatClampNeg)) + ((gI s 242 x11.toNatClampNeg) / 10))) 242 x11.toNatClampNeg) - (gI (sI s 242 ((x11 - 1).toNatClampNeg) ((gI s 242 ((x11 - 1).toNatClampNeg)) + ((gI s 242 x11.toNatClampNeg) / 10))) 242 x11.toNatClampNeg) / 10 * 10))) Φ)))))))) : xW (xX0 xs Ls) p39 101 [(0, vr 12 230), (1, vi x1), (4, vi x4), (5, vi x5), (8, vi x8), (11, vi x11)] [] (xhp s) Φ := by
  refine xW.br (c := x11 ≤ 0) (pc1 := 158) (L1 := [(0, vr 12 230), (1, vi x1), (4, vi x4), (5, vi x5), (8, vi x8), (11, vi x11)]) (st1 := []) (h1 := xhp s) (pc2 := 106) (L2 := [(0, vr 12 230), (1, vi x1), (4, vi x4), (5, vi x5), (8, vi x8), (11, vi x11)]) (st2 := []) (h2 := xhp s) 2 (fun _ _ _ _ => rfl) (fun hc => ?_) (fun hc => ?_)
  · replace g := g.1 hc
    refine xW.seg (pc1 := 174) (L1 := [(0, vr 12 230), (1, vi x1), (4, vi x4), (5, vi x5), (8, vi x8), (11, vi x11)]) (st1 := [vi (x1 * x5), vi ((x4 + x8) + 1), vi (x1 * x5), vr 12 230]) (h1 := xhp s) 12 (fun _ _ _ _ => rfl) ?_
    suffices J : xW (xX0 xs Ls) p39 183 [(0, vr 12 230), (1, vi x1), (4, vi x4), (5, vi x5), (8, vi x8), (11, vi x11)] [vi (if (x1 * x5) = 0 then (0 : Int32) else 24), vi ((x4 + x8) + 1), vi (x1 * x5), vr 12 230] (xhp s) Φ by
      refine xW.br (c := ¬ (x1 * x5) = 0) (pc1 := 181) (L1 := [(0, vr 12 230), (1, vi x1), (4, vi x4), (5, vi x5), (8, vi x8), (11, vi x11)]) (st1 := [vi ((x4 + x8) + 1), vi (x1 * x5), vr 12 230]) (h1 := xhp s) (pc2 := 177) (L2 := [(0, vr 12 230), (1, vi x1), (4, vi x4), (5, vi x5), (8, vi x8), (11, vi x11)]) (st2 := [vi ((x4 + x8) + 1), vi (x1 * x5), vr 12 230]) (h2 := xhp s) 1 (fun _ _ _ _ => rfl) (fun hc => ?_) (fun hc => ?_)
      · have hc1 : ¬ (x1 * x5) = 0 := hc
        refine xW.seg (pc1 := 183) (L1 := [(0, vr 12 230), (1, vi x1), (4, vi x4), (5, vi x5), (8, vi x8), (11, vi x11)]) (st1 := [vi 24, vi ((x4 + x8) + 1), vi (x1 * x5), vr 12 230]) (h1 := xhp s) 1 (fun _ _ _ _ => rfl) ?_
        refine xW.to (v := vi (if (x1 * x5) = 0 then (0 : Int32) else 24)) ((congrArg vi (if_neg hc1)).symm) ?_
        exact J
      · have hc1 : (x1 * x5) = 0 := (Decidable.not_not.mp hc)
        refine xW.seg (pc1 := 183) (L1 := [(0, vr 12 230), (1, vi x1), (4, vi x4), (5, vi x5), (8, vi x8), (11, vi x11)]) (st1 := [vi 0, vi ((x4 + x8) + 1), vi (x1 * x5), vr 12 230]) (h1 := xhp s) 2 (fun _ _ _ _ => rfl) ?_
        refine xW.to (v := vi (if (x1 * x5) = 0 then (0 : Int32) else 24)) ((congrArg vi (if_pos hc1)).symm) ?_
        exact J
    refine xW.call (y := 35) (as := [vr 12 230, vi (x1 * x5), vi ((x4 + x8) + 1), vi (if (x1 * x5) = 0 then (0 : Int32) else 24), vi 0]) (h0 := xhp s) (pc0 := 184) (len := 3) (L0 := [(0, vr 12 230), (1, vi x1), (4, vi x4), (5, vi x5), (8, vi x8), (11, vi x11)]) (rest := []) 2 (fun _ _ _ _ => rfl) (m35 _ _ _ _ _ g.1 ?_)
    show xW (xX0 xs Ls) p39 187 [(0, vr 12 230), (1, vi x1), (4, vi x4), (5, vi x5), (8, vi x8), (11, vi x11)] [vi ((tm_round s (x1 * x5) ((x4 + x8) + 1) (if (x1 * x5) = 0 then (0 : Int32) else 24) 0).1)] (xhp ((tm_round s (x1 * x5) ((x4 + x8) + 1) (if (x1 * x5) = 0 then (0 : Int32) else 24) 0).2)) Φ
    replace g := g.2
    exact xW.ret (v0 := some (vi ((tm_round s (x1 * x5) ((x4 + x8) + 1) (if (x1 * x5) = 0 then (0 : Int32) else 24) 0).1))) (h1 := xhp ((tm_round s (x1 * x5) ((x4 + x8) + 1) (if (x1 * x5) = 0 then (0 : Int32) else 24) 0).2)) 1 (fun _ _ _ _ => rfl) g
  · replace g := g.2 hc
    refine xW.side (c := vp_in (x11 - 1) 256) (pc1 := 123) (L1 := [(0, vr 12 230), (1, vi x1), (4, vi x4), (5, vi x5), (8, vi x8), (11, vi x11)]) (st1 := [vi (gI s 242 ((x11 - 1).toNatClampNeg)), vi (x11 - 1), vr 40 242]) (h1 := xhp s) 11 (fun _ _ _ _ => rfl) g.1 ?_
    replace g := g.2
    refine xW.side (c := vp_in x11 256) (pc1 := 130) (L1 := [(0, vr 12 230), (1, vi x1), (4, vi x4), (5, vi x5), (8, vi x8), (11, vi x11)]) (st1 := [vi (gI s 242 x11.toNatClampNeg), vi (gI s 242 ((x11 - 1).toNatClampNeg)), vi (x11 - 1), vr 40 242]) (h1 := xhp s) 4 (fun _ _ _ _ => rfl) g.1 ?_
    replace g := g.2
    refine xW.side (c := ¬ (10 : Int32) = 0) (pc1 := 133) (L1 := [(0, vr 12 230), (1, vi x1), (4, vi x4), (5, vi x5), (8, vi x8), (11, vi x11)]) (st1 := [vi ((gI s 242 x11.toNatClampNeg) / 10), vi (gI s 242 ((x11 - 1).toNatClampNeg)), vi (x11 - 1), vr 40 242]) (h1 := xhp s) 2 (fun _ _ _ _ => rfl) (by decide) ?_
    refine xW.side (c := vp_in (x11 - 1) 256) (pc1 := 135) (L1 := [(0, vr 12 230), (1, vi x1), (4, vi x4), (5, vi x5), (8, vi x8), (11, vi x11)]) (st1 := []) (h1 := xhp (sI s 242 ((x11 - 1).toNatClampNeg) ((gI s 242 ((x11 - 1).toNatClampNeg)) + ((gI s 242 x11.toNatClampNeg) / 10)))) 2 (fun _ _ _ _ => rfl) g.1 ?_
    replace g := g.2
    refine xW.side (c := vp_in x11 256) (pc1 := 148) (L1 := [(0, vr 12 230), (1, vi x1), (4, vi x4), (5, vi x5), (8, vi x8), (11, vi x11)]) (st1 := [vi (gI (sI s 242 ((x11 - 1).toNatClampNeg) ((gI s 242 ((x11 - 1).toNatClampNeg)) + ((gI s 242 x11.toNatClampNeg) / 10))) 242 x11.toNatClampNeg), vi x11, vr 40 242]) (h1 := xhp (sI s 242 ((x11 - 1).toNatClampNeg) ((gI s 242 ((x11 - 1).toNatClampNeg)) + ((gI s 242 x11.toNatClampNeg) / 10)))) 7 (fun _ _ _ _ => rfl) g.1 ?_
    replace g := g.2
    refine xW.side (c := ¬ (10 : Int32) = 0) (pc1 := 151) (L1 := [(0, vr 12 230), (1, vi x1), (4, vi x4), (5, vi x5), (8, vi x8), (11, vi x11)]) (st1 := [vi ((gI (sI s 242 ((x11 - 1).toNatClampNeg) ((gI s 242 ((x11 - 1).toNatClampNeg)) + ((gI s 242 x11.toNatClampNeg) / 10))) 242 x11.toNatClampNeg) - (gI (sI s 242 ((x11 - 1).toNatClampNeg) ((gI s 242 ((x11 - 1).toNatClampNeg)) + ((gI s 242 x11.toNatClampNeg) / 10))) 242 x11.toNatClampNeg) / 10 * 10), vi x11, vr 40 242]) (h1 := xhp (sI s 242 ((x11 - 1).toNatClampNeg) ((gI s 242 ((x11 - 1).toNatClampNeg)) + ((gI s 242 x11.toNatClampNeg) / 10)))) 2 (fun _ _ _ _ => rfl) (by decide) ?_
    refine xW.side (c := vp_in x11 256) (pc1 := 152) (L1 := [(0, vr 12 230), (1, vi x1), (4, vi x4), (5, vi x5), (8, vi x8), (11, vi x11)]) (st1 := []) (h1 := xhp (sI (sI s 242 ((x11 - 1).toNatClampNeg) ((gI s 242 ((x11 - 1).toNatClampNeg)) + ((gI s 242 x11.toNatClampNeg) / 10))) 242 x11.toNatClampNeg ((gI (sI s 242 ((x11 - 1).toNatClampNeg) ((gI s 242 ((x11 - 1).toNatClampNeg)) + ((gI s 242 x11.toNatClampNeg) / 10))) 242 x11.toNatClampNeg) - (gI (sI s 242 ((x11 - 1).toNatClampNeg) ((gI s 242 ((x11 - 1).toNatClampNeg)) + ((gI s 242 x11.toNatClampNeg) / 10))) 242 x11.toNatClampNeg) / 10 * 10))) 1 (fun _ _ _ _ => rfl) g.1 ?_
    replace g := g.2
    refine xW.seg (pc1 := 101) (L1 := [(11, vi (x11 + (-1))), (0, vr 12 230), (1, vi x1), (4, vi x4), (5, vi x5), (8, vi x8)]) (st1 := []) (h1 := xhp (sI (sI s 242 ((x11 - 1).toNatClampNeg) ((gI s 242 ((x11 - 1).toNatClampNeg)) + ((gI s 242 x11.toNatClampNeg) / 10))) 242 x11.toNatClampNeg ((gI (sI s 242 ((x11 - 1).toNatClampNeg) ((gI s 242 ((x11 - 1).toNatClampNeg)) + ((gI s 242 x11.toNatClampNeg) / 10))) 242 x11.toNatClampNeg) - (gI (sI s 242 ((x11 - 1).toNatClampNeg) ((gI s 242 ((x11 - 1).toNatClampNeg)) + ((gI s 242 x11.toNatClampNeg) / 10))) 242 x11.toNatClampNeg) / 10 * 10))) 2 (fun _ _ _ _ => rfl) ?_
    exact xW.locs (L := [(0, vr 12 230), (1, vi x1), (4, vi x4), (5, vi x5), (8, vi x8), (11, vi (x11 + (-1)))]) ⟨rfl, rfl, rfl, rfl, rfl, rfl, trivial⟩ rfl g
noncomputable def tm_multiply_101 : Nat → xS → Int32 → Int32 → Int32 → Int32 → Int32 → Int32 × xS
  | 0, s, _, _, _, _, _ => (0, s)
  | n + 1, s, x1, x4, x5, x8, x11 => (if x11 ≤ 0 then (tm_round s (x1 * x5) ((x4 + x8) + 1) (if (x1 * x5) = 0 then (0 : Int32) else 24) 0) else (tm_multiply_101 n (sI (sI s 242 ((x11 - 1).toNatClampNeg) ((gI s 242 ((x11 - 1).toNatClampNeg)) + ((gI s 242 x11.toNatClampNeg) / 10))) 242 x11.toNatClampNeg ((gI (sI s 242 ((x11 - 1).toNatClampNeg) ((gI s 242 ((x11 - 1).toNatClampNeg)) + ((gI s 242 x11.toNatClampNeg) / 10))) 242 x11.toNatClampNeg) - (gI (sI s 242 ((x11 - 1).toNatClampNeg) ((gI s 242 ((x11 - 1).toNatClampNeg)) + ((gI s 242 x11.toNatClampNeg) / 10))) 242 x11.toNatClampNeg) / 10 * 10)) x1 x4 x5 x8 (x11 + (-1))))
def tm_multiply_101_ok : Nat → xS → Int32 → Int32 → Int32 → Int32 → Int32 → Prop
  | 0, _, _, _, _, _, _ => False
  | n + 1, s, x1, x4, x5, x8, x11 => ((x11 ≤ 0 → (tm_round_ok s (x1 * x5) ((x4 + x8) + 1) (if (x1 * x5) = 0 then (0 : Int32) else 24) 0)) ∧ (¬ (x11 ≤ 0) → ((vp_in (x11 - 1) 256) ∧ ((vp_in x11 256) ∧ ((vp_in (x11 - 1) 256) ∧ ((vp_in x11 256) ∧ ((vp_in x11 256) ∧ (tm_multiply_101_ok n (sI (sI s 242 ((x11 - 1).toNatClampNeg) ((gI s 242 ((x11 - 1).toNatClampNeg)) + ((gI s 242 x11.toNatClampNeg) / 10))) 242 x11.toNatClampNeg ((gI (sI s 242 ((x11 - 1).toNatClampNeg) ((gI s 242 ((x11 - 1).toNatClampNeg)) + ((gI s 242 x11.toNatClampNeg) / 10))) 242 x11.toNatClampNeg) - (gI (sI s 242 ((x11 - 1).toNatClampNeg) ((gI s 242 ((x11 - 1).toNatClampNeg)) + ((gI s 242 x11.toNatClampNeg) / 10))) 242 x11.toNatClampNeg) / 10 * 10)) x1 x4 x5 x8 (x11 + (-1))))))))))
set_option maxRecDepth 100000 in
theorem n39_101 {xs : Nat → Int32} {Ls : Nat} {Φ : Option xV → xH → Prop} : ∀ (n : Nat) (s : xS) (x1 : Int32) (x4 : Int32) (x5 : Int32) (x8 : Int32) (x11 : Int32), tm_multiply_101_ok n s x1 x4 x5 x8 x11 → Φ (some (vi (tm_multiply_101 n s x1 x4 x5 x8 x11).1)) (xhp (tm_multiply_101 n s x1 x4 x5 x8 x11).2) → xW (xX0 xs Ls) p39 101 [(0, vr 12 230), (1, vi x1), (4, vi x4), (5, vi x5), (8, vi x8), (11, vi x11)] [] (xhp s) Φ := by
  intro n
  induction n with
  | zero => intro s _ _ _ _ _ gq; exact gq.elim
  | succ n ih =>
    intro s x1 x4 x5 x8 x11 gq h
    unfold tm_multiply_101_ok at gq
    unfold tm_multiply_101 at h
    exact b39_101 s x1 x4 x5 x8 x11 (⟨fun hc => by rw [if_pos hc] at h; replace gq := gq.1 hc; exact ⟨gq, (by (try dsimp only at h); exact h)⟩, fun hc => by rw [if_neg hc] at h; replace gq := gq.2 hc; exact ⟨gq.1, by replace gq := gq.2; exact ⟨gq.1, by replace gq := gq.2; exact ⟨gq.1, by replace gq := gq.2; exact ⟨gq.1, by replace gq := gq.2; exact ⟨gq.1, by replace gq := gq.2; exact ih _ _ _ _ _ _ gq h⟩⟩⟩⟩⟩⟩)
set_option maxRecDepth 100000 in
theorem b39_11 {xs : Nat → Int32} {Ls : Nat} {Φ : Option xV → xH → Prop} (s : xS) (x1 : Int32) (x4 : Int32) (x5 : Int32) (x6 : Int64) (x8 : Int32) (x9 : Int64) (x11 : Int32) (g : ((x11 < 0 → xW (xX0 xs Ls) p39 101 [(0, vr 12 230), (1, vi x1), (4, vi x4), (5, vi x5), (8, vi x8), (11, vi 23)] [] (xhp s) Φ) ∧ (¬ (x11 < 0) → ((tm_multiply_24_ok xfu s x1 x4 x5 x6 x8 x9 x11 x6 11) ∧ xW (xX0 xs Ls) p39 11 [(0, vr 12 230), (1, vi ((tm_multiply_24 xfu s x1 x4 x5 x6 x8 x9 x11 x6 11).1)), (4, vi ((tm_multiply_24 xfu s x1 x4 x5 x6 x8 x9 x11 x6 11).2.1)), (5, vi ((tm_multiply_24 xfu s x1 x4 x5 x6 x8 x9 x11 x6 11).2.2.1)), (6, vl ((tm_multiply_24 xfu s x1 x4 x5 x6 x8 x9 x11 x6 11).2.2.2.1)), (8, vi ((tm_multiply_24 xfu s x1 x4 x5 x6 x8 x9 x11 x6 11).2.2.2.2.1)), (9, vl ((tm_multiply_24 xfu s x1 x4 x5 x6 x8 x9 x11 x6 11).2.2.2.2.2.1 / 10)), (11, vi ((tm_multiply_24 xfu s x1 x4 x5 x6 x8 x9 x11 x6 11).2.2.2.2.2.2.1 + (-1)))] [] (xhp ((tm_multiply_24 xfu s x1 x4 x5 x6 x8 x9 x11 x6 11).2.2.2.2.2.2.2)) Φ)))) : xW (xX0 xs Ls) p39 11 [(0, vr 12 230), (1, vi x1), (4, vi x4), (5, vi x5), (6, vl x6), (8, vi x8), (9, vl x9), (11, vi x11)] [] (xhp s) Φ := by
  refine xW.br (c := x11 < 0) (pc1 := 97) (L1 := [(0, vr 12 230), (1, vi x1), (4, vi x4), (5, vi x5), (6, vl x6), (8, vi x8), (9, vl x9), (11, vi x11)]) (st1 := []) (h1 := xhp s) (pc2 := 16) (L2 := [(0, vr 12 230), (1, vi x1), (4, vi x4), (5, vi x5), (6, vl x6), (8, vi x8), (9, vl x9), (11, vi x11)]) (st2 := []) (h2 := xhp s) 2 (fun _ _ _ _ => rfl) (fun hc => ?_) (fun hc => ?_)
  · replace g := g.1 hc
    refine xW.seg (pc1 := 101) (L1 := [(11, vi 23), (0, vr 12 230), (1, vi x1), (4, vi x4), (5, vi x5), (6, vl x6), (8, vi x8), (9, vl x9)]) (st1 := []) (h1 := xhp s) 2 (fun _ _ _ _ => rfl) ?_
    exact xW.locs (L := [(0, vr 12 230), (1, vi x1), (4, vi x4), (5, vi x5), (8, vi x8), (11, vi 23)]) ⟨rfl, rfl, rfl, rfl, rfl, rfl, trivial⟩ rfl g
  · replace g := g.2 hc
    refine xW.seg (pc1 := 24) (L1 := [(14, vi 11), (12, vl x6), (0, vr 12 230), (1, vi x1), (4, vi x4), (5, vi x5), (6, vl x6), (8, vi x8), (9, vl x9), (11, vi x11)]) (st1 := []) (h1 := xhp s) 4 (fun _ _ _ _ => rfl) ?_
    refine xW.locs (L := [(0, vr 12 230), (1, vi x1), (4, vi x4), (5, vi x5), (6, vl x6), (8, vi x8), (9, vl x9), (11, vi x11), (12, vl x6), (14, vi 11)]) ⟨rfl, rfl, rfl, rfl, rfl, rfl, rfl, rfl, rfl, rfl, trivial⟩ rfl ?_
    refine n39_24 xfu _ _ _ _ _ _ _ _ _ _ g.1 ?_
    replace g := g.2
    refine xW.side (c := ¬ (10 : Int64) = 0) (pc1 := 89) (L1 := [(0, vr 12 230), (1, vi ((tm_multiply_24 xfu s x1 x4 x5 x6 x8 x9 x11 x6 11).1)), (4, vi ((tm_multiply_24 xfu s x1 x4 x5 x6 x8 x9 x11 x6 11).2.1)), (5, vi ((tm_multiply_24 xfu s x1 x4 x5 x6 x8 x9 x11 x6 11).2.2.1)), (6, vl ((tm_multiply_24 xfu s x1 x4 x5 x6 x8 x9 x11 x6 11).2.2.2.1)), (8, vi ((tm_multiply_24 xfu s x1 x4 x5 x6 x8 x9 x11 x6 11).2.2.2.2.1)), (9, vl ((tm_multiply_24 xfu s x1 x4 x5 x6 x8 x9 x11 x6 11).2.2.2.2.2.1)), (11, vi ((tm_multiply_24 xfu s x1 x4 x5 x6 x8 x9 x11 x6 11).2.2.2.2.2.2.1))]) (st1 := [vl ((tm_multiply_24 xfu s x1 x4 x5 x6 x8 x9 x11 x6 11).2.2.2.2.2.1 / 10)]) (h1 := xhp ((tm_multiply_24 xfu s x1 x4 x5 x6 x8 x9 x11 x6 11).2.2.2.2.2.2.2)) 3 (fun _ _ _ _ => rfl) (by decide) ?_
    refine xW.seg (pc1 := 11) (L1 := [(11, vi ((tm_multiply_24 xfu s x1 x4 x5 x6 x8 x9 x11 x6 11).2.2.2.2.2.2.1 + (-1))), (9, vl ((tm_multiply_24 xfu s x1 x4 x5 x6 x8 x9 x11 x6 11).2.2.2.2.2.1 / 10)), (0, vr 12 230), (1, vi ((tm_multiply_24 xfu s x1 x4 x5 x6 x8 x9 x11 x6 11).1)), (4, vi ((tm_multiply_24 xfu s x1 x4 x5 x6 x8 x9 x11 x6 11).2.1)), (5, vi ((tm_multiply_24 xfu s x1 x4 x5 x6 x8 x9 x11 x6 11).2.2.1)), (6, vl ((tm_multiply_24 xfu s x1 x4 x5 x6 x8 x9 x11 x6 11).2.2.2.1)), (8, vi ((tm_multiply_24 xfu s x1 x4 x5 x6 x8 x9 x11 x6 11).2.2.2.2.1))]) (st1 := []) (h1 := xhp ((tm_multiply_24 xfu s x1 x4 x5 x6 x8 x9 x11 x6 11).2.2.2.2.2.2.2)) 3 (fun _ _ _ _ => rfl) ?_
    exact xW.locs (L := [(0, vr 12 230), (1, vi ((tm_multiply_24 xfu s x1 x4 x5 x6 x8 x9 x11 x6 11).1)), (4, vi ((tm_multiply_24 xfu s x1 x4 x5 x6 x8 x9 x11 x6 11).2.1)), (5, vi ((tm_multiply_24 xfu s x1 x4 x5 x6 x8 x9 x11 x6 11).2.2.1)), (6, vl ((tm_multiply_24 xfu s x1 x4 x5 x6 x8 x9 x11 x6 11).2.2.2.1)), (8, vi ((tm_multiply_24 xfu s x1 x4 x5 x6 x8 x9 x11 x6 11).2.2.2.2.1)), (9, vl ((tm_multiply_24 xfu s x1 x4 x5 x6 x8 x9 x11 x6 11).2.2.2.2.2.1 / 10)), (11, vi ((tm_multiply_24 xfu s x1 x4 x5 x6 x8 x9 x11 x6 11).2.2.2.2.2.2.1 + (-1)))]) ⟨rfl, rfl, rfl, rfl, rfl, rfl, rfl, rfl, trivial⟩ rfl g
noncomputable def tm_multiply_11 : Nat → xS → Int32 → Int32 → Int32 → Int64 → Int32 → Int64 → Int32 → Int32 × xS
  | 0, s, _, _, _, _, _, _, _ => (0, s)
  | n + 1, s, x1, x4, x5, x6, x8, x9, x11 => (if x11 < 0 then (tm_multiply_101 xfu s x1 x4 x5 x8 23) else (tm_multiply_11 n ((tm_multiply_24 xfu s x1 x4 x5 x6 x8 x9 x11 x6 11).2.2.2.2.2.2.2) ((tm_multiply_24 xfu s x1 x4 x5 x6 x8 x9 x11 x6 11).1) ((tm_multiply_24 xfu s x1 x4 x5 x6 x8 x9 x11 x6 11).2.1) ((tm_multiply_24 xfu s x1 x4 x5 x6 x8 x9 x11 x6 11).2.2.1) ((tm_multiply_24 xfu s x1 x4 x5 x6 x8 x9 x11 x6 11).2.2.2.1) ((tm_multiply_24 xfu s x1 x4 x5 x6 x8 x9 x11 x6 11).2.2.2.2.1) ((tm_multiply_24 xfu s x1 x4 x5 x6 x8 x9 x11 x6 11).2.2.2.2.2.1 / 10) ((tm_multiply_24 xfu s x1 x4 x5 x6 x8 x9 x11 x6 11).2.2.2.2.2.2.1 + (-1))))
def tm_multiply_11_ok : Nat → xS → Int32 → Int32 → Int32 → Int64 → Int32 → Int64 → Int32 → Prop
  | 0, _, _, _, _, _, _, _, _ => False
  | n + 1, s, x1, x4, x5, x6, x8, x9, x11 => ((x11 < 0 → (tm_multiply_101_ok xfu s x1 x4 x5 x8 23)) ∧ (¬ (x11 < 0) → ((tm_multiply_24_ok xfu s x1 x4 x5 x6 x8 x9 x11 x6 11) ∧ (tm_multiply_11_ok n ((tm_multiply_24 xfu s x1 x4 x5 x6 x8 x9 x11 x6 11).2.2.2.2.2.2.2) ((tm_multiply_24 xfu s x1 x4 x5 x6 x8 x9 x11 x6 11).1) ((tm_multiply_24 xfu s x1 x4 x5 x6 x8 x9 x11 x6 11).2.1) ((tm_multiply_24 xfu s x1 x4 x5 x6 x8 x9 x11 x6 11).2.2.1) ((tm_multiply_24 xfu s x1 x4 x5 x6 x8 x9 x11 x6 11).2.2.2.1) ((tm_multiply_24 xfu s x1 x4 x5 x6 x8 x9 x11 x6 11).2.2.2.2.1) ((tm_multiply_24 xfu s x1 x4 x5 x6 x8 x9 x11 x6 11).2.2.2.2.2.1 / 10) ((tm_multiply_24 xfu s x1 x4 x5 x6 x8 x9 x11 x6 11).2.2.2.2.2.2.1 + (-1))))))
set_option maxRecDepth 100000 in
theorem n39_11 {xs : Nat → Int32} {Ls : Nat} {Φ : Option xV → xH → Prop} : ∀ (n : Nat) (s : xS) (x1 : Int32) (x4 : Int32) (x5 : Int32) (x6 : Int64) (x8 : Int32) (x9 : Int64) (x11 : Int32), tm_multiply_11_ok n s x1 x4 x5 x6 x8 x9 x11 → Φ (some (vi (tm_multiply_11 n s x1 x4 x5 x6 x8 x9 x11).1)) (xhp (tm_multiply_11 n s x1 x4 x5 x6 x8 x9 x11).2) → xW (xX0 xs Ls) p39 11 [(0, vr 12 230), (1, vi x1), (4, vi x4), (5, vi x5), (6, vl x6), (8, vi x8), (9, vl x9), (11, vi x11)] [] (xhp s) Φ := by
  intro n
  induction n with
  | zero => intro s _ _ _ _ _ _ _ gq; exact gq.elim
  | succ n ih =>
    intro s x1 x4 x5 x6 x8 x9 x11 gq h
    unfold tm_multiply_11_ok at gq
    unfold tm_multiply_11 at h
    exact b39_11 s x1 x4 x5 x6 x8 x9 x11 (⟨fun hc => by rw [if_pos hc] at h; replace gq := gq.1 hc; exact n39_101 _ _ _ _ _ _ _ gq h, fun hc => by rw [if_neg hc] at h; replace gq := gq.2 hc; exact ⟨gq.1, by replace gq := gq.2; exact ih _ _ _ _ _ _ _ _ gq h⟩⟩)
set_option maxRecDepth 100000 in
theorem b39_0 {xs : Nat → Int32} {Ls : Nat} {Φ : Option xV → xH → Prop} (s : xS) (z : Int32) (d : Int64) (e : Int32) (z2 : Int32) (d2 : Int64) (e2 : Int32) (g : ((tm_clearRow_ok s) ∧ xW (xX0 xs Ls) p39 11 [(0, vr 12 230), (1, vi z), (4, vi e), (5, vi z2), (6, vl d2), (8, vi e2), (9, vl d), (11, vi 11)] [] (xhp (tm_clearRow s)) Φ)) : xW (xX0 xs Ls) p39 0 [(0, vr 12 230), (1, vi z), (2, vl d), (4, vi e), (5, vi z2), (6, vl d2), (8, vi e2)] [] (xhp s) Φ := by
  refine xW.call (y := 34) (as := [vr 12 230]) (h0 := xhp s) (pc0 := 1) (len := 3) (L0 := [(0, vr 12 230), (1, vi z), (2, vl d), (4, vi e), (5, vi z2), (6, vl d2), (8, vi e2)]) (rest := []) 2 (fun _ _ _ _ => rfl) (m34 _ g.1 ?_)
  show xW (xX0 xs Ls) p39 4 [(0, vr 12 230), (1, vi z), (2, vl d), (4, vi e), (5, vi z2), (6, vl d2), (8, vi e2)] [] (xhp (tm_clearRow s)) Φ
  replace g := g.2
  refine xW.seg (pc1 := 11) (L1 := [(11, vi 11), (9, vl d), (0, vr 12 230), (1, vi z), (2, vl d), (4, vi e), (5, vi z2), (6, vl d2), (8, vi e2)]) (st1 := []) (h1 := xhp (tm_clearRow s)) 4 (fun _ _ _ _ => rfl) ?_
  exact xW.locs (L := [(0, vr 12 230), (1, vi z), (4, vi e), (5, vi z2), (6, vl d2), (8, vi e2), (9, vl d), (11, vi 11)]) ⟨rfl, rfl, rfl, rfl, rfl, rfl, rfl, rfl, trivial⟩ rfl g
noncomputable def tm_multiply_d (s : xS) (z : Int32) (d : Int64) (e : Int32) (z2 : Int32) (d2 : Int64) (e2 : Int32) : Int32 × xS := (tm_multiply_11 xfu (tm_clearRow s) z e z2 d2 e2 d 11)
noncomputable def tm_multiply : xS → Int32 → Int64 → Int32 → Int32 → Int64 → Int32 → Int32 × xS := Classical.choose (⟨tm_multiply_d, rfl⟩ : ∃ f, f = tm_multiply_d)
set_option maxRecDepth 100000 in
theorem tm_multiply_eq : tm_multiply = tm_multiply_d := Classical.choose_spec (⟨tm_multiply_d, rfl⟩ : ∃ f, f = tm_multiply_d)
def tm_multiply_ok (s : xS) (z : Int32) (d : Int64) (e : Int32) (z2 : Int32) (d2 : Int64) (e2 : Int32) : Prop := ((tm_clearRow_ok s) ∧ (tm_multiply_11_ok xfu (tm_clearRow s) z e z2 d2 e2 d 11))
set_option maxRecDepth 100000 in
theorem m39 {xs : Nat → Int32} {Ls : Nat} {Ψ : xO → xH → Prop} (s : xS) (z : Int32) (d : Int64) (e : Int32) (z2 : Int32) (d2 : Int64) (e2 : Int32) (gq : tm_multiply_ok s z d e z2 d2 e2) (h : Ψ (.inl (some (vi (tm_multiply s z d e z2 d2 e2).1))) (xhp (tm_multiply s z d e z2 d2 e2).2)) : xM (xX0 xs Ls) 39 [vr 12 230, vi z, vl d, vi e, vi z2, vl d2, vi e2] (xhp s) Ψ := by
  rw [tm_multiply_eq] at h
  unfold tm_multiply_d at h
  unfold tm_multiply_ok at gq
  exact xM.of (P := p39) rfl rfl rfl (b39_0 s z d e z2 d2 e2 (⟨gq.1, by replace gq := gq.2; exact n39_11 _ _ _ _ _ _ _ _ _ gq h⟩))
/-! tm_divide -/
theorem b40_17 {xs : Nat → Int32} {Ls : Nat} {Φ : Option xV → xH → Prop} (s : xS) (x1 : Int32) (x4 : Int32) (x5 : Int32) (x6 : Int64) (x8 : Int32) (x9 : Int64) (x11 : Int32) (g : ((16 ≤ x11 → ((tm_round_ok s (x1 * x5) (x4 - x8) (if x1 = 0 then (0 : Int32) else 16) (zb (!decide (x9 ≤ 0)))) ∧ Φ (some (vi ((tm_round s (x1 * x5) (x4 - x8) (if x1 = 0 then (0 : Int32) else 16) (zb (!decide (x9 ≤ 0)))).1))) (xhp ((tm_round s (x1 * x5) (x4 - x8) (if x1 = 0 then (0 : Int32) else 16) (zb (!decide (x9 ≤ 0)))).2)))) ∧ (¬ (16 ≤ x11) → ((¬ x6 = 0) ∧ ((vp_in x11 256) ∧ ((¬ x6 = 0) ∧ xW (xX0 xs Ls) p40 17 [(0, vr 12 230), (1, vi x1), (4, vi x4), (5, vi x5), (6, vl x6), (8, vi x8), (9, vl ((x9 - x9 / x6 * x6) * 10)), (11, vi (x11 + 1))] [] (xhp (sI s 242 x11.toNatClampNeg ((x9 / x6).toInt32))) Φ)))))) : xW (xX0 xs Ls) p40 17 [(0, vr 12 230), (1, vi x1), (4, vi x4), (5, vi x5), (6, vl x6), (8, vi x8), (9, vl x9), (11, vi x11)] [] (xhp s) Φ := by
  refine xW.br (c := 16 ≤ x11) (pc1 := 54) (L1 := [(0, vr 12 230), (1, vi x1), (4, vi x4), (5, vi x5), (6, vl x6), (8, vi x8), (9, vl x9), (11, vi x11)]) (st1 := []) (h1 := xhp s) (pc2 := 24) (L2 := [(0, vr 12 230), (1, vi x1), (4, vi x4), (5, vi x5), (6, vl x6), (8, vi x8), (9, vl x9), (11, vi x11)]) (st2 := []) (h2 := xhp s) 3 (fun _ _ _ _ => rfl) (fun hc => ?_) (fun hc => ?_)
  · replace g := g.1 hc
    refine xW.seg (pc1 := 65) (L1 := [(0, vr 12 230), (1, vi x1), (4, vi x4), (5, vi x5), (6, vl x6), (8, vi x8), (9, vl x9), (11, vi x11)]) (st1 := [vi x1, vi (x4 - x8), vi (x1 * x5), vr 12 230]) (h1 := xhp s) 8 (fun _ _ _ _ => rfl) ?_
    suffices J : xW (xX0 xs Ls) p40 74 [(0, vr 12 230), (1, vi x1), (4, vi x4), (5, vi x5), (6, vl x6), (8, vi x8), (9, vl x9), (11, vi x11)] [vi (if x1 = 0 then (0 : Int32) else 16), vi (x4 - x8), vi (x1 * x5), vr 12 230] (xhp s) Φ by
      refine xW.br (c := ¬ x1 = 0) (pc1 := 72) (L1 := [(0, vr 12 230), (1, vi x1), (4, vi x4), (5, vi x5), (6, vl x6), (8, vi x8), (9, vl x9), (11, vi x11)]) (st1 := [vi (x4 - x8), vi (x1 * x5), vr 12 230]) (h1 := xhp s) (pc2 := 68) (L2 := [(0, vr 12 230), (1, vi x1), (4, vi x4), (5, vi x5), (6, vl x6), (8, vi x8), (9, vl x9), (11, vi x11)]) (st2 := [vi (x4 - x8), vi (x1 * x5), vr 12 230]) (h2 := xhp s) 1 (fun _ _ _ _ => rfl) (fun hc => ?_) (fun hc => ?_)
      · have hc1 : ¬ x1 = 0 := hc
        refine xW.seg (pc1 := 74) (L1 := [(0, vr 12 230), (1, vi x1), (4, vi x4), (5, vi x5), (6, vl x6), (8, vi x8), (9, vl x9), (11, vi x11)]) (st1 := [vi 16, vi (x4 - x8), vi (x1 * x5), vr 12 230]) (h1 := xhp s) 1 (fun _ _ _ _ => rfl) ?_
        refine xW.to (v := vi (if x1 = 0 then (0 : Int32) else 16)) ((congrArg vi (if_neg hc1)).symm) ?_
        exact J
      · have hc1 : x1 = 0 := (Decidable.not_not.mp hc)
        refine xW.seg (pc1 := 74) (L1 := [(0, vr 12 230), (1, vi x1), (4, vi x4), (5, vi x5), (6, vl x6), (8, vi x8), (9, vl x9), (11, vi x11)]) (st1 := [vi 0, vi (x4 - x8), vi (x1 * x5), vr 12 230]) (h1 := xhp s) 2 (fun _ _ _ _ => rfl) ?_
        refine xW.to (v := vi (if x1 = 0 then (0 : Int32) else 16)) ((congrArg vi (if_pos hc1)).symm) ?_
        exact J
    refine xW.seg (pc1 := 78) (L1 := [(0, vr 12 230), (1, vi x1), (4, vi x4), (5, vi x5), (6, vl x6), (8, vi x8), (9, vl x9), (11, vi x11)]) (st1 := [vi (lg_cmp x9 0), vi (if x1 = 0 then (0 : Int32) else 16), vi (x4 - x8), vi (x1 * x5), vr 12 230]) (h1 := xhp s) 3 (fun _ _ _ _ => rfl) ?_
    suffices J : xW (xX0 xs Ls) p40 86 [(0, vr 12 230), (1, vi x1), (4, vi x4), (5, vi x5), (6, vl x6), (8, vi x8), (9, vl x9), (11, vi x11)] [vi (zb (!decide (x9 ≤ 0))), vi (if x1 = 0 then (0 : Int32) else 16), vi (x4 - x8), vi (x1 * x5), vr 12 230] (xhp s) Φ by
      refine xW.br (c := (lg_cmp x9 0) ≤ 0) (pc1 := 85) (L1 := [(0, vr 12 230), (1, vi x1), (4, vi x4), (5, vi x5), (6, vl x6), (8, vi x8), (9, vl x9), (11, vi x11)]) (st1 := [vi (if x1 = 0 then (0 : Int32) else 16), vi (x4 - x8), vi (x1 * x5), vr 12 230]) (h1 := xhp s) (pc2 := 81) (L2 := [(0, vr 12 230), (1, vi x1), (4, vi x4), (5, vi x5), (6, vl x6), (8, vi x8), (9, vl x9), (11, vi x11)]) (st2 := [vi (if x1 = 0 then (0 : Int32) else 16), vi (x4 - x8), vi (x1 * x5), vr 12 230]) (h2 := xhp s) 1 (fun _ _ _ _ => rfl) (fun hc => ?_) (fun hc => ?_)
      · have hc2 : x9 ≤ 0 := (lc_le.mp hc)
        refine xW.seg (pc1 := 86) (L1 := [(0, vr 12 230), (1, vi x1), (4, vi x4), (5, vi x5), (6, vl x6), (8, vi x8), (9, vl x9), (11, vi x11)]) (st1 := [vi 0, vi (if x1 = 0 then (0 : Int32) else 16), vi (x4 - x8), vi (x1 * x5), vr 12 230]) (h1 := xhp s) 1 (fun _ _ _ _ => rfl) ?_
        refine xW.to (v := vi (zb (!decide (x9 ≤ 0)))) (zb_f (by simp only [decide_eq_true hc2, Bool.true_or, Bool.or_true, Bool.false_or, Bool.or_false, Bool.true_and, Bool.and_true, Bool.false_and, Bool.and_false, Bool.not_true, Bool.not_false, cond_true, cond_false])) ?_
        exact J
      · have hc2 : ¬ (x9 ≤ 0) := (fun q => hc (lc_le.mpr q))
        refine xW.seg (pc1 := 86) (L1 := [(0, vr 12 230), (1, vi x1), (4, vi x4), (5, vi x5), (6, vl x6), (8, vi x8), (9, vl x9), (11, vi x11)]) (st1 := [vi 1, vi (if x1 = 0 then (0 : Int32) else 16), vi (x4 - x8), vi (x1 * x5), vr 12 230]) (h1 := xhp s) 2 (fun _ _ _ _ => rfl) ?_
        refine xW.to (v := vi (zb (!decide (x9 ≤ 0)))) (zb_t (by simp only [decide_eq_false hc2, Bool.true_or, Bool.or_true, Bool.false_or, Bool.or_false, Bool.true_and, Bool.and_true, Bool.false_and, Bool.and_false, Bool.not_true, Bool.not_false, cond_true, cond_false])) ?_
        exact J
    refine xW.call (y := 35) (as := [vr 12 230, vi (x1 * x5), vi (x4 - x8), vi (if x1 = 0 then (0 : Int32) else 16), vi (zb (!decide (x9 ≤ 0)))]) (h0 := xhp s) (pc0 := 86) (len := 3) (L0 := [(0, vr 12 230), (1, vi x1), (4, vi x4), (5, vi x5), (6, vl x6), (8, vi x8), (9, vl x9), (11, vi x11)]) (rest := []) 1 (fun _ _ _ _ => rfl) (m35 _ _ _ _ _ g.1 ?_)
    show xW (xX0 xs Ls) p40 89 [(0, vr 12 230), (1, vi x1), (4, vi x4), (5, vi x5), (6, vl x6), (8, vi x8), (9, vl x9), (11, vi x11)] [vi ((tm_round s (x1 * x5) (x4 - x8) (if x1 = 0 then (0 : Int32) else 16) (zb (!decide (x9 ≤ 0)))).1)] (xhp ((tm_round s (x1 * x5) (x4 - x8) (if x1 = 0 then (0 : Int32) else 16) (zb (!decide (x9 ≤ 0)))).2)) Φ
    replace g := g.2
    exact xW.ret (v0 := some (vi ((tm_round s (x1 * x5) (x4 - x8) (if x1 = 0 then (0 : Int32) else 16) (zb (!decide (x9 ≤ 0)))).1))) (h1 := xhp ((tm_round s (x1 * x5) (x4 - x8) (if x1 = 0 then (0 : Int32) else 16) (zb (!decide (x9 ≤ 0)))).2)) 1 (fun _ _ _ _ => rfl) g
  · replace g := g.2 hc
    refine xW.side (c := ¬ x6 = 0) (pc1 := 35) (L1 := [(0, vr 12 230), (1, vi x1), (4, vi x4), (5, vi x5), (6, vl x6), (8, vi x8), (9, vl x9), (11, vi x11)]) (st1 := [vl (x9 / x6), vi x11, vr 40 242]) (h1 := xhp s) 6 (fun _ _ _ _ => rfl) g.1 ?_
    replace g := g.2
    refine xW.side (c := vp_in x11 256) (pc1 := 37) (L1 := [(0, vr 12 230), (1, vi x1), (4, vi x4), (5, vi x5), (6, vl x6), (8, vi x8), (9, vl x9), (11, vi x11)]) (st1 := []) (h1 := xhp (sI s 242 x11.toNatClampNeg ((x9 / x6).toInt32))) 2 (fun _ _ _ _ => rfl) g.1 ?_
    replace g := g.2
    refine xW.side (c := ¬ x6 = 0) (pc1 := 42) (L1 := [(0, vr 12 230), (1, vi x1), (4, vi x4), (5, vi x5), (6, vl x6), (8, vi x8), (9, vl x9), (11, vi x11)]) (st1 := [vl (x9 - x9 / x6 * x6)]) (h1 := xhp (sI s 242 x11.toNatClampNeg ((x9 / x6).toInt32))) 3 (fun _ _ _ _ => rfl) g.1 ?_
    replace g := g.2
    refine xW.seg (pc1 := 17) (L1 := [(11, vi (x11 + 1)), (9, vl ((x9 - x9 / x6 * x6) * 10)), (0, vr 12 230), (1, vi x1), (4, vi x4), (5, vi x5), (6, vl x6), (8, vi x8)]) (st1 := []) (h1 := xhp (sI s 242 x11.toNatClampNeg ((x9 / x6).toInt32))) 5 (fun _ _ _ _ => rfl) ?_
    exact xW.locs (L := [(0, vr 12 230), (1, vi x1), (4, vi x4), (5, vi x5), (6, vl x6), (8, vi x8), (9, vl ((x9 - x9 / x6 * x6) * 10)), (11, vi (x11 + 1))]) ⟨rfl, rfl, rfl, rfl, rfl, rfl, rfl, rfl, trivial⟩ rfl g
noncomputable def tm_divide_17 : Nat → xS → Int32 → Int32 → Int32 → Int64 → Int32 → Int64 → Int32 → Int32 × xS
  | 0, s, _, _, _, _, _, _, _ => (0, s)
  | n + 1, s, x1, x4, x5, x6, x8, x9, x11 => (if 16 ≤ x11 then (tm_round s (x1 * x5) (x4 - x8) (if x1 = 0 then (0 : Int32) else 16) (zb (!decide (x9 ≤ 0)))) else (tm_divide_17 n (sI s 242 x11.toNatClampNeg ((x9 / x6).toInt32)) x1 x4 x5 x6 x8 ((x9 - x9 / x6 * x6) * 10) (x11 + 1)))
def tm_divide_17_ok : Nat → xS → Int32 → Int32 → Int32 → Int64 → Int32 → Int64 → Int32 → Prop
  | 0, _, _, _, _, _, _, _, _ => False
  | n + 1, s, x1, x4, x5, x6, x8, x9, x11 => ((16 ≤ x11 → (tm_round_ok s (x1 * x5) (x4 - x8) (if x1 = 0 then (0 : Int32) else 16) (zb (!decide (x9 ≤ 0))))) ∧ (¬ (16 ≤ x11) → ((¬ x6 = 0) ∧ ((vp_in x11 256) ∧ ((¬ x6 = 0) ∧ (tm_divide_17_ok n (sI s 242 x11.toNatClampNeg ((x9 / x6).toInt32)) x1 x4 x5 x6 x8 ((x9 - x9 / x6 * x6) * 10) (x11 + 1)))))))
set_option maxRecDepth 100000 in
theorem n40_17 {xs : Nat → Int32} {Ls : Nat} {Φ : Option xV → xH → Prop} : ∀ (n : Nat) (s : xS) (x1 : Int32) (x4 : Int32) (x5 : Int32) (x6 : Int64) (x8 : Int32) (x9 : Int64) (x11 : Int32), tm_divide_17_ok n s x1 x4 x5 x6 x8 x9 x11 → Φ (some (vi (tm_divide_17 n s x1 x4 x5 x6 x8 x9 x11).1)) (xhp (tm_divide_17 n s x1 x4 x5 x6 x8 x9 x11).2) → xW (xX0 xs Ls) p40 17 [(0, vr 12 230), (1, vi x1), (4, vi x4), (5, vi x5), (6, vl x6), (8, vi x8), (9, vl x9), (11, vi x11)] [] (xhp s) Φ := by
  intro n
  induction n with
  | zero => intro s _ _ _ _ _ _ _ gq; exact gq.elim
  | succ n ih =>
    intro s x1 x4 x5 x6 x8 x9 x11 gq h
    unfold tm_divide_17_ok at gq
    unfold tm_divide_17 at h
    exact b40_17 s x1 x4 x5 x6 x8 x9 x11 (⟨fun hc => by rw [if_pos hc] at h; replace gq := gq.1 hc; exact ⟨gq, (by (try dsimp only at h); exact h)⟩, fun hc => by rw [if_neg hc] at h; replace gq := gq.2 hc; exact ⟨gq.1, by replace gq := gq.2; exact ⟨gq.1, by replace gq := gq.2; exact ⟨gq.1, by replace gq := gq.2; exact ih _ _ _ _ _ _ _ _ gq h⟩⟩⟩⟩)
set_option maxRecDepth 100000 in
theorem b40_0 {xs : Nat → Int32} {Ls : Nat} {Φ : Option xV → xH → Prop} (s : xS) (z : Int32) (d : Int64) (e : Int32) (z2 : Int32) (d2 : Int64) (e2 : Int32) (g : ((¬ z2 = 0 → ((tm_clearRow_ok s) ∧ xW (xX0 xs Ls) p40 17 [(0, vr 12 230), (1, vi z), (4, vi e), (5, vi z2), (6, vl d2), (8, vi e2), (9, vl d), (11, vi 0)] [] (xhp (tm_clearRow s)) Φ)) ∧ (z2 = 0 → Φ (some (vi 3)) (xhp s)))) : xW (xX0 xs Ls) p40 0 [(0, vr 12 230), (1, vi z), (2, vl d), (4, vi e), (5, vi z2), (6, vl d2), (8, vi e2)] [] (xhp s) Φ := by
  refine xW.br (c := ¬ z2 = 0) (pc1 := 7) (L1 := [(0, vr 12 230), (1, vi z), (2, vl d), (4, vi e), (5, vi z2), (6, vl d2), (8, vi e2)]) (st1 := []) (h1 := xhp s) (pc2 := 5) (L2 := [(0, vr 12 230), (1, vi z), (2, vl d), (4, vi e), (5, vi z2), (6, vl d2), (8, vi e2)]) (st2 := []) (h2 := xhp s) 2 (fun _ _ _ _ => rfl) (fun hc => ?_) (fun hc => ?_)
  · replace g := g.1 hc
    refine xW.call (y := 34) (as := [vr 12 230]) (h0 := xhp s) (pc0 := 8) (len := 3) (L0 := [(0, vr 12 230), (1, vi z), (2, vl d), (4, vi e), (5, vi z2), (6, vl d2), (8, vi e2)]) (rest := []) 2 (fun _ _ _ _ => rfl) (m34 _ g.1 ?_)
    show xW (xX0 xs Ls) p40 11 [(0, vr 12 230), (1, vi z), (2, vl d), (4, vi e), (5, vi z2), (6, vl d2), (8, vi e2)] [] (xhp (tm_clearRow s)) Φ
    replace g := g.2
    refine xW.seg (pc1 := 17) (L1 := [(11, vi 0), (9, vl d), (0, vr 12 230), (1, vi z), (2, vl d), (4, vi e), (5, vi z2), (6, vl d2), (8, vi e2)]) (st1 := []) (h1 := xhp (tm_clearRow s)) 4 (fun _ _ _ _ => rfl) ?_
    exact xW.locs (L := [(0, vr 12 230), (1, vi z), (4, vi e), (5, vi z2), (6, vl d2), (8, vi e2), (9, vl d), (11, vi 0)]) ⟨rfl, rfl, rfl, rfl, rfl, rfl, rfl, rfl, trivial⟩ rfl g
  · replace g := g.2 (Decidable.not_not.mp hc)
    exact xW.ret (v0 := some (vi 3)) (h1 := xhp s) 2 (fun _ _ _ _ => rfl) g
noncomputable def tm_divide_d (s : xS) (z : Int32) (d : Int64) (e : Int32) (z2 : Int32) (d2 : Int64) (e2 : Int32) : Int32 × xS := (if ¬ z2 = 0 then (tm_divide_17 xfu (tm_clearRow s) z e z2 d2 e2 d 0) else (3, s))
noncomputable def tm_divide : xS → Int32 → Int64 → Int32 → Int32 → Int64 → Int32 → Int32 × xS := Classical.choose (⟨tm_divide_d, rfl⟩ : ∃ f, f = tm_divide_d)
set_option maxRecDepth 100000 in
theorem tm_divide_eq : tm_divide = tm_divide_d := Classical.choose_spec (⟨tm_divide_d, rfl⟩ : ∃ f, f = tm_divide_d)
def tm_divide_ok (s : xS) (z : Int32) (d : Int64) (e : Int32) (z2 : Int32) (d2 : Int64) (e2 : Int32) : Prop := (¬ z2 = 0 → ((tm_clearRow_ok s) ∧ (tm_divide_17_ok xfu (tm_clearRow s) z e z2 d2 e2 d 0)))
set_option maxRecDepth 100000 in
theorem m40 {xs : Nat → Int32} {Ls : Nat} {Ψ : xO → xH → Prop} (s : xS) (z : Int32) (d : Int64) (e : Int32) (z2 : Int32) (d2 : Int64) (e2 : Int32) (gq : tm_divide_ok s z d e z2 d2 e2) (h : Ψ (.inl (some (vi (tm_divide s z d e z2 d2 e2).1))) (xhp (tm_divide s z d e z2 d2 e2).2)) : xM (xX0 xs Ls) 40 [vr 12 230, vi z, vl d, vi e, vi z2, vl d2, vi e2] (xhp s) Ψ := by
  rw [tm_divide_eq] at h
  unfold tm_divide_d at h
  unfold tm_divide_ok at gq
  exact xM.of (P := p40) rfl rfl rfl (b40_0 s z d e z2 d2 e2 (⟨fun hc => by rw [if_pos hc] at h; replace gq := gq hc; exact ⟨gq.1, by replace gq := gq.2; exact n40_17 _ _ _ _ _ _ _ _ _ gq h⟩, fun hc => by rw [if_neg (fun z => z hc)] at h; exact (by (try dsimp only at h); exact h)⟩))
/-! tm_root -/
theorem b41_126 {xs : Nat → Int32} {Ls : Nat} {Φ : Option xV → xH → Prop} (s : xS) (x1 : Int32) (x6 : Int64) (x8 : Int32) (x9 : Int64) (x11 : Int64) (x13 : Int64) (x15 : Int32) (x16 : Int32) (g : (((((20 * x11) + (x16.toInt64)) * (x16.toInt64)) ≤ x13 → xW (xX0 xs Ls) p41 152 [(0, vr 12 230), (1, vi x1), (6, vl x6), (8, vi x8), (9, vl x9), (11, vl x11), (13, vl x13), (15, vi x15), (16, vi x16)] [] (xhp s) Φ) ∧ (¬ ((((20 * x11) + (x16.toInt64)) * (x16.toInt64)) ≤ x13) → xW (xX0 xs Ls) p41 126 [(0, vr 12 230), (1, vi x1), (6, vl x6), (8, vi x8), (9, vl x9), (11, vl x11), (13, vl x13), (15, vi x15), (16, vi (x16 + (-1)))] [] (xhp s) Φ))) : xW (xX0 xs Ls) p41 126 [(0, vr 12 230), (1, vi x1), (6, vl x6), (8, vi x8), (9, vl x9), (11, vl x11), (13, vl x13), (15, vi x15), (16, vi x16)] [] (xhp s) Φ := by
  refine xW.br (c := (lg_cmp (((20 * x11) + (x16.toInt64)) * (x16.toInt64)) x13) ≤ 0) (pc1 := 152) (L1 := [(0, vr 12 230), (1, vi x1), (6, vl x6), (8, vi x8), (9, vl x9), (11, vl x11), (13, vl x13), (15, vi x15), (16, vi x16)]) (st1 := []) (h1 := xhp s) (pc2 := 146) (L2 := [(0, vr 12 230), (1, vi x1), (6, vl x6), (8, vi x8), (9, vl x9), (11, vl x11), (13, vl x13), (15, vi x15), (16, vi x16)]) (st2 := []) (h2 := xhp s) 12 (fun _ _ _ _ => rfl) (fun hc => ?_) (fun hc => ?_)
  · replace g := g.1 (lc_le.mp hc)
    exact g
  · replace g := g.2 (fun q => hc (lc_le.mpr q))
    refine xW.seg (pc1 := 126) (L1 := [(16, vi (x16 + (-1))), (0, vr 12 230), (1, vi x1), (6, vl x6), (8, vi x8), (9, vl x9), (11, vl x11), (13, vl x13), (15, vi x15)]) (st1 := []) (h1 := xhp s) 2 (fun _ _ _ _ => rfl) ?_
    exact xW.locs (L := [(0, vr 12 230), (1, vi x1), (6, vl x6), (8, vi x8), (9, vl x9), (11, vl x11), (13, vl x13), (15, vi x15), (16, vi (x16 + (-1)))]) ⟨rfl, rfl, rfl, rfl, rfl, rfl, rfl, rfl, rfl, trivial⟩ rfl g
noncomputable def tm_root_126 : Nat → xS → Int32 → Int64 → Int32 → Int64 → Int64 → Int64 → Int32 → Int32 → Int32 × Int64 × Int32 × Int64 × Int64 × Int64 × Int32 × Int32 × xS
  | 0, s, _, _, _, _, _, _, _, _ => (0, 0, 0, 0, 0, 0, 0, 0, s)
  | n + 1, s, x1, x6, x8, x9, x11, x13, x15, x16 => (if (((20 * x11) + (x16.toInt64)) * (x16.toInt64)) ≤ x13 then (x1, x6, x8, x9, x11, x13, x15, x16, s) else (tm_root_126 n s x1 x6 x8 x9 x11 x13 x15 (x16 + (-1))))
def tm_root_126_ok : Nat → xS → Int32 → Int64 → Int32 → Int64 → Int64 → Int64 → Int32 → Int32 → Prop
  | 0, _, _, _, _, _, _, _, _, _ => False
  | n + 1, s, x1, x6, x8, x9, x11, x13, x15, x16 => (((((20 * x11) + (x16.toInt64)) * (x16.toInt64)) ≤ x13 → True) ∧ (¬ ((((20 * x11) + (x16.toInt64)) * (x16.toInt64)) ≤ x13) → (tm_root_126_ok n s x1 x6 x8 x9 x11 x13 x15 (x16 + (-1)))))
set_option maxRecDepth 100000 in
theorem n41_126 {xs : Nat → Int32} {Ls : Nat} {Φ : Option xV → xH → Prop} : ∀ (n : Nat) (s : xS) (x1 : Int32) (x6 : Int64) (x8 : Int32) (x9 : Int64) (x11 : Int64) (x13 : Int64) (x15 : Int32) (x16 : Int32), tm_root_126_ok n s x1 x6 x8 x9 x11 x13 x15 x16 → xW (xX0 xs Ls) p41 152 [(0, vr 12 230), (1, vi (tm_root_126 n s x1 x6 x8 x9 x11 x13 x15 x16).1), (6, vl (tm_root_126 n s x1 x6 x8 x9 x11 x13 x15 x16).2.1), (8, vi (tm_root_126 n s x1 x6 x8 x9 x11 x13 x15 x16).2.2.1), (9, vl (tm_root_126 n s x1 x6 x8 x9 x11 x13 x15 x16).2.2.2.1), (11, vl (tm_root_126 n s x1 x6 x8 x9 x11 x13 x15 x16).2.2.2.2.1), (13, vl (tm_root_126 n s x1 x6 x8 x9 x11 x13 x15 x16).2.2.2.2.2.1), (15, vi (tm_root_126 n s x1 x6 x8 x9 x11 x13 x15 x16).2.2.2.2.2.2.1), (16, vi (tm_root_126 n s x1 x6 x8 x9 x11 x13 x15 x16).2.2.2.2.2.2.2.1)] [] (xhp (tm_root_126 n s x1 x6 x8 x9 x11 x13 x15 x16).2.2.2.2.2.2.2.2) Φ → xW (xX0 xs Ls) p41 126 [(0, vr 12 230), (1, vi x1), (6, vl x6), (8, vi x8), (9, vl x9), (11, vl x11), (13, vl x13), (15, vi x15), (16, vi x16)] [] (xhp s) Φ := by
  intro n
  induction n with
  | zero => intro s _ _ _ _ _ _ _ _ gq; exact gq.elim
  | succ n ih =>
    intro s x1 x6 x8 x9 x11 x13 x15 x16 gq h
    unfold tm_root_126_ok at gq
    unfold tm_root_126 at h
    exact b41_126 s x1 x6 x8 x9 x11 x13 x15 x16 (⟨fun hc => by rw [if_pos hc] at h; replace gq := gq.1 hc; exact h, fun hc => by rw [if_neg hc] at h; replace gq := gq.2 hc; exact ih _ _ _ _ _ _ _ _ _ gq h⟩)
set_option maxRecDepth 100000 in
theorem b41_78 {xs : Nat → Int32} {Ls : Nat} {Φ : Option xV → xH → Prop} (s : xS) (x1 : Int32) (x6 : Int64) (x8 : Int32) (x9 : Int64) (x11 : Int64) (x13 : Int64) (x15 : Int32) (g : ((15 ≤ x15 → ((tm_round_ok s 1 ((x8 / 2) + 6) (if x1 = 0 then (0 : Int32) else 15) (zb (!decide (x13 ≤ 0)))) ∧ Φ (some (vi ((tm_round s 1 ((x8 / 2) + 6) (if x1 = 0 then (0 : Int32) else 15) (zb (!decide (x13 ≤ 0)))).1))) (xhp ((tm_round s 1 ((x8 / 2) + 6) (if x1 = 0 then (0 : Int32) else 15) (zb (!decide (x13 ≤ 0)))).2)))) ∧ (¬ (15 ≤ x15) → ((x9 ≤ 0 → ((tm_root_126_ok xfu s x1 x6 x8 (x9 / 100) x11 ((100 * x13) + 0) x15 9) ∧ ((vp_in ((tm_root_126 xfu s x1 x6 x8 (x9 / 100) x11 ((100 * x13) + 0) x15 9).2.2.2.2.2.2.1) 256) ∧ xW (xX0 xs Ls) p41 78 [(0, vr 12 230), (1, vi ((tm_root_126 xfu s x1 x6 x8 (x9 / 100) x11 ((100 * x13) + 0) x15 9).1)), (6, vl ((tm_root_126 xfu s x1 x6 x8 (x9 / 100) x11 ((100 * x13) + 0) x15 9).2.1)), (8, vi ((tm_root_126 xfu s x1 x6 x8 (x9 / 100) x11 ((100 * x13) + 0) x15 9).2.2.1)), (9, vl ((tm_root_126 xfu s x1 x6 x8 (x9 / 100) x11 ((100 * x13) + 0) x15 9).2.2.2.1)), (11, vl ((10 * (tm_root_126 xfu s x1 x6 x8 (x9 / 100) x11 ((100 * x13) + 0) x15 9).2.2.2.2.1) + (((tm_root_126 xfu s x1 x6 x8 (x9 / 100) x11 ((100 * x13) + 0) x15 9).2.2.2.2.2.2.2.1).toInt64))), (13, vl ((tm_root_126 xfu s x1 x6 x8 (x9 / 100) x11 ((100 * x13) + 0) x15 9).2.2.2.2.2.1 - (((20 * (tm_root_126 xfu s x1 x6 x8 (x9 / 100) x11 ((100 * x13) + 0) x15 9).2.2.2.2.1) + (((tm_root_126 xfu s x1 x6 x8 (x9 / 100) x11 ((100 * x13) + 0) x15 9).2.2.2.2.2.2.2.1).toInt64)) * (((tm_root_126 xfu s x1 x6 x8 (x9 / 100) x11 ((100 * x13) + 0) x15 9).2.2.2.2.2.2.2.1).toInt64)))), (15, vi ((tm_root_126 xfu s x1 x6 x8 (x9 / 100) x11 ((100 * x13) + 0) x15 9).2.2.2.2.2.2.1 + 1))] [] (xhp (sI ((tm_root_126 xfu s x1 x6 x8 (x9 / 100) x11 ((100 * x13) + 0) x15 9).2.2.2.2.2.2.2.2) 242 (((tm_root_126 xfu s x1 x6 x8 (x9 / 100) x11 ((100 * x13) + 0) x15 9).2.2.2.2.2.2.1).toNatClampNeg) ((tm_root_126 xfu s x1 x6 x8 (x9 / 100) x11 ((100 * x13) + 0) x15 9).2.2.2.2.2.2.2.1))) Φ))) ∧ (¬ (x9 ≤ 0) → ((¬ x9 = 0) ∧ ((tm_root_126_ok xfu s x1 x6 x8 (x9 / 100) x11 ((100 * x13) + ((x6 / x9) - (x6 / x9) / 100 * 100)) x15 9) ∧ ((vp_in ((tm_root_126 xfu s x1 x6 x8 (x9 / 100) x11 ((100 * x13) + ((x6 / x9) - (x6 / x9) / 100 * 100)) x15 9).2.2.2.2.2.2.1) 256) ∧ xW (xX0 xs Ls) p41 78 [(0, vr 12 230), (1, vi ((tm_root_126 xfu s x1 x6 x8 (x9 / 100) x11 ((100 * x13) + ((x6 / x9) - (x6 / x9) / 100 * 100)) x15 9).1)), (6, vl ((tm_root_126 xfu s x1 x6 x8 (x9 / 100) x11 ((100 * x13) + ((x6 / x9) - (x6 / x9) / 100 * 100)) x15 9).2.1)), (8, vi ((tm_root_126 xfu s x1 x6 x8 (x9 / 100) x11 ((100 * x13) + ((x6 / x9) - (x6 / x9) / 100 * 100)) x15 9).2.2.1)), (9, vl ((tm_root_126 xfu s x1 x6 x8 (x9 / 100) x11 ((100 * x13) + ((x6 / x9) - (x6 / x9) / 100 * 100)) x15 9).2.2.2.1)), (11, vl ((10 * (tm_root_126 xfu s x1 x6 x8 (x9 / 100) x11 ((100 * x13) + ((x6 / x9) - (x6 / x9) / 100 * 100)) x15 9).2.2.2.2.1) + (((tm_root_126 xfu s x1 x6 x8 (x9 / 100) x11 ((100 * x13) + ((x6 / x9) - (x6 / x9) / 100 * 100)) x15 9).2.2.2.2.2.2.2.1).toInt64))), (13, vl ((tm_root_126 xfu s x1 x6 x8 (x9 / 100) x11 ((100 * x13) + ((x6 / x9) - (x6 / x9) / 100 * 100)) x15 9).2.2.2.2.2.1 - (((20 * (tm_root_126 xfu s x1 x6 x8 (x9 / 100) x11 ((100 * x13) + ((x6 / x9) - (x6 / x9) / 100 * 100)) x15 9).2.2.2.2.1) + (((tm_root_126 xfu s x1 x6 x8 (x9 / 100) x11 ((100 * x13) + ((x6 / x9) - (x6 / x9) / 100 * 100)) x15 9).2.2.2.2.2.2.2.1).toInt64)) * (((tm_root_126 xfu s x1 x6 x8 (x9 / 100) x11 ((100 * x13) + ((x6 / x9) - (x6 / x9) / 100 * 100)) x15 9).2.2.2.2.2.2.2.1).toInt64)))), (15, vi ((tm_root_126 xfu s x1 x6 x8 (x9 / 100) x11 ((100 * x13) + ((x6 / x9) - (x6 / x9) / 100 * 100)) x15 9).2.2.2.2.2.2.1 + 1))] [] (xhp (sI ((tm_root_126 xfu s x1 x6 x8 (x9 / 100) x11 ((100 * x13) + ((x6 / x9) - (x6 / x9) / 100 * 100)) x15 9).2.2.2.2.2.2.2.2) 242 (((tm_root_126 xfu s x1 x6 x8 (x9 / 100) x11 ((100 * x13) + ((x6 / x9) - (x6 / x9) / 100 * 100)) x15 9).2.2.2.2.2.2.1).toNatClampNeg) ((tm_root_126 xfu s x1 x6 x8 (x9 / 100) x11 ((100 * x13) + ((x6 / x9) - (x6 / x9) / 100 * 100)) x15 9).2.2.2.2.2.2.2.1))) Φ)))))))) : xW (xX0 xs Ls) p41 78 [(0, vr 12 230), (1, vi x1), (6, vl x6), (8, vi x8), (9, vl x9), (11, vl x11), (13, vl x13), (15, vi x15)] [] (xhp s) Φ := by
  refine xW.br (c := 15 ≤ x15) (pc1 := 198) (L1 := [(0, vr 12 230), (1, vi x1), (6, vl x6), (8, vi x8), (9, vl x9), (11, vl x11), (13, vl x13), (15, vi x15)]) (st1 := []) (h1 := xhp s) (pc2 := 85) (L2 := [(0, vr 12 230), (1, vi x1), (6, vl x6), (8, vi x8), (9, vl x9), (11, vl x11), (13, vl x13), (15, vi x15)]) (st2 := []) (h2 := xhp s) 3 (fun _ _ _ _ => rfl) (fun hc => ?_) (fun hc => ?_)
  · replace g := g.1 hc
    refine xW.side (c := ¬ (2 : Int32) = 0) (pc1 := 204) (L1 := [(0, vr 12 230), (1, vi x1), (6, vl x6), (8, vi x8), (9, vl x9), (11, vl x11), (13, vl x13), (15, vi x15)]) (st1 := [vi (x8 / 2), vi 1, vr 12 230]) (h1 := xhp s) 5 (fun _ _ _ _ => rfl) (by decide) ?_
    refine xW.seg (pc1 := 208) (L1 := [(0, vr 12 230), (1, vi x1), (6, vl x6), (8, vi x8), (9, vl x9), (11, vl x11), (13, vl x13), (15, vi x15)]) (st1 := [vi x1, vi ((x8 / 2) + 6), vi 1, vr 12 230]) (h1 := xhp s) 3 (fun _ _ _ _ => rfl) ?_
    suffices J : xW (xX0 xs Ls) p41 217 [(0, vr 12 230), (1, vi x1), (6, vl x6), (8, vi x8), (9, vl x9), (11, vl x11), (13, vl x13), (15, vi x15)] [vi (if x1 = 0 then (0 : Int32) else 15), vi ((x8 / 2) + 6), vi 1, vr 12 230] (xhp s) Φ by
      refine xW.br (c := ¬ x1 = 0) (pc1 := 215) (L1 := [(0, vr 12 230), (1, vi x1), (6, vl x6), (8, vi x8), (9, vl x9), (11, vl x11), (13, vl x13), (15, vi x15)]) (st1 := [vi ((x8 / 2) + 6), vi 1, vr 12 230]) (h1 := xhp s) (pc2 := 211) (L2 := [(0, vr 12 230), (1, vi x1), (6, vl x6), (8, vi x8), (9, vl x9), (11, vl x11), (13, vl x13), (15, vi x15)]) (st2 := [vi ((x8 / 2) + 6), vi 1, vr 12 230]) (h2 := xhp s) 1 (fun _ _ _ _ => rfl) (fun hc => ?_) (fun hc => ?_)
      · have hc1 : ¬ x1 = 0 := hc
        refine xW.seg (pc1 := 217) (L1 := [(0, vr 12 230), (1, vi x1), (6, vl x6), (8, vi x8), (9, vl x9), (11, vl x11), (13, vl x13), (15, vi x15)]) (st1 := [vi 15, vi ((x8 / 2) + 6), vi 1, vr 12 230]) (h1 := xhp s) 1 (fun _ _ _ _ => rfl) ?_
        refine xW.to (v := vi (if x1 = 0 then (0 : Int32) else 15)) ((congrArg vi (if_neg hc1)).symm) ?_
        exact J
      · have hc1 : x1 = 0 := (Decidable.not_not.mp hc)
        refine xW.seg (pc1 := 217) (L1 := [(0, vr 12 230), (1, vi x1), (6, vl x6), (8, vi x8), (9, vl x9), (11, vl x11), (13, vl x13), (15, vi x15)]) (st1 := [vi 0, vi ((x8 / 2) + 6), vi 1, vr 12 230]) (h1 := xhp s) 2 (fun _ _ _ _ => rfl) ?_
        refine xW.to (v := vi (if x1 = 0 then (0 : Int32) else 15)) ((congrArg vi (if_pos hc1)).symm) ?_
        exact J
    refine xW.seg (pc1 := 221) (L1 := [(0, vr 12 230), (1, vi x1), (6, vl x6), (8, vi x8), (9, vl x9), (11, vl x11), (13, vl x13), (15, vi x15)]) (st1 := [vi (lg_cmp x13 0), vi (if x1 = 0 then (0 : Int32) else 15), vi ((x8 / 2) + 6), vi 1, vr 12 230]) (h1 := xhp s) 3 (fun _ _ _ _ => rfl) ?_
    suffices J : xW (xX0 xs Ls) p41 229 [(0, vr 12 230), (1, vi x1), (6, vl x6), (8, vi x8), (9, vl x9), (11, vl x11), (13, vl x13), (15, vi x15)] [vi (zb (!decide (x13 ≤ 0))), vi (if x1 = 0 then (0 : Int32) else 15), vi ((x8 / 2) + 6), vi 1, vr 12 230] (xhp s) Φ by
      refine xW.br (c := (lg_cmp x13 0) ≤ 0) (pc1 := 228) (L1 := [(0, vr 12 230), (1, vi x1), (6, vl x6), (8, vi x8), (9, vl x9), (11, vl x11), (13, vl x13), (15, vi x15)]) (st1 := [vi (if x1 = 0 then (0 : Int32) else 15), vi ((x8 / 2) + 6), vi 1, vr 12 230]) (h1 := xhp s) (pc2 := 224) (L2 := [(0, vr 12 230), (1, vi x1), (6, vl x6), (8, vi x8), (9, vl x9), (11, vl x11), (13, vl x13), (15, vi x15)]) (st2 := [vi (if x1 = 0 then (0 : Int32) else 15), vi ((x8 / 2) + 6), vi 1, vr 12 230]) (h2 := xhp s) 1 (fun _ _ _ _ => rfl) (fun hc => ?_) (fun hc => ?_)
      · have hc2 : x13 ≤ 0 := (lc_le.mp hc)
        refine xW.seg (pc1 := 229) (L1 := [(0, vr 12 230), (1, vi x1), (6, vl x6), (8, vi x8), (9, vl x9), (11, vl x11), (13, vl x13), (15, vi x15)]) (st1 := [vi 0, vi (if x1 = 0 then (0 : Int32) else 15), vi ((x8 / 2) + 6), vi 1, vr 12 230]) (h1 := xhp s) 1 (fun _ _ _ _ => rfl) ?_
        refine xW.to (v := vi (zb (!decide (x13 ≤ 0)))) (zb_f (by simp only [decide_eq_true hc2, Bool.true_or, Bool.or_true, Bool.false_or, Bool.or_false, Bool.true_and, Bool.and_true, Bool.false_and, Bool.and_false, Bool.not_true, Bool.not_false, cond_true, cond_false])) ?_
        exact J
      · have hc2 : ¬ (x13 ≤ 0) := (fun q => hc (lc_le.mpr q))
        refine xW.seg (pc1 := 229) (L1 := [(0, vr 12 230), (1, vi x1), (6, vl x6), (8, vi x8), (9, vl x9), (11, vl x11), (13, vl x13), (15, vi x15)]) (st1 := [vi 1, vi (if x1 = 0 then (0 : Int32) else 15), vi ((x8 / 2) + 6), vi 1, vr 12 230]) (h1 := xhp s) 2 (fun _ _ _ _ => rfl) ?_
        refine xW.to (v := vi (zb (!decide (x13 ≤ 0)))) (zb_t (by simp only [decide_eq_false hc2, Bool.true_or, Bool.or_true, Bool.false_or, Bool.or_false, Bool.true_and, Bool.and_true, Bool.false_and, Bool.and_false, Bool.not_true, Bool.not_false, cond_true, cond_false])) ?_
        exact J
    refine xW.call (y := 35) (as := [vr 12 230, vi 1, vi ((x8 / 2) + 6), vi (if x1 = 0 then (0 : Int32) else 15), vi (zb (!decide (x13 ≤ 0)))]) (h0 := xhp s) (pc0 := 229) (len := 3) (L0 := [(0, vr 12 230), (1, vi x1), (6, vl x6), (8, vi x8), (9, vl x9), (11, vl x11), (13, vl x13), (15, vi x15)]) (rest := []) 1 (fun _ _ _ _ => rfl) (m35 _ _ _ _ _ g.1 ?_)
    show xW (xX0 xs Ls) p41 232 [(0, vr 12 230), (1, vi x1), (6, vl x6), (8, vi x8), (9, vl x9), (11, vl x11), (13, vl x13), (15, vi x15)] [vi ((tm_round s 1 ((x8 / 2) + 6) (if x1 = 0 then (0 : Int32) else 15) (zb (!decide (x13 ≤ 0)))).1)] (xhp ((tm_round s 1 ((x8 / 2) + 6) (if x1 = 0 then (0 : Int32) else 15) (zb (!decide (x13 ≤ 0)))).2)) Φ
    replace g := g.2
    exact xW.ret (v0 := some (vi ((tm_round s 1 ((x8 / 2) + 6) (if x1 = 0 then (0 : Int32) else 15) (zb (!decide (x13 ≤ 0)))).1))) (h1 := xhp ((tm_round s 1 ((x8 / 2) + 6) (if x1 = 0 then (0 : Int32) else 15) (zb (!decide (x13 ≤ 0)))).2)) 1 (fun _ _ _ _ => rfl) g
  · replace g := g.2 hc
    refine xW.br (c := (lg_cmp x9 0) ≤ 0) (pc1 := 110) (L1 := [(0, vr 12 230), (1, vi x1), (6, vl x6), (8, vi x8), (9, vl x9), (11, vl x11), (13, vl x13), (15, vi x15)]) (st1 := [vl (100 * x13)]) (h1 := xhp s) (pc2 := 98) (L2 := [(0, vr 12 230), (1, vi x1), (6, vl x6), (8, vi x8), (9, vl x9), (11, vl x11), (13, vl x13), (15, vi x15)]) (st2 := [vl (100 * x13)]) (h2 := xhp s) 7 (fun _ _ _ _ => rfl) (fun hc => ?_) (fun hc => ?_)
    · replace g := g.1 (lc_le.mp hc)
      refine xW.side (c := ¬ (100 : Int64) = 0) (pc1 := 120) (L1 := [(13, vl ((100 * x13) + 0)), (0, vr 12 230), (1, vi x1), (6, vl x6), (8, vi x8), (9, vl x9), (11, vl x11), (15, vi x15)]) (st1 := [vl (x9 / 100)]) (h1 := xhp s) 6 (fun _ _ _ _ => rfl) (by decide) ?_
      refine xW.seg (pc1 := 126) (L1 := [(16, vi 9), (9, vl (x9 / 100)), (13, vl ((100 * x13) + 0)), (0, vr 12 230), (1, vi x1), (6, vl x6), (8, vi x8), (11, vl x11), (15, vi x15)]) (st1 := []) (h1 := xhp s) 3 (fun _ _ _ _ => rfl) ?_
      refine xW.locs (L := [(0, vr 12 230), (1, vi x1), (6, vl x6), (8, vi x8), (9, vl (x9 / 100)), (11, vl x11), (13, vl ((100 * x13) + 0)), (15, vi x15), (16, vi 9)]) ⟨rfl, rfl, rfl, rfl, rfl, rfl, rfl, rfl, rfl, trivial⟩ rfl ?_
      refine n41_126 xfu _ _ _ _ _ _ _ _ _ g.1 ?_
      replace g := g.2
      refine xW.side (c := vp_in ((tm_root_126 xfu s x1 x6 x8 (x9 / 100) x11 ((100 * x13) + 0) x15 9).2.2.2.2.2.2.1) 256) (pc1 := 192) (L1 := [(11, vl ((10 * (tm_root_126 xfu s x1 x6 x8 (x9 / 100) x11 ((100 * x13) + 0) x15 9).2.2.2.2.1) + (((tm_root_126 xfu s x1 x6 x8 (x9 / 100) x11 ((100 * x13) + 0) x15 9).2.2.2.2.2.2.2.1).toInt64))), (13, vl ((tm_root_126 xfu s x1 x6 x8 (x9 / 100) x11 ((100 * x13) + 0) x15 9).2.2.2.2.2.1 - (((20 * (tm_root_126 xfu s x1 x6 x8 (x9 / 100) x11 ((100 * x13) + 0) x15 9).2.2.2.2.1) + (((tm_root_126 xfu s x1 x6 x8 (x9 / 100) x11 ((100 * x13) + 0) x15 9).2.2.2.2.2.2.2.1).toInt64)) * (((tm_root_126 xfu s x1 x6 x8 (x9 / 100) x11 ((100 * x13) + 0) x15 9).2.2.2.2.2.2.2.1).toInt64)))), (0, vr 12 230), (1, vi ((tm_root_126 xfu s x1 x6 x8 (x9 / 100) x11 ((100 * x13) + 0) x15 9).1)), (6, vl ((tm_root_126 xfu s x1 x6 x8 (x9 / 100) x11 ((100 * x13) + 0) x15 9).2.1)), (8, vi ((tm_root_126 xfu s x1 x6 x8 (x9 / 100) x11 ((100 * x13) + 0) x15 9).2.2.1)), (9, vl ((tm_root_126 xfu s x1 x6 x8 (x9 / 100) x11 ((100 * x13) + 0) x15 9).2.2.2.1)), (15, vi ((tm_root_126 xfu s x1 x6 x8 (x9 / 100) x11 ((100 * x13) + 0) x15 9).2.2.2.2.2.2.1)), (16, vi ((tm_root_126 xfu s x1 x6 x8 (x9 / 100) x11 ((100 * x13) + 0) x15 9).2.2.2.2.2.2.2.1))]) (st1 := []) (h1 := xhp (sI ((tm_root_126 xfu s x1 x6 x8 (x9 / 100) x11 ((100 * x13) + 0) x15 9).2.2.2.2.2.2.2.2) 242 (((tm_root_126 xfu s x1 x6 x8 (x9 / 100) x11 ((100 * x13) + 0) x15 9).2.2.2.2.2.2.1).toNatClampNeg) ((tm_root_126 xfu s x1 x6 x8 (x9 / 100) x11 ((100 * x13) + 0) x15 9).2.2.2.2.2.2.2.1))) 24 (fun _ _ _ _ => rfl) g.1 ?_
      replace g := g.2
      refine xW.seg (pc1 := 78) (L1 := [(15, vi ((tm_root_126 xfu s x1 x6 x8 (x9 / 100) x11 ((100 * x13) + 0) x15 9).2.2.2.2.2.2.1 + 1)), (11, vl ((10 * (tm_root_126 xfu s x1 x6 x8 (x9 / 100) x11 ((100 * x13) + 0) x15 9).2.2.2.2.1) + (((tm_root_126 xfu s x1 x6 x8 (x9 / 100) x11 ((100 * x13) + 0) x15 9).2.2.2.2.2.2.2.1).toInt64))), (13, vl ((tm_root_126 xfu s x1 x6 x8 (x9 / 100) x11 ((100 * x13) + 0) x15 9).2.2.2.2.2.1 - (((20 * (tm_root_126 xfu s x1 x6 x8 (x9 / 100) x11 ((100 * x13) + 0) x15 9).2.2.2.2.1) + (((tm_root_126 xfu s x1 x6 x8 (x9 / 100) x11 ((100 * x13) + 0) x15 9).2.2.2.2.2.2.2.1).toInt64)) * (((tm_root_126 xfu s x1 x6 x8 (x9 / 100) x11 ((100 * x13) + 0) x15 9).2.2.2.2.2.2.2.1).toInt64)))), (0, vr 12 230), (1, vi ((tm_root_126 xfu s x1 x6 x8 (x9 / 100) x11 ((100 * x13) + 0) x15 9).1)), (6, vl ((tm_root_126 xfu s x1 x6 x8 (x9 / 100) x11 ((100 * x13) + 0) x15 9).2.1)), (8, vi ((tm_root_126 xfu s x1 x6 x8 (x9 / 100) x11 ((100 * x13) + 0) x15 9).2.2.1)), (9, vl ((tm_root_126 xfu s x1 x6 x8 (x9 / 100) x11 ((100 * x13) + 0) x15 9).2.2.2.1)), (16, vi ((tm_root_126 xfu s x1 x6 x8 (x9 / 100) x11 ((100 * x13) + 0) x15 9).2.2.2.2.2.2.2.1))]) (st1 := []) (h1 := xhp (sI ((tm_root_126 xfu s x1 x6 x8 (x9 / 100) x11 ((100 * x13) + 0) x15 9).2.2.2.2.2.2.2.2) 242 (((tm_root_126 xfu s x1 x6 x8 (x9 / 100) x11 ((100 * x13) + 0) x15 9).2.2.2.2.2.2.1).toNatClampNeg) ((tm_root_126 xfu s x1 x6 x8 (x9 / 100) x11 ((100 * x13) + 0) x15 9).2.2.2.2.2.2.2.1))) 2 (fun _ _ _ _ => rfl) ?_
      exact xW.locs (L := [(0, vr 12 230), (1, vi ((tm_root_126 xfu s x1 x6 x8 (x9 / 100) x11 ((100 * x13) + 0) x15 9).1)), (6, vl ((tm_root_126 xfu s x1 x6 x8 (x9 / 100) x11 ((100 * x13) + 0) x15 9).2.1)), (8, vi ((tm_root_126 xfu s x1 x6 x8 (x9 / 100) x11 ((100 * x13) + 0) x15 9).2.2.1)), (9, vl ((tm_root_126 xfu s x1 x6 x8 (x9 / 100) x11 ((100 * x13) + 0) x15 9).2.2.2.1)), (11, vl ((10 * (tm_root_126 xfu s x1 x6 x8 (x9 / 100) x11 ((100 * x13) + 0) x15 9).2.2.2.2.1) + (((tm_root_126 xfu s x1 x6 x8 (x9 / 100) x11 ((100 * x13) + 0) x15 9).2.2.2.2.2.2.2.1).toInt64))), (13, vl ((tm_root_126 xfu s x1 x6 x8 (x9 / 100) x11 ((100 * x13) + 0) x15 9).2.2.2.2.2.1 - (((20 * (tm_root_126 xfu s x1 x6 x8 (x9 / 100) x11 ((100 * x13) + 0) x15 9).2.2.2.2.1) + (((tm_root_126 xfu s x1 x6 x8 (x9 / 100) x11 ((100 * x13) + 0) x15 9).2.2.2.2.2.2.2.1).toInt64)) * (((tm_root_126 xfu s x1 x6 x8 (x9 / 100) x11 ((100 * x13) + 0) x15 9).2.2.2.2.2.2.2.1).toInt64)))), (15, vi ((tm_root_126 xfu s x1 x6 x8 (x9 / 100) x11 ((100 * x13) + 0) x15 9).2.2.2.2.2.2.1 + 1))]) ⟨rfl, rfl, rfl, rfl, rfl, rfl, rfl, rfl, trivial⟩ rfl g
    · replace g := g.2 (fun q => hc (lc_le.mpr q))
      refine xW.side (c := ¬ x9 = 0) (pc1 := 103) (L1 := [(0, vr 12 230), (1, vi x1), (6, vl x6), (8, vi x8), (9, vl x9), (11, vl x11), (13, vl x13), (15, vi x15)]) (st1 := [vl (x6 / x9), vl (100 * x13)]) (h1 := xhp s) 3 (fun _ _ _ _ => rfl) g.1 ?_
      replace g := g.2
      refine xW.side (c := ¬ (100 : Int64) = 0) (pc1 := 107) (L1 := [(0, vr 12 230), (1, vi x1), (6, vl x6), (8, vi x8), (9, vl x9), (11, vl x11), (13, vl x13), (15, vi x15)]) (st1 := [vl ((x6 / x9) - (x6 / x9) / 100 * 100), vl (100 * x13)]) (h1 := xhp s) 2 (fun _ _ _ _ => rfl) (by decide) ?_
      refine xW.side (c := ¬ (100 : Int64) = 0) (pc1 := 120) (L1 := [(13, vl ((100 * x13) + ((x6 / x9) - (x6 / x9) / 100 * 100))), (0, vr 12 230), (1, vi x1), (6, vl x6), (8, vi x8), (9, vl x9), (11, vl x11), (15, vi x15)]) (st1 := [vl (x9 / 100)]) (h1 := xhp s) 6 (fun _ _ _ _ => rfl) (by decide) ?_
      refine xW.seg (pc1 := 126) (L1 := [(16, vi 9), (9, vl (x9 / 100)), (13, vl ((100 * x13) + ((x6 / x9) - (x6 / x9) / 100 * 100))), (0, vr 12 230), (1, vi x1), (6, vl x6), (8, vi x8), (11, vl x11), (15, vi x15)]) (st1 := []) (h1 := xhp s) 3 (fun _ _ _ _ => rfl) ?_
      refine xW.locs (L := [(0, vr 12 230), (1, vi x1), (6, vl x6), (8, vi x8), (9, vl (x9 / 100)), (11, vl x11), (13, vl ((100 * x13) + ((x6 / x9) - (x6 / x9) / 100 * 100))), (15, vi x15), (16, vi 9)]) ⟨rfl, rfl, rfl, rfl, rfl, rfl, rfl, rfl, rfl, trivial⟩ rfl ?_
      refine n41_126 xfu _ _ _ _ _ _ _ _ _ g.1 ?_
      replace g := g.2
      refine xW.side (c := vp_in ((tm_root_126 xfu s x1 x6 x8 (x9 / 100) x11 ((100 * x13) + ((x6 / x9) - (x6 / x9) / 100 * 100)) x15 9).2.2.2.2.2.2.1) 256) (pc1 := 192) (L1 := [(11, vl ((10 * (tm_root_126 xfu s x1 x6 x8 (x9 / 100) x11 ((100 * x13) + ((x6 / x9) - (x6 / x9) / 100 * 100)) x15 9).2.2.2.2.1) + (((tm_root_126 xfu s x1 x6 x8 (x9 / 100) x11 ((100 * x13) + ((x6 / x9) - (x6 / x9) / 100 * 100)) x15 9).2.2.2.2.2.2.2.1).toInt64))), (13, vl ((tm_root_126 xfu s x1 x6 x8 (x9 / 100) x11 ((100 * x13) + ((x6 / x9) - (x6 / x9) / 100 * 100)) x15 9).2.2.2.2.2.1 - (((20 * (tm_root_126 xfu s x1 x6 x8 (x9 / 100) x11 ((100 * x13) + ((x6 / x9) - (x6 / x9) / 100 * 100)) x15 9).2.2.2.2.1) + (((tm_root_126 xfu s x1 x6 x8 (x9 / 100) x11 ((100 * x13) + ((x6 / x9) - (x6 / x9) / 100 * 100)) x15 9).2.2.2.2.2.2.2.1).toInt64)) * (((tm_root_126 xfu s x1 x6 x8 (x9 / 100) x11 ((100 * x13) + ((x6 / x9) - (x6 / x9) / 100 * 100)) x15 9).2.2.2.2.2.2.2.1).toInt64)))), (0, vr 12 230), (1, vi ((tm_root_126 xfu s x1 x6 x8 (x9 / 100) x11 ((100 * x13) + ((x6 / x9) - (x6 / x9) / 100 * 100)) x15 9).1)), (6, vl ((tm_root_126 xfu s x1 x6 x8 (x9 / 100) x11 ((100 * x13) + ((x6 / x9) - (x6 / x9) / 100 * 100)) x15 9).2.1)), (8, vi ((tm_root_126 xfu s x1 x6 x8 (x9 / 100) x11 ((100 * x13) + ((x6 / x9) - (x6 / x9) / 100 * 100)) x15 9).2.2.1)), (9, vl ((tm_root_126 xfu s x1 x6 x8 (x9 / 100) x11 ((100 * x13) + ((x6 / x9) - (x6 / x9) / 100 * 100)) x15 9).2.2.2.1)), (15, vi ((tm_root_126 xfu s x1 x6 x8 (x9 / 100) x11 ((100 * x13) + ((x6 / x9) - (x6 / x9) / 100 * 100)) x15 9).2.2.2.2.2.2.1)), (16, vi ((tm_root_126 xfu s x1 x6 x8 (x9 / 100) x11 ((100 * x13) + ((x6 / x9) - (x6 / x9) / 100 * 100)) x15 9).2.2.2.2.2.2.2.1))]) (st1 := []) (h1 := xhp (sI ((tm_root_126 xfu s x1 x6 x8 (x9 / 100) x11 ((100 * x13) + ((x6 / x9) - (x6 / x9) / 100 * 100)) x15 9).2.2.2.2.2.2.2.2) 242 (((tm_root_126 xfu s x1 x6 x8 (x9 / 100) x11 ((100 * x13) + ((x6 / x9) - (x6 / x9) / 100 * 100)) x15 9).2.2.2.2.2.2.1).toNatClampNeg) ((tm_root_126 xfu s x1 x6 x8 (x9 / 100) x11 ((100 * x13) + ((x6 / x9) - (x6 / x9) / 100 * 100)) x15 9).2.2.2.2.2.2.2.1))) 24 (fun _ _ _ _ => rfl) g.1 ?_
      replace g := g.2
      refine xW.seg (pc1 := 78) (L1 := [(15, vi ((tm_root_126 xfu s x1 x6 x8 (x9 / 100) x11 ((100 * x13) + ((x6 / x9) - (x6 / x9) / 100 * 100)) x15 9).2.2.2.2.2.2.1 + 1)), (11, vl ((10 * (tm_root_126 xfu s x1 x6 x8 (x9 / 100) x11 ((100 * x13) + ((x6 / x9) - (x6 / x9) / 100 * 100)) x15 9).2.2.2.2.1) + (((tm_root_126 xfu s x1 x6 x8 (x9 / 100) x11 ((100 * x13) + ((x6 / x9) - (x6 / x9) / 100 * 100)) x15 9).2.2.2.2.2.2.2.1).toInt64))), (13, vl ((tm_root_126 xfu s x1 x6 x8 (x9 / 100) x11 ((100 * x13) + ((x6 / x9) - (x6 / x9) / 100 * 100)) x15 9).2.2.2.2.2.1 - (((20 * (tm_root_126 xfu s x1 x6 x8 (x9 / 100) x11 ((100 * x13) + ((x6 / x9) - (x6 / x9) / 100 * 100)) x15 9).2.2.2.2.1) + (((tm_root_126 xfu s x1 x6 x8 (x9 / 100) x11 ((100 * x13) + ((x6 / x9) - (x6 / x9) / 100 * 100)) x15 9).2.2.2.2.2.2.2.1).toInt64)) * (((tm_root_126 xfu s x1 x6 x8 (x9 / 100) x11 ((100 * x13) + ((x6 / x9) - (x6 / x9) / 100 * 100)) x15 9).2.2.2.2.2.2.2.1).toInt64)))), (0, vr 12 230), (1, vi ((tm_root_126 xfu s x1 x6 x8 (x9 / 100) x11 ((100 * x13) + ((x6 / x9) - (x6 / x9) / 100 * 100)) x15 9).1)), (6, vl ((tm_root_126 xfu s x1 x6 x8 (x9 / 100) x11 ((100 * x13) + ((x6 / x9) - (x6 / x9) / 100 * 100)) x15 9).2.1)), (8, vi ((tm_root_126 xfu s x1 x6 x8 (x9 / 100) x11 ((100 * x13) + ((x6 / x9) - (x6 / x9) / 100 * 100)) x15 9).2.2.1)), (9, vl ((tm_root_126 xfu s x1 x6 x8 (x9 / 100) x11 ((100 * x13) + ((x6 / x9) - (x6 / x9) / 100 * 100)) x15 9).2.2.2.1)), (16, vi ((tm_root_126 xfu s x1 x6 x8 (x9 / 100) x11 ((100 * x13) + ((x6 / x9) - (x6 / x9) / 100 * 100)) x15 9).2.2.2.2.2.2.2.1))]) (st1 := []) (h1 := xhp (sI ((tm_root_126 xfu s x1 x6 x8 (x9 / 100) x11 ((100 * x13) + ((x6 / x9) - (x6 / x9) / 100 * 100)) x15 9).2.2.2.2.2.2.2.2) 242 (((tm_root_126 xfu s x1 x6 x8 (x9 / 100) x11 ((100 * x13) + ((x6 / x9) - (x6 / x9) / 100 * 100)) x15 9).2.2.2.2.2.2.1).toNatClampNeg) ((tm_root_126 xfu s x1 x6 x8 (x9 / 100) x11 ((100 * x13) + ((x6 / x9) - (x6 / x9) / 100 * 100)) x15 9).2.2.2.2.2.2.2.1))) 2 (fun _ _ _ _ => rfl) ?_
      exact xW.locs (L := [(0, vr 12 230), (1, vi ((tm_root_126 xfu s x1 x6 x8 (x9 / 100) x11 ((100 * x13) + ((x6 / x9) - (x6 / x9) / 100 * 100)) x15 9).1)), (6, vl ((tm_root_126 xfu s x1 x6 x8 (x9 / 100) x11 ((100 * x13) + ((x6 / x9) - (x6 / x9) / 100 * 100)) x15 9).2.1)), (8, vi ((tm_root_126 xfu s x1 x6 x8 (x9 / 100) x11 ((100 * x13) + ((x6 / x9) - (x6 / x9) / 100 * 100)) x15 9).2.2.1)), (9, vl ((tm_root_126 xfu s x1 x6 x8 (x9 / 100) x11 ((100 * x13) + ((x6 / x9) - (x6 / x9) / 100 * 100)) x15 9).2.2.2.1)), (11, vl ((10 * (tm_root_126 xfu s x1 x6 x8 (x9 / 100) x11 ((100 * x13) + ((x6 / x9) - (x6 / x9) / 100 * 100)) x15 9).2.2.2.2.1) + (((tm_root_126 xfu s x1 x6 x8 (x9 / 100) x11 ((100 * x13) + ((x6 / x9) - (x6 / x9) / 100 * 100)) x15 9).2.2.2.2.2.2.2.1).toInt64))), (13, vl ((tm_root_126 xfu s x1 x6 x8 (x9 / 100) x11 ((100 * x13) + ((x6 / x9) - (x6 / x9) / 100 * 100)) x15 9).2.2.2.2.2.1 - (((20 * (tm_root_126 xfu s x1 x6 x8 (x9 / 100) x11 ((100 * x13) + ((x6 / x9) - (x6 / x9) / 100 * 100)) x15 9).2.2.2.2.1) + (((tm_root_126 xfu s x1 x6 x8 (x9 / 100) x11 ((100 * x13) + ((x6 / x9) - (x6 / x9) / 100 * 100)) x15 9).2.2.2.2.2.2.2.1).toInt64)) * (((tm_root_126 xfu s x1 x6 x8 (x9 / 100) x11 ((100 * x13) + ((x6 / x9) - (x6 / x9) / 100 * 100)) x15 9).2.2.2.2.2.2.2.1).toInt64)))), (15, vi ((tm_root_126 xfu s x1 x6 x8 (x9 / 100) x11 ((100 * x13) + ((x6 / x9) - (x6 / x9) / 100 * 100)) x15 9).2.2.2.2.2.2.1 + 1))]) ⟨rfl, rfl, rfl, rfl, rfl, rfl, rfl, rfl, trivial⟩ rfl g
noncomputable def tm_root_78 : Nat → xS → Int32 → Int64 → Int32 → Int64 → Int64 → Int64 → Int32 → Int32 × xS
  | 0, s, _, _, _, _, _, _, _ => (0, s)
  | n + 1, s, x1, x6, x8, x9, x11, x13, x15 => (if 15 ≤ x15 then (tm_round s 1 ((x8 / 2) + 6) (if x1 = 0 then (0 : Int32) else 15) (zb (!decide (x13 ≤ 0)))) else (if x9 ≤ 0 then (tm_root_78 n (sI ((tm_root_126 xfu s x1 x6 x8 (x9 / 100) x11 ((100 * x13) + 0) x15 9).2.2.2.2.2.2.2.2) 242 (((tm_root_126 xfu s x1 x6 x8 (x9 / 100) x11 ((100 * x13) + 0) x15 9).2.2.2.2.2.2.1).toNatClampNeg) ((tm_root_126 xfu s x1 x6 x8 (x9 / 100) x11 ((100 * x13) + 0) x15 9).2.2.2.2.2.2.2.1)) ((tm_root_126 xfu s x1 x6 x8 (x9 / 100) x11 ((100 * x13) + 0) x15 9).1) ((tm_root_126 xfu s x1 x6 x8 (x9 / 100) x11 ((100 * x13) + 0) x15 9).2.1) ((tm_root_126 xfu s x1 x6 x8 (x9 / 100) x11 ((100 * x13) + 0) x15 9).2.2.1) ((tm_root_126 xfu s x1 x6 x8 (x9 / 100) x11 ((100 * x13) + 0) x15 9).2.2.2.1) ((10 * (tm_root_126 xfu s x1 x6 x8 (x9 / 100) x11 ((100 * x13) + 0) x15 9).2.2.2.2.1) + (((tm_root_126 xfu s x1 x6 x8 (x9 / 100) x11 ((100 * x13) + 0) x15 9).2.2.2.2.2.2.2.1).toInt64)) ((tm_root_126 xfu s x1 x6 x8 (x9 / 100) x11 ((100 * x13) + 0) x15 9).2.2.2.2.2.1 - (((20 * (tm_root_126 xfu s x1 x6 x8 (x9 / 100) x11 ((100 * x13) + 0) x15 9).2.2.2.2.1) + (((tm_root_126 xfu s x1 x6 x8 (x9 / 100) x11 ((100 * x13) + 0) x15 9).2.2.2.2.2.2.2.1).toInt64)) * (((tm_root_126 xfu s x1 x6 x8 (x9 / 100) x11 ((100 * x13) + 0) x15 9).2.2.2.2.2.2.2.1).toInt64))) ((tm_root_126 xfu s x1 x6 x8 (x9 / 100) x11 ((100 * x13) + 0) x15 9).2.2.2.2.2.2.1 + 1)) else (tm_root_78 n (sI ((tm_root_126 xfu s x1 x6 x8 (x9 / 100) x11 ((100 * x13) + ((x6 / x9) - (x6 / x9) / 100 * 100)) x15 9).2.2.2.2.2.2.2.2) 242 (((tm_root_126 xfu s x1 x6 x8 (x9 / 100) x11 ((100 * x13) + ((x6 / x9) - (x6 / x9) / 100 * 100)) x15 9).2.2.2.2.2.2.1).toNatClampNeg) ((tm_root_126 xfu s x1 x6 x8 (x9 / 100) x11 ((100 * x13) + ((x6 / x9) - (x6 / x9) / 100 * 100)) x15 9).2.2.2.2.2.2.2.1)) ((tm_root_126 xfu s x1 x6 x8 (x9 / 100) x11 ((100 * x13) + ((x6 / x9) - (x6 / x9) / 100 * 100)) x15 9).1) ((tm_root_126 xfu s x1 x6 x8 (x9 / 100) x11 ((100 * x13) + ((x6 / x9) - (x6 / x9) / 100 * 100)) x15 9).2.1) ((tm_root_126 xfu s x1 x6 x8 (x9 / 100) x11 ((100 * x13) + ((x6 / x9) - (x6 / x9) / 100 * 100)) x15 9).2.2.1) ((tm_root_126 xfu s x1 x6 x8 (x9 / 100) x11 ((100 * x13) + ((x6 / x9) - (x6 / x9) / 100 * 100)) x15 9).2.2.2.1) ((10 * (tm_root_126 xfu s x1 x6 x8 (x9 / 100) x11 ((100 * x13) + ((x6 / x9) - (x6 / x9) / 100 * 100)) x15 9).2.2.2.2.1) + (((tm_root_126 xfu s x1 x6 x8 (x9 / 100) x11 ((100 * x13) + ((x6 / x9) - (x6 / x9) / 100 * 100)) x15 9).2.2.2.2.2.2.2.1).toInt64)) ((tm_root_126 xfu s x1 x6 x8 (x9 / 100) x11 ((100 * x13) + ((x6 / x9) - (x6 / x9) / 100 * 100)) x15 9).2.2.2.2.2.1 - (((20 * (tm_root_126 xfu s x1 x6 x8 (x9 / 100) x11 ((100 * x13) + ((x6 / x9) - (x6 / x9) / 100 * 100)) x15 9).2.2.2.2.1) + (((tm_root_126 xfu s x1 x6 x8 (x9 / 100) x11 ((100 * x13) + ((x6 / x9) - (x6 / x9) / 100 * 100)) x15 9).2.2.2.2.2.2.2.1).toInt64)) * (((tm_root_126 xfu s x1 x6 x8 (x9 / 100) x11 ((100 * x13) + ((x6 / x9) - (x6 / x9) / 100 * 100)) x15 9).2.2.2.2.2.2.2.1).toInt64))) ((tm_root_126 xfu s x1 x6 x8 (x9 / 100) x11 ((100 * x13) + ((x6 / x9) - (x6 / x9) / 100 * 100)) x15 9).2.2.2.2.2.2.1 + 1))))
def tm_root_78_ok : Nat → xS → Int32 → Int64 → Int32 → Int64 → Int64 → Int64 → Int32 → Prop
  | 0, _, _, _, _, _, _, _, _ => False
  | n + 1, s, x1, x6, x8, x9, x11, x13, x15 => ((15 ≤ x15 → (tm_round_ok s 1 ((x8 / 2) + 6) (if x1 = 0 then (0 : Int32) else 15) (zb (!decide (x13 ≤ 0))))) ∧ (¬ (15 ≤ x15) → ((x9 ≤ 0 → ((tm_root_126_ok xfu s x1 x6 x8 (x9 / 100) x11 ((100 * x13) + 0) x15 9) ∧ ((vp_in ((tm_root_126 xfu s x1 x6 x8 (x9 / 100) x11 ((100 * x13) + 0) x15 9).2.2.2.2.2.2.1) 256) ∧ (tm_root_78_ok n (sI ((tm_root_126 xfu s x1 x6 x8 (x9 / 100) x11 ((100 * x13) + 0) x15 9).2.2.2.2.2.2.2.2) 242 (((tm_root_126 xfu s x1 x6 x8 (x9 / 100) x11 ((100 * x13) + 0) x15 9).2.2.2.2.2.2.1).toNatClampNeg) ((tm_root_126 xfu s x1 x6 x8 (x9 / 100) x11 ((100 * x13) + 0) x15 9).2.2.2.2.2.2.2.1)) ((tm_root_126 xfu s x1 x6 x8 (x9 / 100) x11 ((100 * x13) + 0) x15 9).1) ((tm_root_126 xfu s x1 x6 x8 (x9 / 100) x11 ((100 * x13) + 0) x15 9).2.1) ((tm_root_126 xfu s x1 x6 x8 (x9 / 100) x11 ((100 * x13) + 0) x15 9).2.2.1) ((tm_root_126 xfu s x1 x6 x8 (x9 / 100) x11 ((100 * x13) + 0) x15 9).2.2.2.1) ((10 * (tm_root_126 xfu s x1 x6 x8 (x9 / 100) x11 ((100 * x13) + 0) x15 9).2.2.2.2.1) + (((tm_root_126 xfu s x1 x6 x8 (x9 / 100) x11 ((100 * x13) + 0) x15 9).2.2.2.2.2.2.2.1).toInt64)) ((tm_root_126 xfu s x1 x6 x8 (x9 / 100) x11 ((100 * x13) + 0) x15 9).2.2.2.2.2.1 - (((20 * (tm_root_126 xfu s x1 x6 x8 (x9 / 100) x11 ((100 * x13) + 0) x15 9).2.2.2.2.1) + (((tm_root_126 xfu s x1 x6 x8 (x9 / 100) x11 ((100 * x13) + 0) x15 9).2.2.2.2.2.2.2.1).toInt64)) * (((tm_root_126 xfu s x1 x6 x8 (x9 / 100) x11 ((100 * x13) + 0) x15 9).2.2.2.2.2.2.2.1).toInt64))) ((tm_root_126 xfu s x1 x6 x8 (x9 / 100) x11 ((100 * x13) + 0) x15 9).2.2.2.2.2.2.1 + 1))))) ∧ (¬ (x9 ≤ 0) → ((¬ x9 = 0) ∧ ((tm_root_126_ok xfu s x1 x6 x8 (x9 / 100) x11 ((100 * x13) + ((x6 / x9) - (x6 / x9) / 100 * 100)) x15 9) ∧ ((vp_in ((tm_root_126 xfu s x1 x6 x8 (x9 / 100) x11 ((100 * x13) + ((x6 / x9) - (x6 / x9) / 100 * 100)) x15 9).2.2.2.2.2.2.1) 256) ∧ (tm_root_78_ok n (sI ((tm_root_126 xfu s x1 x6 x8 (x9 / 100) x11 ((100 * x13) + ((x6 / x9) - (x6 / x9) / 100 * 100)) x15 9).2.2.2.2.2.2.2.2) 242 (((tm_root_126 xfu s x1 x6 x8 (x9 / 100) x11 ((100 * x13) + ((x6 / x9) - (x6 / x9) / 100 * 100)) x15 9).2.2.2.2.2.2.1).toNatClampNeg) ((tm_root_126 xfu s x1 x6 x8 (x9 / 100) x11 ((100 * x13) + ((x6 / x9) - (x6 / x9) / 100 * 100)) x15 9).2.2.2.2.2.2.2.1)) ((tm_root_126 xfu s x1 x6 x8 (x9 / 100) x11 ((100 * x13) + ((x6 / x9) - (x6 / x9) / 100 * 100)) x15 9).1) ((tm_root_126 xfu s x1 x6 x8 (x9 / 100) x11 ((100 * x13) + ((x6 / x9) - (x6 / x9) / 100 * 100)) x15 9).2.1) ((tm_root_126 xfu s x1 x6 x8 (x9 / 100) x11 ((100 * x13) + ((x6 / x9) - (x6 / x9) / 100 * 100)) x15 9).2.2.1) ((tm_root_126 xfu s x1 x6 x8 (x9 / 100) x11 ((100 * x13) + ((x6 / x9) - (x6 / x9) / 100 * 100)) x15 9).2.2.2.1) ((10 * (tm_root_126 xfu s x1 x6 x8 (x9 / 100) x11 ((100 * x13) + ((x6 / x9) - (x6 / x9) / 100 * 100)) x15 9).2.2.2.2.1) + (((tm_root_126 xfu s x1 x6 x8 (x9 / 100) x11 ((100 * x13) + ((x6 / x9) - (x6 / x9) / 100 * 100)) x15 9).2.2.2.2.2.2.2.1).toInt64)) ((tm_root_126 xfu s x1 x6 x8 (x9 / 100) x11 ((100 * x13) + ((x6 / x9) - (x6 / x9) / 100 * 100)) x15 9).2.2.2.2.2.1 - (((20 * (tm_root_126 xfu s x1 x6 x8 (x9 / 100) x11 ((100 * x13) + ((x6 / x9) - (x6 / x9) / 100 * 100)) x15 9).2.2.2.2.1) + (((tm_root_126 xfu s x1 x6 x8 (x9 / 100) x11 ((100 * x13) + ((x6 / x9) - (x6 / x9) / 100 * 100)) x15 9).2.2.2.2.2.2.2.1).toInt64)) * (((tm_root_126 xfu s x1 x6 x8 (x9 / 100) x11 ((100 * x13) + ((x6 / x9) - (x6 / x9) / 100 * 100)) x15 9).2.2.2.2.2.2.2.1).toInt64))) ((tm_root_126 xfu s x1 x6 x8 (x9 / 100) x11 ((100 * x13) + ((x6 / x9) - (x6 / x9) / 100 * 100)) x15 9).2.2.2.2.2.2.1 + 1)))))))))
set_option maxRecDepth 100000 in
theorem n41_78 {xs : Nat → Int32} {Ls : Nat} {Φ : Option xV → xH → Prop} : ∀ (n : Nat) (s : xS) (x1 : Int32) (x6 : Int64) (x8 : Int32) (x9 : Int64) (x11 : Int64) (x13 : Int64) (x15 : Int32), tm_root_78_ok n s x1 x6 x8 x9 x11 x13 x15 → Φ (some (vi (tm_root_78 n s x1 x6 x8 x9 x11 x13 x15).1)) (xhp (tm_root_78 n s x1 x6 x8 x9 x11 x13 x15).2) → xW (xX0 xs Ls) p41 78 [(0, vr 12 230), (1, vi x1), (6, vl x6), (8, vi x8), (9, vl x9), (11, vl x11), (13, vl x13), (15, vi x15)] [] (xhp s) Φ := by
  intro n
  induction n with
  | zero => intro s _ _ _ _ _ _ _ gq; exact gq.elim
  | succ n ih =>
    intro s x1 x6 x8 x9 x11 x13 x15 gq h
    unfold tm_root_78_ok at gq
    unfold tm_root_78 at h
    exact b41_78 s x1 x6 x8 x9 x11 x13 x15 (⟨fun hc => by rw [if_pos hc] at h; replace gq := gq.1 hc; exact ⟨gq, (by (try dsimp only at h); exact h)⟩, fun hc => by rw [if_neg hc] at h; replace gq := gq.2 hc; exact ⟨fun hc => by rw [if_pos hc] at h; replace gq := gq.1 hc; exact ⟨gq.1, by replace gq := gq.2; exact ⟨gq.1, by replace gq := gq.2; exact ih _ _ _ _ _ _ _ _ gq h⟩⟩, fun hc => by rw [if_neg hc] at h; replace gq := gq.2 hc; exact ⟨gq.1, by replace gq := gq.2; exact ⟨gq.1, by replace gq := gq.2; exact ⟨gq.1, by replace gq := gq.2; exact ih _ _ _ _ _ _ _ _ gq h⟩⟩⟩⟩⟩)
set_option maxRecDepth 100000 in
theorem b41_62 {xs : Nat → Int32} {Ls : Nat} {Φ : Option xV → xH → Prop} (s : xS) (x1 : Int32) (x6 : Int64) (y0 : Int32) (g : xW (xX0 xs Ls) p41 78 [(0, vr 12 230), (1, vi x1), (6, vl x6), (8, vi y0), (9, vl 1000000000000), (11, vl 0), (13, vl 0), (15, vi 0)] [] (xhp s) Φ) : xW (xX0 xs Ls) p41 62 [(0, vr 12 230), (1, vi x1), (6, vl x6)] [vi y0] (xhp s) Φ := by
  refine xW.seg (pc1 := 78) (L1 := [(15, vi 0), (13, vl 0), (11, vl 0), (9, vl 1000000000000), (8, vi y0), (0, vr 12 230), (1, vi x1), (6, vl x6)]) (st1 := []) (h1 := xhp s) 9 (fun _ _ _ _ => rfl) ?_
  exact xW.locs (L := [(0, vr 12 230), (1, vi x1), (6, vl x6), (8, vi y0), (9, vl 1000000000000), (11, vl 0), (13, vl 0), (15, vi 0)]) ⟨rfl, rfl, rfl, rfl, rfl, rfl, rfl, rfl, trivial⟩ rfl g
noncomputable def tm_root_62_d (s : xS) (x1 : Int32) (x6 : Int64) (y0 : Int32) : Int32 × xS := (tm_root_78 xfu s x1 x6 y0 1000000000000 0 0 0)
noncomputable def tm_root_62 : xS → Int32 → Int64 → Int32 → Int32 × xS := Classical.choose (⟨tm_root_62_d, rfl⟩ : ∃ f, f = tm_root_62_d)
set_option maxRecDepth 100000 in
theorem tm_root_62_eq : tm_root_62 = tm_root_62_d := Classical.choose_spec (⟨tm_root_62_d, rfl⟩ : ∃ f, f = tm_root_62_d)
def tm_root_62_ok (s : xS) (x1 : Int32) (x6 : Int64) (y0 : Int32) : Prop := (tm_root_78_ok xfu s x1 x6 y0 1000000000000 0 0 0)
set_option maxRecDepth 100000 in
theorem n41_62 {xs : Nat → Int32} {Ls : Nat} {Φ : Option xV → xH → Prop} (s : xS) (x1 : Int32) (x6 : Int64) (y0 : Int32) (gq : tm_root_62_ok s x1 x6 y0) (h : Φ (some (vi (tm_root_62 s x1 x6 y0).1)) (xhp (tm_root_62 s x1 x6 y0).2)) : xW (xX0 xs Ls) p41 62 [(0, vr 12 230), (1, vi x1), (6, vl x6)] [vi y0] (xhp s) Φ := by
  rw [tm_root_62_eq] at h
  unfold tm_root_62_d at h
  unfold tm_root_62_ok at gq
  exact b41_62 s x1 x6 y0 (n41_78 _ _ _ _ _ _ _ _ _ gq h)
set_option maxRecDepth 100000 in
theorem b41_42 {xs : Nat → Int32} {Ls : Nat} {Φ : Option xV → xH → Prop} (s : xS) (x1 : Int32) (x4 : Int32) (x5 : Int32) (y0 : Int64) (g : xW (xX0 xs Ls) p41 62 [(0, vr 12 230), (1, vi x1), (6, vl y0)] [vi (if x5 = 0 then (x4 - 11) else (x4 - 12))] (xhp s) Φ) : xW (xX0 xs Ls) p41 42 [(0, vr 12 230), (1, vi x1), (4, vi x4), (5, vi x5)] [vl y0] (xhp s) Φ := by
  refine xW.seg (pc1 := 46) (L1 := [(6, vl y0), (0, vr 12 230), (1, vi x1), (4, vi x4), (5, vi x5)]) (st1 := [vi x5]) (h1 := xhp s) 2 (fun _ _ _ _ => rfl) ?_
  suffices J : xW (xX0 xs Ls) p41 62 [(6, vl y0), (0, vr 12 230), (1, vi x1), (4, vi x4), (5, vi x5)] [vi (if x5 = 0 then (x4 - 11) else (x4 - 12))] (xhp s) Φ by
    refine xW.br (c := x5 = 0) (pc1 := 57) (L1 := [(6, vl y0), (0, vr 12 230), (1, vi x1), (4, vi x4), (5, vi x5)]) (st1 := []) (h1 := xhp s) (pc2 := 49) (L2 := [(6, vl y0), (0, vr 12 230), (1, vi x1), (4, vi x4), (5, vi x5)]) (st2 := []) (h2 := xhp s) 1 (fun _ _ _ _ => rfl) (fun hc => ?_) (fun hc => ?_)
    · have hc1 : x5 = 0 := hc
      refine xW.seg (pc1 := 62) (L1 := [(6, vl y0), (0, vr 12 230), (1, vi x1), (4, vi x4), (5, vi x5)]) (st1 := [vi (x4 - 11)]) (h1 := xhp s) 3 (fun _ _ _ _ => rfl) ?_
      refine xW.to (v := vi (if x5 = 0 then (x4 - 11) else (x4 - 12))) ((congrArg vi (if_pos hc1)).symm) ?_
      exact J
    · have hc1 : ¬ (x5 = 0) := hc
      refine xW.seg (pc1 := 62) (L1 := [(6, vl y0), (0, vr 12 230), (1, vi x1), (4, vi x4), (5, vi x5)]) (st1 := [vi (x4 - 12)]) (h1 := xhp s) 4 (fun _ _ _ _ => rfl) ?_
      refine xW.to (v := vi (if x5 = 0 then (x4 - 11) else (x4 - 12))) ((congrArg vi (if_neg hc1)).symm) ?_
      exact J
  exact xW.locs (L := [(0, vr 12 230), (1, vi x1), (6, vl y0)]) ⟨rfl, rfl, rfl, trivial⟩ rfl g
noncomputable def tm_root_42_d (s : xS) (x1 : Int32) (x4 : Int32) (x5 : Int32) (y0 : Int64) : Int32 × xS := (tm_root_62 s x1 y0 (if x5 = 0 then (x4 - 11) else (x4 - 12)))
noncomputable def tm_root_42 : xS → Int32 → Int32 → Int32 → Int64 → Int32 × xS := Classical.choose (⟨tm_root_42_d, rfl⟩ : ∃ f, f = tm_root_42_d)
set_option maxRecDepth 100000 in
theorem tm_root_42_eq : tm_root_42 = tm_root_42_d := Classical.choose_spec (⟨tm_root_42_d, rfl⟩ : ∃ f, f = tm_root_42_d)
def tm_root_42_ok (s : xS) (x1 : Int32) (x4 : Int32) (x5 : Int32) (y0 : Int64) : Prop := (tm_root_62_ok s x1 y0 (if x5 = 0 then (x4 - 11) else (x4 - 12)))
set_option maxRecDepth 100000 in
theorem n41_42 {xs : Nat → Int32} {Ls : Nat} {Φ : Option xV → xH → Prop} (s : xS) (x1 : Int32) (x4 : Int32) (x5 : Int32) (y0 : Int64) (gq : tm_root_42_ok s x1 x4 x5 y0) (h : Φ (some (vi (tm_root_42 s x1 x4 x5 y0).1)) (xhp (tm_root_42 s x1 x4 x5 y0).2)) : xW (xX0 xs Ls) p41 42 [(0, vr 12 230), (1, vi x1), (4, vi x4), (5, vi x5)] [vl y0] (xhp s) Φ := by
  rw [tm_root_42_eq] at h
  unfold tm_root_42_d at h
  unfold tm_root_42_ok at gq
  exact b41_42 s x1 x4 x5 y0 (n41_62 _ _ _ _ gq h)
set_option maxRecDepth 100000 in
theorem b41_26 {xs : Nat → Int32} {Ls : Nat} {Φ : Option xV → xH → Prop} (s : xS) (x1 : Int32) (x2 : Int64) (x4 : Int32) (y0 : Int32) (g : xW (xX0 xs Ls) p41 42 [(0, vr 12 230), (1, vi x1), (4, vi x4), (5, vi y0)] [vl (if y0 = 0 then x2 else (10 * x2))] (xhp s) Φ) : xW (xX0 xs Ls) p41 26 [(0, vr 12 230), (1, vi x1), (2, vl x2), (4, vi x4)] [vi y0] (xhp s) Φ := by
  refine xW.seg (pc1 := 30) (L1 := [(5, vi y0), (0, vr 12 230), (1, vi x1), (2, vl x2), (4, vi x4)]) (st1 := [vi y0]) (h1 := xhp s) 2 (fun _ _ _ _ => rfl) ?_
  suffices J : xW (xX0 xs Ls) p41 42 [(5, vi y0), (0, vr 12 230), (1, vi x1), (2, vl x2), (4, vi x4)] [vl (if y0 = 0 then x2 else (10 * x2))] (xhp s) Φ by
    refine xW.br (c := y0 = 0) (pc1 := 41) (L1 := [(5, vi y0), (0, vr 12 230), (1, vi x1), (2, vl x2), (4, vi x4)]) (st1 := []) (h1 := xhp s) (pc2 := 33) (L2 := [(5, vi y0), (0, vr 12 230), (1, vi x1), (2, vl x2), (4, vi x4)]) (st2 := []) (h2 := xhp s) 1 (fun _ _ _ _ => rfl) (fun hc => ?_) (fun hc => ?_)
    · have hc1 : y0 = 0 := hc
      refine xW.seg (pc1 := 42) (L1 := [(5, vi y0), (0, vr 12 230), (1, vi x1), (2, vl x2), (4, vi x4)]) (st1 := [vl x2]) (h1 := xhp s) 1 (fun _ _ _ _ => rfl) ?_
      refine xW.to (v := vl (if y0 = 0 then x2 else (10 * x2))) ((congrArg vl (if_pos hc1)).symm) ?_
      exact J
    · have hc1 : ¬ (y0 = 0) := hc
      refine xW.seg (pc1 := 42) (L1 := [(5, vi y0), (0, vr 12 230), (1, vi x1), (2, vl x2), (4, vi x4)]) (st1 := [vl (10 * x2)]) (h1 := xhp s) 4 (fun _ _ _ _ => rfl) ?_
      refine xW.to (v := vl (if y0 = 0 then x2 else (10 * x2))) ((congrArg vl (if_neg hc1)).symm) ?_
      exact J
  exact xW.locs (L := [(0, vr 12 230), (1, vi x1), (4, vi x4), (5, vi y0)]) ⟨rfl, rfl, rfl, rfl, trivial⟩ rfl g
noncomputable def tm_root_26_d (s : xS) (x1 : Int32) (x2 : Int64) (x4 : Int32) (y0 : Int32) : Int32 × xS := (tm_root_42 s x1 x4 y0 (if y0 = 0 then x2 else (10 * x2)))
noncomputable def tm_root_26 : xS → Int32 → Int64 → Int32 → Int32 → Int32 × xS := Classical.choose (⟨tm_root_26_d, rfl⟩ : ∃ f, f = tm_root_26_d)
set_option maxRecDepth 100000 in
theorem tm_root_26_eq : tm_root_26 = tm_root_26_d := Classical.choose_spec (⟨tm_root_26_d, rfl⟩ : ∃ f, f = tm_root_26_d)
def tm_root_26_ok (s : xS) (x1 : Int32) (x2 : Int64) (x4 : Int32) (y0 : Int32) : Prop := (tm_root_42_ok s x1 x4 y0 (if y0 = 0 then x2 else (10 * x2)))
set_option maxRecDepth 100000 in
theorem n41_26 {xs : Nat → Int32} {Ls : Nat} {Φ : Option xV → xH → Prop} (s : xS) (x1 : Int32) (x2 : Int64) (x4 : Int32) (y0 : Int32) (gq : tm_root_26_ok s x1 x2 x4 y0) (h : Φ (some (vi (tm_root_26 s x1 x2 x4 y0).1)) (xhp (tm_root_26 s x1 x2 x4 y0).2)) : xW (xX0 xs Ls) p41 26 [(0, vr 12 230), (1, vi x1), (2, vl x2), (4, vi x4)] [vi y0] (xhp s) Φ := by
  rw [tm_root_26_eq] at h
  unfold tm_root_26_d at h
  unfold tm_root_26_ok at gq
  exact b41_26 s x1 x2 x4 y0 (n41_42 _ _ _ _ _ gq h)
set_option maxRecDepth 100000 in
theorem b41_0 {xs : Nat → Int32} {Ls : Nat} {Φ : Option xV → xH → Prop} (s : xS) (z : Int32) (d : Int64) (e : Int32) (g : ((0 ≤ z → ((tm_clearRow_ok s) ∧ xW (xX0 xs Ls) p41 26 [(0, vr 12 230), (1, vi z), (2, vl d), (4, vi e)] [vi (zb (decide (((e - 11) &&& 1) = 1)))] (xhp (tm_clearRow s)) Φ)) ∧ (¬ (0 ≤ z) → Φ (some (vi 4)) (xhp s)))) : xW (xX0 xs Ls) p41 0 [(0, vr 12 230), (1, vi z), (2, vl d), (4, vi e)] [] (xhp s) Φ := by
  refine xW.br (c := 0 ≤ z) (pc1 := 6) (L1 := [(0, vr 12 230), (1, vi z), (2, vl d), (4, vi e)]) (st1 := []) (h1 := xhp s) (pc2 := 4) (L2 := [(0, vr 12 230), (1, vi z), (2, vl d), (4, vi e)]) (st2 := []) (h2 := xhp s) 2 (fun _ _ _ _ => rfl) (fun hc => ?_) (fun hc => ?_)
  · replace g := g.1 hc
    refine xW.call (y := 34) (as := [vr 12 230]) (h0 := xhp s) (pc0 := 7) (len := 3) (L0 := [(0, vr 12 230), (1, vi z), (2, vl d), (4, vi e)]) (rest := []) 2 (fun _ _ _ _ => rfl) (m34 _ g.1 ?_)
    show xW (xX0 xs Ls) p41 10 [(0, vr 12 230), (1, vi z), (2, vl d), (4, vi e)] [] (xhp (tm_clearRow s)) Φ
    replace g := g.2
    refine xW.seg (pc1 := 18) (L1 := [(0, vr 12 230), (1, vi z), (2, vl d), (4, vi e)]) (st1 := [vi 1, vi ((e - 11) &&& 1)]) (h1 := xhp (tm_clearRow s)) 6 (fun _ _ _ _ => rfl) ?_
    suffices J : xW (xX0 xs Ls) p41 26 [(0, vr 12 230), (1, vi z), (2, vl d), (4, vi e)] [vi (zb (decide (((e - 11) &&& 1) = 1)))] (xhp (tm_clearRow s)) Φ by
      refine xW.br (c := ¬ ((e - 11) &&& 1) = 1) (pc1 := 25) (L1 := [(0, vr 12 230), (1, vi z), (2, vl d), (4, vi e)]) (st1 := []) (h1 := xhp (tm_clearRow s)) (pc2 := 21) (L2 := [(0, vr 12 230), (1, vi z), (2, vl d), (4, vi e)]) (st2 := []) (h2 := xhp (tm_clearRow s)) 1 (fun _ _ _ _ => rfl) (fun hc => ?_) (fun hc => ?_)
      · have hc1 : ¬ ((e - 11) &&& 1) = 1 := hc
        refine xW.seg (pc1 := 26) (L1 := [(0, vr 12 230), (1, vi z), (2, vl d), (4, vi e)]) (st1 := [vi 0]) (h1 := xhp (tm_clearRow s)) 1 (fun _ _ _ _ => rfl) ?_
        refine xW.to (v := vi (zb (decide (((e - 11) &&& 1) = 1)))) (zb_f (by simp only [decide_eq_false hc1, Bool.true_or, Bool.or_true, Bool.false_or, Bool.or_false, Bool.true_and, Bool.and_true, Bool.false_and, Bool.and_false, Bool.not_true, Bool.not_false, cond_true, cond_false])) ?_
        exact J
      · have hc1 : ((e - 11) &&& 1) = 1 := (Decidable.not_not.mp hc)
        refine xW.seg (pc1 := 26) (L1 := [(0, vr 12 230), (1, vi z), (2, vl d), (4, vi e)]) (st1 := [vi 1]) (h1 := xhp (tm_clearRow s)) 2 (fun _ _ _ _ => rfl) ?_
        refine xW.to (v := vi (zb (decide (((e - 11) &&& 1) = 1)))) (zb_t (by simp only [decide_eq_true hc1, Bool.true_or, Bool.or_true, Bool.false_or, Bool.or_false, Bool.true_and, Bool.and_true, Bool.false_and, Bool.and_false, Bool.not_true, Bool.not_false, cond_true, cond_false])) ?_
        exact J
    exact g
  · replace g := g.2 hc
    exact xW.ret (v0 := some (vi 4)) (h1 := xhp s) 2 (fun _ _ _ _ => rfl) g
noncomputable def tm_root_d (s : xS) (z : Int32) (d : Int64) (e : Int32) : Int32 × xS := (if 0 ≤ z then (tm_root_26 (tm_clearRow s) z d e (zb (decide (((e - 11) &&& 1) = 1)))) else (4, s))
noncomputable def tm_root : xS → Int32 → Int64 → Int32 → Int32 × xS := Classical.choose (⟨tm_root_d, rfl⟩ : ∃ f, f = tm_root_d)
set_option maxRecDepth 100000 in
theorem tm_root_eq : tm_root = tm_root_d := Classical.choose_spec (⟨tm_root_d, rfl⟩ : ∃ f, f = tm_root_d)
def tm_root_ok (s : xS) (z : Int32) (d : Int64) (e : Int32) : Prop := (0 ≤ z → ((tm_clearRow_ok s) ∧ (tm_root_26_ok (tm_clearRow s) z d e (zb (decide (((e - 11) &&& 1) = 1))))))
set_option maxRecDepth 100000 in
theorem m41 {xs : Nat → Int32} {Ls : Nat} {Ψ : xO → xH → Prop} (s : xS) (z : Int32) (d : Int64) (e : Int32) (gq : tm_root_ok s z d e) (h : Ψ (.inl (some (vi (tm_root s z d e).1))) (xhp (tm_root s z d e).2)) : xM (xX0 xs Ls) 41 [vr 12 230, vi z, vl d, vi e] (xhp s) Ψ := by
  rw [tm_root_eq] at h
  unfold tm_root_d at h
  unfold tm_root_ok at gq
  exact xM.of (P := p41) rfl rfl rfl (b41_0 s z d e (⟨fun hc => by rw [if_pos hc] at h; replace gq := gq hc; exact ⟨gq.1, by replace gq := gq.2; exact n41_26 _ _ _ _ _ gq h⟩, fun hc => by rw [if_neg hc] at h; exact (by (try dsimp only at h); exact h)⟩))
/-! tm_work -/
theorem b42_0 {xs : Nat → Int32} {Ls : Nat} {Φ : Option xV → xH → Prop} (s : xS) (f : Int32) (i : Int32) (j : Int32) (g : ((vp_in i 640) ∧ ((vp_in i 192) ∧ ((vp_in (23 + i) 640) ∧ ((vp_in j 640) ∧ ((vp_in j 192) ∧ ((vp_in (23 + j) 640) ∧ ((f = 42 → ((tm_multiply_ok s (gI s 231 i.toNatClampNeg) (gJ s 232 i.toNatClampNeg) (gI s 231 ((23 + i).toNatClampNeg)) (gI s 231 j.toNatClampNeg) (gJ s 232 j.toNatClampNeg) (gI s 231 ((23 + j).toNatClampNeg))) ∧ Φ (some (vi ((tm_multiply s (gI s 231 i.toNatClampNeg) (gJ s 232 i.toNatClampNeg) (gI s 231 ((23 + i).toNatClampNeg)) (gI s 231 j.toNatClampNeg) (gJ s 232 j.toNatClampNeg) (gI s 231 ((23 + j).toNatClampNeg))).1))) (xhp ((tm_multiply s (gI s 231 i.toNatClampNeg) (gJ s 232 i.toNatClampNeg) (gI s 231 ((23 + i).toNatClampNeg)) (gI s 231 j.toNatClampNeg) (gJ s 232 j.toNatClampNeg) (gI s 231 ((23 + j).toNatClampNeg))).2)))) ∧ (f = 43 → ((tm_add_ok s (gI s 231 i.toNatClampNeg) (gJ s 232 i.toNatClampNeg) (gI s 231 ((23 + i).toNatClampNeg)) (gI s 231 j.toNatClampNeg) (gJ s 232 j.toNatClampNeg) (gI s 231 ((23 + j).toNatClampNeg))) ∧ Φ (some (vi ((tm_add s (gI s 231 i.toNatClampNeg) (gJ s 232 i.toNatClampNeg) (gI s 231 ((23 + i).toNatClampNeg)) (gI s 231 j.toNatClampNeg) (gJ s 232 j.toNatClampNeg) (gI s 231 ((23 + j).toNatClampNeg))).1))) (xhp ((tm_add s (gI s 231 i.toNatClampNeg) (gJ s 232 i.toNatClampNeg) (gI s 231 ((23 + i).toNatClampNeg)) (gI s 231 j.toNatClampNeg) (gJ s 232 j.toNatClampNeg) (gI s 231 ((23 + j).toNatClampNeg))).2)))) ∧ (f = 44 → ((tm_divide_ok s (gI s 231 i.toNatClampNeg) (gJ s 232 i.toNatClampNeg) (gI s 231 ((23 + i).toNatClampNeg)) (gI s 231 j.toNatClampNeg) (gJ s 232 j.toNatClampNeg) (gI s 231 ((23 + j).toNatClampNeg))) ∧ Φ (some (vi ((tm_divide s (gI s 231 i.toNatClampNeg) (gJ s 232 i.toNatClampNeg) (gI s 231 ((23 + i).toNatClampNeg)) (gI s 231 j.toNatClampNeg) (gJ s 232 j.toNatClampNeg) (gI s 231 ((23 + j).toNatClampNeg))).1))) (xhp ((tm_divide s (gI s 231 i.toNatClampNeg) (gJ s 232 i.toNatClampNeg) (gI s 231 ((23 + i).toNatClampNeg)) (gI s 231 j.toNatClampNeg) (gJ s 232 j.toNatClampNeg) (gI s 231 ((23 + j).toNatClampNeg))).2)))) ∧ (f = 45 → ((tm_add_ok s (gI s 231 i.toNatClampNeg) (gJ s 232 i.toNatClampNeg) (gI s 231 ((23 + i).toNatClampNeg)) (-(gI s 231 j.toNatClampNeg)) (gJ s 232 j.toNatClampNeg) (gI s 231 ((23 + j).toNatClampNeg))) ∧ Φ (some (vi ((tm_add s (gI s 231 i.toNatClampNeg) (gJ s 232 i.toNatClampNeg) (gI s 231 ((23 + i).toNatClampNeg)) (-(gI s 231 j.toNatClampNeg)) (gJ s 232 j.toNatClampNeg) (gI s 231 ((23 + j).toNatClampNeg))).1))) (xhp ((tm_add s (gI s 231 i.toNatClampNeg) (gJ s 232 i.toNatClampNeg) (gI s 231 ((23 + i).toNatClampNeg)) (-(gI s 231 j.toNatClampNeg)) (gJ s 232 j.toNatClampNeg) (gI s 231 ((23 + j).toNatClampNeg))).2)))) ∧ (¬ f = 42 → ¬ f = 43 → ¬ f = 44 → ¬ f = 45 → ((tm_divide_ok s (gI s 231 i.toNatClampNeg) (gJ s 232 i.toNatClampNeg) (gI s 231 ((23 + i).toNatClampNeg)) (gI s 231 j.toNatClampNeg) (gJ s 232 j.toNatClampNeg) (gI s 231 ((23 + j).toNatClampNeg))) ∧ Φ (some (vi ((tm_divide s (gI s 231 i.toNatClampNeg) (gJ s 232 i.toNatClampNeg) (gI s 231 ((23 + i).toNatClampNeg)) (gI s 231 j.toNatClampNeg) (gJ s 232 j.toNatClampNeg) (gI s 231 ((23 + j).toNatClampNeg))).1))) (xhp ((tm_divide s (gI s 231 i.toNatClampNeg) (gJ s 232 i.toNatClampNeg) (gI s 231 ((23 + i).toNatClampNeg)) (gI s 231 j.toNatClampNeg) (gJ s 232 j.toNatClampNeg) (gI s 231 ((23 + j).toNatClampNeg))).2)))))))))))) : xW (xX0 xs Ls) p42 0 [(0, vr 12 230), (1, vi f), (2, vi i), (3, vi j)] [] (xhp s) Φ := by
  refine xW.side (c := vp_in i 640) (pc1 := 6) (L1 := [(0, vr 12 230), (1, vi f), (2, vi i), (3, vi j)]) (st1 := [vi (gI s 231 i.toNatClampNeg)]) (h1 := xhp s) 4 (fun _ _ _ _ => rfl) g.1 ?_
  replace g := g.2
  refine xW.side (c := vp_in i 192) (pc1 := 14) (L1 := [(4, vi (gI s 231 i.toNatClampNeg)), (0, vr 12 230), (1, vi f), (2, vi i), (3, vi j)]) (st1 := [vl (gJ s 232 i.toNatClampNeg)]) (h1 := xhp s) 5 (fun _ _ _ _ => rfl) g.1 ?_
  replace g := g.2
  refine xW.side (c := vp_in (23 + i) 640) (pc1 := 25) (L1 := [(5, vl (gJ s 232 i.toNatClampNeg)), (4, vi (gI s 231 i.toNatClampNeg)), (0, vr 12 230), (1, vi f), (2, vi i), (3, vi j)]) (st1 := [vi (gI s 231 ((23 + i).toNatClampNeg))]) (h1 := xhp s) 7 (fun _ _ _ _ => rfl) g.1 ?_
  replace g := g.2
  refine xW.side (c := vp_in j 640) (pc1 := 33) (L1 := [(7, vi (gI s 231 ((23 + i).toNatClampNeg))), (5, vl (gJ s 232 i.toNatClampNeg)), (4, vi (gI s 231 i.toNatClampNeg)), (0, vr 12 230), (1, vi f), (2, vi i), (3, vi j)]) (st1 := [vi (gI s 231 j.toNatClampNeg)]) (h1 := xhp s) 5 (fun _ _ _ _ => rfl) g.1 ?_
  replace g := g.2
  refine xW.side (c := vp_in j 192) (pc1 := 41) (L1 := [(8, vi (gI s 231 j.toNatClampNeg)), (7, vi (gI s 231 ((23 + i).toNatClampNeg))), (5, vl (gJ s 232 i.toNatClampNeg)), (4, vi (gI s 231 i.toNatClampNeg)), (0, vr 12 230), (1, vi f), (2, vi i), (3, vi j)]) (st1 := [vl (gJ s 232 j.toNatClampNeg)]) (h1 := xhp s) 5 (fun _ _ _ _ => rfl) g.1 ?_
  replace g := g.2
  refine xW.side (c := vp_in (23 + j) 640) (pc1 := 52) (L1 := [(9, vl (gJ s 232 j.toNatClampNeg)), (8, vi (gI s 231 j.toNatClampNeg)), (7, vi (gI s 231 ((23 + i).toNatClampNeg))), (5, vl (gJ s 232 i.toNatClampNeg)), (4, vi (gI s 231 i.toNatClampNeg)), (0, vr 12 230), (1, vi f), (2, vi i), (3, vi j)]) (st1 := [vi (gI s 231 ((23 + j).toNatClampNeg))]) (h1 := xhp s) 7 (fun _ _ _ _ => rfl) g.1 ?_
  replace g := g.2
  by_cases hx0 : f = 42
  · refine xW.sw (x := f) (lo := 42) (hi := 45) (offs := #[64, 29, 81, 46]) (dflt := 81) (pc0 := 55) (pc1 := 119) (L1 := [(11, vi (gI s 231 ((23 + j).toNatClampNeg))), (9, vl (gJ s 232 j.toNatClampNeg)), (8, vi (gI s 231 j.toNatClampNeg)), (7, vi (gI s 231 ((23 + i).toNatClampNeg))), (5, vl (gJ s 232 i.toNatClampNeg)), (4, vi (gI s 231 i.toNatClampNeg)), (0, vr 12 230), (1, vi f), (2, vi i), (3, vi j)]) (st1 := []) (h1 := xhp s) (off := 64) 3 (fun _ _ _ _ => rfl) (by rw [hx0]; rfl) rfl ?_
    replace g := g.1 hx0
    refine xW.call (y := 39) (as := [vr 12 230, vi (gI s 231 i.toNatClampNeg), vl (gJ s 232 i.toNatClampNeg), vi (gI s 231 ((23 + i).toNatClampNeg)), vi (gI s 231 j.toNatClampNeg), vl (gJ s 232 j.toNatClampNeg), vi (gI s 231 ((23 + j).toNatClampNeg))]) (h0 := xhp s) (pc0 := 132) (len := 3) (L0 := [(11, vi (gI s 231 ((23 + j).toNatClampNeg))), (9, vl (gJ s 232 j.toNatClampNeg)), (8, vi (gI s 231 j.toNatClampNeg)), (7, vi (gI s 231 ((23 + i).toNatClampNeg))), (5, vl (gJ s 232 i.toNatClampNeg)), (4, vi (gI s 231 i.toNatClampNeg)), (0, vr 12 230), (1, vi f), (2, vi i), (3, vi j)]) (rest := []) 8 (fun _ _ _ _ => rfl) (m39 _ _ _ _ _ _ _ g.1 ?_)
    show xW (xX0 xs Ls) p42 135 [(11, vi (gI s 231 ((23 + j).toNatClampNeg))), (9, vl (gJ s 232 j.toNatClampNeg)), (8, vi (gI s 231 j.toNatClampNeg)), (7, vi (gI s 231 ((23 + i).toNatClampNeg))), (5, vl (gJ s 232 i.toNatClampNeg)), (4, vi (gI s 231 i.toNatClampNeg)), (0, vr 12 230), (1, vi f), (2, vi i), (3, vi j)] [vi ((tm_multiply s (gI s 231 i.toNatClampNeg) (gJ s 232 i.toNatClampNeg) (gI s 231 ((23 + i).toNatClampNeg)) (gI s 231 j.toNatClampNeg) (gJ s 232 j.toNatClampNeg) (gI s 231 ((23 + j).toNatClampNeg))).1)] (xhp ((tm_multiply s (gI s 231 i.toNatClampNeg) (gJ s 232 i.toNatClampNeg) (gI s 231 ((23 + i).toNatClampNeg)) (gI s 231 j.toNatClampNeg) (gJ s 232 j.toNatClampNeg) (gI s 231 ((23 + j).toNatClampNeg))).2)) Φ
    replace g := g.2
    exact xW.ret (v0 := some (vi ((tm_multiply s (gI s 231 i.toNatClampNeg) (gJ s 232 i.toNatClampNeg) (gI s 231 ((23 + i).toNatClampNeg)) (gI s 231 j.toNatClampNeg) (gJ s 232 j.toNatClampNeg) (gI s 231 ((23 + j).toNatClampNeg))).1))) (h1 := xhp ((tm_multiply s (gI s 231 i.toNatClampNeg) (gJ s 232 i.toNatClampNeg) (gI s 231 ((23 + i).toNatClampNeg)) (gI s 231 j.toNatClampNeg) (gJ s 232 j.toNatClampNeg) (gI s 231 ((23 + j).toNatClampNeg))).2)) 1 (fun _ _ _ _ => rfl) g
  replace g := g.2
  by_cases hx1 : f = 43
  · refine xW.sw (x := f) (lo := 42) (hi := 45) (offs := #[64, 29, 81, 46]) (dflt := 81) (pc0 := 55) (pc1 := 84) (L1 := [(11, vi (gI s 231 ((23 + j).toNatClampNeg))), (9, vl (gJ s 232 j.toNatClampNeg)), (8, vi (gI s 231 j.toNatClampNeg)), (7, vi (gI s 231 ((23 + i).toNatClampNeg))), (5, vl (gJ s 232 i.toNatClampNeg)), (4, vi (gI s 231 i.toNatClampNeg)), (0, vr 12 230), (1, vi f), (2, vi i), (3, vi j)]) (st1 := []) (h1 := xhp s) (off := 29) 3 (fun _ _ _ _ => rfl) (by rw [hx1]; rfl) rfl ?_
    replace g := g.1 hx1
    refine xW.call (y := 38) (as := [vr 12 230, vi (gI s 231 i.toNatClampNeg), vl (gJ s 232 i.toNatClampNeg), vi (gI s 231 ((23 + i).toNatClampNeg)), vi (gI s 231 j.toNatClampNeg), vl (gJ s 232 j.toNatClampNeg), vi (gI s 231 ((23 + j).toNatClampNeg))]) (h0 := xhp s) (pc0 := 97) (len := 3) (L0 := [(11, vi (gI s 231 ((23 + j).toNatClampNeg))), (9, vl (gJ s 232 j.toNatClampNeg)), (8, vi (gI s 231 j.toNatClampNeg)), (7, vi (gI s 231 ((23 + i).toNatClampNeg))), (5, vl (gJ s 232 i.toNatClampNeg)), (4, vi (gI s 231 i.toNatClampNeg)), (0, vr 12 230), (1, vi f), (2, vi i), (3, vi j)]) (rest := []) 8 (fun _ _ _ _ => rfl) (m38 _ _ _ _ _ _ _ g.1 ?_)
    show xW (xX0 xs Ls) p42 100 [(11, vi (gI s 231 ((23 + j).toNatClampNeg))), (9, vl (gJ s 232 j.toNatClampNeg)), (8, vi (gI s 231 j.toNatClampNeg)), (7, vi (gI s 231 ((23 + i).toNatClampNeg))), (5, vl (gJ s 232 i.toNatClampNeg)), (4, vi (gI s 231 i.toNatClampNeg)), (0, vr 12 230), (1, vi f), (2, vi i), (3, vi j)] [vi ((tm_add s (gI s 231 i.toNatClampNeg) (gJ s 232 i.toNatClampNeg) (gI s 231 ((23 + i).toNatClampNeg)) (gI s 231 j.toNatClampNeg) (gJ s 232 j.toNatClampNeg) (gI s 231 ((23 + j).toNatClampNeg))).1)] (xhp ((tm_add s (gI s 231 i.toNatClampNeg) (gJ s 232 i.toNatClampNeg) (gI s 231 ((23 + i).toNatClampNeg)) (gI s 231 j.toNatClampNeg) (gJ s 232 j.toNatClampNeg) (gI s 231 ((23 + j).toNatClampNeg))).2)) Φ
    replace g := g.2
    exact xW.ret (v0 := some (vi ((tm_add s (gI s 231 i.toNatClampNeg) (gJ s 232 i.toNatClampNeg) (gI s 231 ((23 + i).toNatClampNeg)) (gI s 231 j.toNatClampNeg) (gJ s 232 j.toNatClampNeg) (gI s 231 ((23 + j).toNatClampNeg))).1))) (h1 := xhp ((tm_add s (gI s 231 i.toNatClampNeg) (gJ s 232 i.toNatClampNeg) (gI s 231 ((23 + i).toNatClampNeg)) (gI s 231 j.toNatClampNeg) (gJ s 232 j.toNatClampNeg) (gI s 231 ((23 + j).toNatClampNeg))).2)) 1 (fun _ _ _ _ => rfl) g
  replace g := g.2
  by_cases hx2 : f = 44
  · refine xW.sw (x := f) (lo := 42) (hi := 45) (offs := #[64, 29, 81, 46]) (dflt := 81) (pc0 := 55) (pc1 := 136) (L1 := [(11, vi (gI s 231 ((23 + j).toNatClampNeg))), (9, vl (gJ s 232 j.toNatClampNeg)), (8, vi (gI s 231 j.toNatClampNeg)), (7, vi (gI s 231 ((23 + i).toNatClampNeg))), (5, vl (gJ s 232 i.toNatClampNeg)), (4, vi (gI s 231 i.toNatClampNeg)), (0, vr 12 230), (1, vi f), (2, vi i), (3, vi j)]) (st1 := []) (h1 := xhp s) (off := 81) 3 (fun _ _ _ _ => rfl) (by rw [hx2]; rfl) rfl ?_
    replace g := g.1 hx2
    refine xW.call (y := 40) (as := [vr 12 230, vi (gI s 231 i.toNatClampNeg), vl (gJ s 232 i.toNatClampNeg), vi (gI s 231 ((23 + i).toNatClampNeg)), vi (gI s 231 j.toNatClampNeg), vl (gJ s 232 j.toNatClampNeg), vi (gI s 231 ((23 + j).toNatClampNeg))]) (h0 := xhp s) (pc0 := 149) (len := 3) (L0 := [(11, vi (gI s 231 ((23 + j).toNatClampNeg))), (9, vl (gJ s 232 j.toNatClampNeg)), (8, vi (gI s 231 j.toNatClampNeg)), (7, vi (gI s 231 ((23 + i).toNatClampNeg))), (5, vl (gJ s 232 i.toNatClampNeg)), (4, vi (gI s 231 i.toNatClampNeg)), (0, vr 12 230), (1, vi f), (2, vi i), (3, vi j)]) (rest := []) 8 (fun _ _ _ _ => rfl) (m40 _ _ _ _ _ _ _ g.1 ?_)
    show xW (xX0 xs Ls) p42 152 [(11, vi (gI s 231 ((23 + j).toNatClampNeg))), (9, vl (gJ s 232 j.toNatClampNeg)), (8, vi (gI s 231 j.toNatClampNeg)), (7, vi (gI s 231 ((23 + i).toNatClampNeg))), (5, vl (gJ s 232 i.toNatClampNeg)), (4, vi (gI s 231 i.toNatClampNeg)), (0, vr 12 230), (1, vi f), (2, vi i), (3, vi j)] [vi ((tm_divide s (gI s 231 i.toNatClampNeg) (gJ s 232 i.toNatClampNeg) (gI s 231 ((23 + i).toNatClampNeg)) (gI s 231 j.toNatClampNeg) (gJ s 232 j.toNatClampNeg) (gI s 231 ((23 + j).toNatClampNeg))).1)] (xhp ((tm_divide s (gI s 231 i.toNatClampNeg) (gJ s 232 i.toNatClampNeg) (gI s 231 ((23 + i).toNatClampNeg)) (gI s 231 j.toNatClampNeg) (gJ s 232 j.toNatClampNeg) (gI s 231 ((23 + j).toNatClampNeg))).2)) Φ
    replace g := g.2
    exact xW.ret (v0 := some (vi ((tm_divide s (gI s 231 i.toNatClampNeg) (gJ s 232 i.toNatClampNeg) (gI s 231 ((23 + i).toNatClampNeg)) (gI s 231 j.toNatClampNeg) (gJ s 232 j.toNatClampNeg) (gI s 231 ((23 + j).toNatClampNeg))).1))) (h1 := xhp ((tm_divide s (gI s 231 i.toNatClampNeg) (gJ s 232 i.toNatClampNeg) (gI s 231 ((23 + i).toNatClampNeg)) (gI s 231 j.toNatClampNeg) (gJ s 232 j.toNatClampNeg) (gI s 231 ((23 + j).toNatClampNeg))).2)) 1 (fun _ _ _ _ => rfl) g
  replace g := g.2
  by_cases hx3 : f = 45
  · refine xW.sw (x := f) (lo := 42) (hi := 45) (offs := #[64, 29, 81, 46]) (dflt := 81) (pc0 := 55) (pc1 := 101) (L1 := [(11, vi (gI s 231 ((23 + j).toNatClampNeg))), (9, vl (gJ s 232 j.toNatClampNeg)), (8, vi (gI s 231 j.toNatClampNeg)), (7, vi (gI s 231 ((23 + i).toNatClampNeg))), (5, vl (gJ s 232 i.toNatClampNeg)), (4, vi (gI s 231 i.toNatClampNeg)), (0, vr 12 230), (1, vi f), (2, vi i), (3, vi j)]) (st1 := []) (h1 := xhp s) (off := 46) 3 (fun _ _ _ _ => rfl) (by rw [hx3]; rfl) rfl ?_
    replace g := g.1 hx3
    refine xW.call (y := 38) (as := [vr 12 230, vi (gI s 231 i.toNatClampNeg), vl (gJ s 232 i.toNatClampNeg), vi (gI s 231 ((23 + i).toNatClampNeg)), vi (-(gI s 231 j.toNatClampNeg)), vl (gJ s 232 j.toNatClampNeg), vi (gI s 231 ((23 + j).toNatClampNeg))]) (h0 := xhp s) (pc0 := 115) (len := 3) (L0 := [(11, vi (gI s 231 ((23 + j).toNatClampNeg))), (9, vl (gJ s 232 j.toNatClampNeg)), (8, vi (gI s 231 j.toNatClampNeg)), (7, vi (gI s 231 ((23 + i).toNatClampNeg))), (5, vl (gJ s 232 i.toNatClampNeg)), (4, vi (gI s 231 i.toNatClampNeg)), (0, vr 12 230), (1, vi f), (2, vi i), (3, vi j)]) (rest := []) 9 (fun _ _ _ _ => rfl) (m38 _ _ _ _ _ _ _ g.1 ?_)
    show xW (xX0 xs Ls) p42 118 [(11, vi (gI s 231 ((23 + j).toNatClampNeg))), (9, vl (gJ s 232 j.toNatClampNeg)), (8, vi (gI s 231 j.toNatClampNeg)), (7, vi (gI s 231 ((23 + i).toNatClampNeg))), (5, vl (gJ s 232 i.toNatClampNeg)), (4, vi (gI s 231 i.toNatClampNeg)), (0, vr 12 230), (1, vi f), (2, vi i), (3, vi j)] [vi ((tm_add s (gI s 231 i.toNatClampNeg) (gJ s 232 i.toNatClampNeg) (gI s 231 ((23 + i).toNatClampNeg)) (-(gI s 231 j.toNatClampNeg)) (gJ s 232 j.toNatClampNeg) (gI s 231 ((23 + j).toNatClampNeg))).1)] (xhp ((tm_add s (gI s 231 i.toNatClampNeg) (gJ s 232 i.toNatClampNeg) (gI s 231 ((23 + i).toNatClampNeg)) (-(gI s 231 j.toNatClampNeg)) (gJ s 232 j.toNatClampNeg) (gI s 231 ((23 + j).toNatClampNeg))).2)) Φ
    replace g := g.2
    exact xW.ret (v0 := some (vi ((tm_add s (gI s 231 i.toNatClampNeg) (gJ s 232 i.toNatClampNeg) (gI s 231 ((23 + i).toNatClampNeg)) (-(gI s 231 j.toNatClampNeg)) (gJ s 232 j.toNatClampNeg) (gI s 231 ((23 + j).toNatClampNeg))).1))) (h1 := xhp ((tm_add s (gI s 231 i.toNatClampNeg) (gJ s 232 i.toNatClampNeg) (gI s 231 ((23 + i).toNatClampNeg)) (-(gI s 231 j.toNatClampNeg)) (gJ s 232 j.toNatClampNeg) (gI s 231 ((23 + j).toNatClampNeg))).2)) 1 (fun _ _ _ _ => rfl) g
  replace g := g.2
  refine xW.sw (x := f) (lo := 42) (hi := 45) (offs := #[64, 29, 81, 46]) (dflt := 81) (pc0 := 55) (pc1 := 136) (L1 := [(11, vi (gI s 231 ((23 + j).toNatClampNeg))), (9, vl (gJ s 232 j.toNatClampNeg)), (8, vi (gI s 231 j.toNatClampNeg)), (7, vi (gI s 231 ((23 + i).toNatClampNeg))), (5, vl (gJ s 232 i.toNatClampNeg)), (4, vi (gI s 231 i.toNatClampNeg)), (0, vr 12 230), (1, vi f), (2, vi i), (3, vi j)]) (st1 := []) (h1 := xhp s) (off := 81) 3 (fun _ _ _ _ => rfl) (xtab_out (xne_all [42, 43, 44, 45] (by decide) ⟨hx0, hx1, hx2, hx3, trivial⟩)) rfl ?_
  replace g := g hx0 hx1 hx2 hx3
  refine xW.call (y := 40) (as := [vr 12 230, vi (gI s 231 i.toNatClampNeg), vl (gJ s 232 i.toNatClampNeg), vi (gI s 231 ((23 + i).toNatClampNeg)), vi (gI s 231 j.toNatClampNeg), vl (gJ s 232 j.toNatClampNeg), vi (gI s 231 ((23 + j).toNatClampNeg))]) (h0 := xhp s) (pc0 := 149) (len := 3) (L0 := [(11, vi (gI s 231 ((23 + j).toNatClampNeg))), (9, vl (gJ s 232 j.toNatClampNeg)), (8, vi (gI s 231 j.toNatClampNeg)), (7, vi (gI s 231 ((23 + i).toNatClampNeg))), (5, vl (gJ s 232 i.toNatClampNeg)), (4, vi (gI s 231 i.toNatClampNeg)), (0, vr 12 230), (1, vi f), (2, vi i), (3, vi j)]) (rest := []) 8 (fun _ _ _ _ => rfl) (m40 _ _ _ _ _ _ _ g.1 ?_)
  show xW (xX0 xs Ls) p42 152 [(11, vi (gI s 231 ((23 + j).toNatClampNeg))), (9, vl (gJ s 232 j.toNatClampNeg)), (8, vi (gI s 231 j.toNatClampNeg)), (7, vi (gI s 231 ((23 + i).toNatClampNeg))), (5, vl (gJ s 232 i.toNatClampNeg)), (4, vi (gI s 231 i.toNatClampNeg)), (0, vr 12 230), (1, vi f), (2, vi i), (3, vi j)] [vi ((tm_divide s (gI s 231 i.toNatClampNeg) (gJ s 232 i.toNatClampNeg) (gI s 231 ((23 + i).toNatClampNeg)) (gI s 231 j.toNatClampNeg) (gJ s 232 j.toNatClampNeg) (gI s 231 ((23 + j).toNatClampNeg))).1)] (xhp ((tm_divide s (gI s 231 i.toNatClampNeg) (gJ s 232 i.toNatClampNeg) (gI s 231 ((23 + i).toNatClampNeg)) (gI s 231 j.toNatClampNeg) (gJ s 232 j.toNatClampNeg) (gI s 231 ((23 + j).toNatClampNeg))).2)) Φ
  replace g := g.2
  exact xW.ret (v0 := some (vi ((tm_divide s (gI s 231 i.toNatClampNeg) (gJ s 232 i.toNatClampNeg) (gI s 231 ((23 + i).toNatClampNeg)) (gI s 231 j.toNatClampNeg) (gJ s 232 j.toNatClampNeg) (gI s 231 ((23 + j).toNatClampNeg))).1))) (h1 := xhp ((tm_divide s (gI s 231 i.toNatClampNeg) (gJ s 232 i.toNatClampNeg) (gI s 231 ((23 + i).toNatClampNeg)) (gI s 231 j.toNatClampNeg) (gJ s 232 j.toNatClampNeg) (gI s 231 ((23 + j).toNatClampNeg))).2)) 1 (fun _ _ _ _ => rfl) g
noncomputable def tm_work_d (s : xS) (f : Int32) (i : Int32) (j : Int32) : Int32 × xS := (if f = 42 then (tm_multiply s (gI s 231 i.toNatClampNeg) (gJ s 232 i.toNatClampNeg) (gI s 231 ((23 + i).toNatClampNeg)) (gI s 231 j.toNatClampNeg) (gJ s 232 j.toNatClampNeg) (gI s 231 ((23 + j).toNatClampNeg))) else (if f = 43 then (tm_add s (gI s 231 i.toNatClampNeg) (gJ s 232 i.toNatClampNeg) (gI s 231 ((23 + i).toNatClampNeg)) (gI s 231 j.toNatClampNeg) (gJ s 232 j.toNatClampNeg) (gI s 231 ((23 + j).toNatClampNeg))) else (if f = 44 then (tm_divide s (gI s 231 i.toNatClampNeg) (gJ s 232 i.toNatClampNeg) (gI s 231 ((23 + i).toNatClampNeg)) (gI s 231 j.toNatClampNeg) (gJ s 232 j.toNatClampNeg) (gI s 231 ((23 + j).toNatClampNeg))) else (if f = 45 then (tm_add s (gI s 231 i.toNatClampNeg) (gJ s 232 i.toNatClampNeg) (gI s 231 ((23 + i).toNatClampNeg)) (-(gI s 231 j.toNatClampNeg)) (gJ s 232 j.toNatClampNeg) (gI s 231 ((23 + j).toNatClampNeg))) else (tm_divide s (gI s 231 i.toNatClampNeg) (gJ s 232 i.toNatClampNeg) (gI s 231 ((23 + i).toNatClampNeg)) (gI s 231 j.toNatClampNeg) (gJ s 232 j.toNatClampNeg) (gI s 231 ((23 + j).toNatClampNeg)))))))
noncomputable def tm_work : xS → Int32 → Int32 → Int32 → Int32 × xS := Classical.choose (⟨tm_work_d, rfl⟩ : ∃ f, f = tm_work_d)
set_option maxRecDepth 100000 in
theorem tm_work_eq : tm_work = tm_work_d := Classical.choose_spec (⟨tm_work_d, rfl⟩ : ∃ f, f = tm_work_d)
def tm_work_ok (s : xS) (f : Int32) (i : Int32) (j : Int32) : Prop := ((vp_in i 640) ∧ ((vp_in i 192) ∧ ((vp_in (23 + i) 640) ∧ ((vp_in j 640) ∧ ((vp_in j 192) ∧ ((vp_in (23 + j) 640) ∧ ((f = 42 → (tm_multiply_ok s (gI s 231 i.toNatClampNeg) (gJ s 232 i.toNatClampNeg) (gI s 231 ((23 + i).toNatClampNeg)) (gI s 231 j.toNatClampNeg) (gJ s 232 j.toNatClampNeg) (gI s 231 ((23 + j).toNatClampNeg)))) ∧ (f = 43 → (tm_add_ok s (gI s 231 i.toNatClampNeg) (gJ s 232 i.toNatClampNeg) (gI s 231 ((23 + i).toNatClampNeg)) (gI s 231 j.toNatClampNeg) (gJ s 232 j.toNatClampNeg) (gI s 231 ((23 + j).toNatClampNeg)))) ∧ (f = 44 → (tm_divide_ok s (gI s 231 i.toNatClampNeg) (gJ s 232 i.toNatClampNeg) (gI s 231 ((23 + i).toNatClampNeg)) (gI s 231 j.toNatClampNeg) (gJ s 232 j.toNatClampNeg) (gI s 231 ((23 + j).toNatClampNeg)))) ∧ (f = 45 → (tm_add_ok s (gI s 231 i.toNatClampNeg) (gJ s 232 i.toNatClampNeg) (gI s 231 ((23 + i).toNatClampNeg)) (-(gI s 231 j.toNatClampNeg)) (gJ s 232 j.toNatClampNeg) (gI s 231 ((23 + j).toNatClampNeg)))) ∧ (¬ f = 42 → ¬ f = 43 → ¬ f = 44 → ¬ f = 45 → (tm_divide_ok s (gI s 231 i.toNatClampNeg) (gJ s 232 i.toNatClampNeg) (gI s 231 ((23 + i).toNatClampNeg)) (gI s 231 j.toNatClampNeg) (gJ s 232 j.toNatClampNeg) (gI s 231 ((23 + j).toNatClampNeg)))))))))))
set_option maxRecDepth 100000 in
theorem m42 {xs : Nat → Int32} {Ls : Nat} {Ψ : xO → xH → Prop} (s : xS) (f : Int32) (i : Int32) (j : Int32) (gq : tm_work_ok s f i j) (h : Ψ (.inl (some (vi (tm_work s f i j).1))) (xhp (tm_work s f i j).2)) : xM (xX0 xs Ls) 42 [vr 12 230, vi f, vi i, vi j] (xhp s) Ψ := by
  rw [tm_work_eq] at h
  unfold tm_work_d at h
  unfold tm_work_ok at gq
  exact xM.of (P := p42) rfl rfl rfl (b42_0 s f i j (⟨gq.1, by replace gq := gq.2; exact ⟨gq.1, by replace gq := gq.2; exact ⟨gq.1, by replace gq := gq.2; exact ⟨gq.1, by replace gq := gq.2; exact ⟨gq.1, by replace gq := gq.2; exact ⟨gq.1, by replace gq := gq.2; exact ⟨fun hc => by rw [if_pos hc] at h; replace gq := gq.1 hc; exact ⟨gq, (by (try dsimp only at h); exact h)⟩, fun hc => by rw [if_neg (by rw [hc]; decide), if_pos hc] at h; replace gq := gq.2.1 hc; exact ⟨gq, (by (try dsimp only at h); exact h)⟩, fun hc => by rw [if_neg (by rw [hc]; decide), if_neg (by rw [hc]; decide), if_pos hc] at h; replace gq := gq.2.2.1 hc; exact ⟨gq, (by (try dsimp only at h); exact h)⟩, fun hc => by rw [if_neg (by rw [hc]; decide), if_neg (by rw [hc]; decide), if_neg (by rw [hc]; decide), if_pos hc] at h; replace gq := gq.2.2.2.1 hc; exact ⟨gq, (by (try dsimp only at h); exact h)⟩, fun hx0 hx1 hx2 hx3 => by rw [if_neg hx0, if_neg hx1, if_neg hx2, if_neg hx3] at h; replace gq := gq.2.2.2.2 hx0 hx1 hx2 hx3; exact ⟨gq, (by (try dsimp only at h); exact h)⟩⟩⟩⟩⟩⟩⟩⟩))
/-! tm_put -/
theorem b43_0 {xs : Nat → Int32} {Ls : Nat} {Φ : Option xV → xH → Prop} (s : xS) (b : Int32) (i : Int32) (g : ((¬ b = 0 → Φ (some (vi b)) (xhp s)) ∧ (b = 0 → ((tm_set_ok s i (gI s 230 29) (gJ s 230 30) (gI s 230 31)) ∧ Φ (some (vi b)) (xhp (tm_set s i (gI s 230 29) (gJ s 230 30) (gI s 230 31))))))) : xW (xX0 xs Ls) p43 0 [(0, vr 12 230), (1, vi b), (2, vi i)] [] (xhp s) Φ := by
  refine xW.br (c := ¬ b = 0) (pc1 := 21) (L1 := [(0, vr 12 230), (1, vi b), (2, vi i)]) (st1 := []) (h1 := xhp s) (pc2 := 4) (L2 := [(0, vr 12 230), (1, vi b), (2, vi i)]) (st2 := []) (h2 := xhp s) 2 (fun _ _ _ _ => rfl) (fun hc => ?_) (fun hc => ?_)
  · replace g := g.1 hc
    exact xW.ret (v0 := some (vi b)) (h1 := xhp s) 2 (fun _ _ _ _ => rfl) g
  · replace g := g.2 (Decidable.not_not.mp hc)
    refine xW.call (y := 32) (as := [vr 12 230, vi i, vi (gI s 230 29), vl (gJ s 230 30), vi (gI s 230 31)]) (h0 := xhp s) (pc0 := 18) (len := 3) (L0 := [(0, vr 12 230), (1, vi b), (2, vi i)]) (rest := []) 9 (fun _ _ _ _ => rfl) (m32 _ _ _ _ _ g.1 ?_)
    show xW (xX0 xs Ls) p43 21 [(0, vr 12 230), (1, vi b), (2, vi i)] [] (xhp (tm_set s i (gI s 230 29) (gJ s 230 30) (gI s 230 31))) Φ
    replace g := g.2
    exact xW.ret (v0 := some (vi b)) (h1 := xhp (tm_set s i (gI s 230 29) (gJ s 230 30) (gI s 230 31))) 2 (fun _ _ _ _ => rfl) g
noncomputable def tm_put_d (s : xS) (b : Int32) (i : Int32) : Int32 × xS := (if ¬ b = 0 then (b, s) else (b, (tm_set s i (gI s 230 29) (gJ s 230 30) (gI s 230 31))))
noncomputable def tm_put : xS → Int32 → Int32 → Int32 × xS := Classical.choose (⟨tm_put_d, rfl⟩ : ∃ f, f = tm_put_d)
set_option maxRecDepth 100000 in
theorem tm_put_eq : tm_put = tm_put_d := Classical.choose_spec (⟨tm_put_d, rfl⟩ : ∃ f, f = tm_put_d)
def tm_put_ok (s : xS) (b : Int32) (i : Int32) : Prop := (b = 0 → (tm_set_ok s i (gI s 230 29) (gJ s 230 30) (gI s 230 31)))
set_option maxRecDepth 100000 in
theorem m43 {xs : Nat → Int32} {Ls : Nat} {Ψ : xO → xH → Prop} (s : xS) (b : Int32) (i : Int32) (gq : tm_put_ok s b i) (h : Ψ (.inl (some (vi (tm_put s b i).1))) (xhp (tm_put s b i).2)) : xM (xX0 xs Ls) 43 [vr 12 230, vi b, vi i] (xhp s) Ψ := by
  rw [tm_put_eq] at h
  unfold tm_put_d at h
  unfold tm_put_ok at gq
  exact xM.of (P := p43) rfl rfl rfl (b43_0 s b i (⟨fun hc => by rw [if_pos hc] at h; exact (by (try dsimp only at h); exact h), fun hc => by rw [if_neg (fun z => z hc)] at h; replace gq := gq hc; exact ⟨gq, (by (try dsimp only at h); exact h)⟩⟩))
/-! tm_copy -/
theorem b44_38 {xs : Nat → Int32} {Ls : Nat} {Φ : Option xV → xH → Prop} (s : xS) (x1 : Int32) (x2 : Int32) (x3 : Int32) (g : ((24 ≤ x3 → Φ none (xhp s)) ∧ (¬ (24 ≤ x3) → ((vp_in ((24 * x1) + x3) 192) ∧ ((vp_in ((24 * x2) + x3) 192) ∧ xW (xX0 xs Ls) p44 38 [(0, vr 12 230), (1, vi x1), (2, vi x2), (3, vi (x3 + 1))] [] (xhp (sJ s 232 (((24 * x2) + x3).toNatClampNeg) (gJ s 232 (((24 * x1) + x3).toNatClampNeg)))) Φ))))) : xW (xX0 xs Ls) p44 38 [(0, vr 12 230), (1, vi x1), (2, vi x2), (3, vi x3)] [] (xhp s) Φ := by
  refine xW.br (c := 24 ≤ x3) (pc1 := 72) (L1 := [(0, vr 12 230), (1, vi x1), (2, vi x2), (3, vi x3)]) (st1 := []) (h1 := xhp s) (pc2 := 44) (L2 := [(0, vr 12 230), (1, vi x1), (2, vi x2), (3, vi x3)]) (st2 := []) (h2 := xhp s) 3 (fun _ _ _ _ => rfl) (fun hc => ?_) (fun hc => ?_)
  · replace g := g.1 hc
    exact xW.ret (v0 := none) (h1 := xhp s) 1 (fun _ _ _ _ => rfl) g
  · replace g := g.2 hc
    refine xW.side (c := vp_in ((24 * x1) + x3) 192) (pc1 := 65) (L1 := [(0, vr 12 230), (1, vi x1), (2, vi x2), (3, vi x3)]) (st1 := [vl (gJ s 232 (((24 * x1) + x3).toNatClampNeg)), vi ((24 * x2) + x3), vr 41 232]) (h1 := xhp s) 15 (fun _ _ _ _ => rfl) g.1 ?_
    replace g := g.2
    refine xW.side (c := vp_in ((24 * x2) + x3) 192) (pc1 := 66) (L1 := [(0, vr 12 230), (1, vi x1), (2, vi x2), (3, vi x3)]) (st1 := []) (h1 := xhp (sJ s 232 (((24 * x2) + x3).toNatClampNeg) (gJ s 232 (((24 * x1) + x3).toNatClampNeg)))) 1 (fun _ _ _ _ => rfl) g.1 ?_
    replace g := g.2
    refine xW.seg (pc1 := 38) (L1 := [(3, vi (x3 + 1)), (0, vr 12 230), (1, vi x1), (2, vi x2)]) (st1 := []) (h1 := xhp (sJ s 232 (((24 * x2) + x3).toNatClampNeg) (gJ s 232 (((24 * x1) + x3).toNatClampNeg)))) 2 (fun _ _ _ _ => rfl) ?_
    exact xW.locs (L := [(0, vr 12 230), (1, vi x1), (2, vi x2), (3, vi (x3 + 1))]) ⟨rfl, rfl, rfl, rfl, trivial⟩ rfl g
noncomputable def tm_copy_38 : Nat → xS → Int32 → Int32 → Int32 → xS
  | 0, s, _, _, _ => s
  | n + 1, s, x1, x2, x3 => (if 24 ≤ x3 then s else (tm_copy_38 n (sJ s 232 (((24 * x2) + x3).toNatClampNeg) (gJ s 232 (((24 * x1) + x3).toNatClampNeg))) x1 x2 (x3 + 1)))
def tm_copy_38_ok : Nat → xS → Int32 → Int32 → Int32 → Prop
  | 0, _, _, _, _ => False
  | n + 1, s, x1, x2, x3 => (¬ (24 ≤ x3) → ((vp_in ((24 * x1) + x3) 192) ∧ ((vp_in ((24 * x2) + x3) 192) ∧ (tm_copy_38_ok n (sJ s 232 (((24 * x2) + x3).toNatClampNeg) (gJ s 232 (((24 * x1) + x3).toNatClampNeg))) x1 x2 (x3 + 1)))))
set_option maxRecDepth 100000 in
theorem n44_38 {xs : Nat → Int32} {Ls : Nat} {Φ : Option xV → xH → Prop} : ∀ (n : Nat) (s : xS) (x1 : Int32) (x2 : Int32) (x3 : Int32), tm_copy_38_ok n s x1 x2 x3 → Φ none (xhp (tm_copy_38 n s x1 x2 x3)) → xW (xX0 xs Ls) p44 38 [(0, vr 12 230), (1, vi x1), (2, vi x2), (3, vi x3)] [] (xhp s) Φ := by
  intro n
  induction n with
  | zero => intro s _ _ _ gq; exact gq.elim
  | succ n ih =>
    intro s x1 x2 x3 gq h
    unfold tm_copy_38_ok at gq
    unfold tm_copy_38 at h
    exact b44_38 s x1 x2 x3 (⟨fun hc => by rw [if_pos hc] at h; exact h, fun hc => by rw [if_neg hc] at h; replace gq := gq hc; exact ⟨gq.1, by replace gq := gq.2; exact ⟨gq.1, by replace gq := gq.2; exact ih _ _ _ _ gq h⟩⟩⟩)
set_option maxRecDepth 100000 in
theorem b44_2 {xs : Nat → Int32} {Ls : Nat} {Φ : Option xV → xH → Prop} (s : xS) (x1 : Int32) (x2 : Int32) (x3 : Int32) (g : ((80 ≤ x3 → xW (xX0 xs Ls) p44 38 [(0, vr 12 230), (1, vi x1), (2, vi x2), (3, vi 0)] [] (xhp s) Φ) ∧ (¬ (80 ≤ x3) → ((vp_in ((80 * x1) + x3) 640) ∧ ((vp_in ((80 * x2) + x3) 640) ∧ xW (xX0 xs Ls) p44 2 [(0, vr 12 230), (1, vi x1), (2, vi x2), (3, vi (x3 + 1))] [] (xhp (sI s 231 (((80 * x2) + x3).toNatClampNeg) (gI s 231 (((80 * x1) + x3).toNatClampNeg)))) Φ))))) : xW (xX0 xs Ls) p44 2 [(0, vr 12 230), (1, vi x1), (2, vi x2), (3, vi x3)] [] (xhp s) Φ := by
  refine xW.br (c := 80 ≤ x3) (pc1 := 36) (L1 := [(0, vr 12 230), (1, vi x1), (2, vi x2), (3, vi x3)]) (st1 := []) (h1 := xhp s) (pc2 := 8) (L2 := [(0, vr 12 230), (1, vi x1), (2, vi x2), (3, vi x3)]) (st2 := []) (h2 := xhp s) 3 (fun _ _ _ _ => rfl) (fun hc => ?_) (fun hc => ?_)
  · replace g := g.1 hc
    refine xW.seg (pc1 := 38) (L1 := [(3, vi 0), (0, vr 12 230), (1, vi x1), (2, vi x2)]) (st1 := []) (h1 := xhp s) 2 (fun _ _ _ _ => rfl) ?_
    exact xW.locs (L := [(0, vr 12 230), (1, vi x1), (2, vi x2), (3, vi 0)]) ⟨rfl, rfl, rfl, rfl, trivial⟩ rfl g
  · replace g := g.2 hc
    refine xW.side (c := vp_in ((80 * x1) + x3) 640) (pc1 := 29) (L1 := [(0, vr 12 230), (1, vi x1), (2, vi x2), (3, vi x3)]) (st1 := [vi (gI s 231 (((80 * x1) + x3).toNatClampNeg)), vi ((80 * x2) + x3), vr 40 231]) (h1 := xhp s) 15 (fun _ _ _ _ => rfl) g.1 ?_
    replace g := g.2
    refine xW.side (c := vp_in ((80 * x2) + x3) 640) (pc1 := 30) (L1 := [(0, vr 12 230), (1, vi x1), (2, vi x2), (3, vi x3)]) (st1 := []) (h1 := xhp (sI s 231 (((80 * x2) + x3).toNatClampNeg) (gI s 231 (((80 * x1) + x3).toNatClampNeg)))) 1 (fun _ _ _ _ => rfl) g.1 ?_
    replace g := g.2
    refine xW.seg (pc1 := 2) (L1 := [(3, vi (x3 + 1)), (0, vr 12 230), (1, vi x1), (2, vi x2)]) (st1 := []) (h1 := xhp (sI s 231 (((80 * x2) + x3).toNatClampNeg) (gI s 231 (((80 * x1) + x3).toNatClampNeg)))) 2 (fun _ _ _ _ => rfl) ?_
    exact xW.locs (L := [(0, vr 12 230), (1, vi x1), (2, vi x2), (3, vi (x3 + 1))]) ⟨rfl, rfl, rfl, rfl, trivial⟩ rfl g
noncomputable def tm_copy_2 : Nat → xS → Int32 → Int32 → Int32 → xS
  | 0, s, _, _, _ => s
  | n + 1, s, x1, x2, x3 => (if 80 ≤ x3 then (tm_copy_38 xfu s x1 x2 0) else (tm_copy_2 n (sI s 231 (((80 * x2) + x3).toNatClampNeg) (gI s 231 (((80 * x1) + x3).toNatClampNeg))) x1 x2 (x3 + 1)))
def tm_copy_2_ok : Nat → xS → Int32 → Int32 → Int32 → Prop
  | 0, _, _, _, _ => False
  | n + 1, s, x1, x2, x3 => ((80 ≤ x3 → (tm_copy_38_ok xfu s x1 x2 0)) ∧ (¬ (80 ≤ x3) → ((vp_in ((80 * x1) + x3) 640) ∧ ((vp_in ((80 * x2) + x3) 640) ∧ (tm_copy_2_ok n (sI s 231 (((80 * x2) + x3).toNatClampNeg) (gI s 231 (((80 * x1) + x3).toNatClampNeg))) x1 x2 (x3 + 1))))))
set_option maxRecDepth 100000 in
theorem n44_2 {xs : Nat → Int32} {Ls : Nat} {Φ : Option xV → xH → Prop} : ∀ (n : Nat) (s : xS) (x1 : Int32) (x2 : Int32) (x3 : Int32), tm_copy_2_ok n s x1 x2 x3 → Φ none (xhp (tm_copy_2 n s x1 x2 x3)) → xW (xX0 xs Ls) p44 2 [(0, vr 12 230), (1, vi x1), (2, vi x2), (3, vi x3)] [] (xhp s) Φ := by
  intro n
  induction n with
  | zero => intro s _ _ _ gq; exact gq.elim
  | succ n ih =>
    intro s x1 x2 x3 gq h
    unfold tm_copy_2_ok at gq
    unfold tm_copy_2 at h
    exact b44_2 s x1 x2 x3 (⟨fun hc => by rw [if_pos hc] at h; replace gq := gq.1 hc; exact n44_38 _ _ _ _ _ gq h, fun hc => by rw [if_neg hc] at h; replace gq := gq.2 hc; exact ⟨gq.1, by replace gq := gq.2; exact ⟨gq.1, by replace gq := gq.2; exact ih _ _ _ _ gq h⟩⟩⟩)
set_option maxRecDepth 100000 in
theorem b44_0 {xs : Nat → Int32} {Ls : Nat} {Φ : Option xV → xH → Prop} (s : xS) (f : Int32) (i : Int32) (g : xW (xX0 xs Ls) p44 2 [(0, vr 12 230), (1, vi f), (2, vi i), (3, vi 0)] [] (xhp s) Φ) : xW (xX0 xs Ls) p44 0 [(0, vr 12 230), (1, vi f), (2, vi i)] [] (xhp s) Φ := by
  refine xW.seg (pc1 := 2) (L1 := [(3, vi 0), (0, vr 12 230), (1, vi f), (2, vi i)]) (st1 := []) (h1 := xhp s) 2 (fun _ _ _ _ => rfl) ?_
  exact xW.locs (L := [(0, vr 12 230), (1, vi f), (2, vi i), (3, vi 0)]) ⟨rfl, rfl, rfl, rfl, trivial⟩ rfl g
noncomputable def tm_copy_d (s : xS) (f : Int32) (i : Int32) : xS := (tm_copy_2 xfu s f i 0)
noncomputable def tm_copy : xS → Int32 → Int32 → xS := Classical.choose (⟨tm_copy_d, rfl⟩ : ∃ f, f = tm_copy_d)
set_option maxRecDepth 100000 in
theorem tm_copy_eq : tm_copy = tm_copy_d := Classical.choose_spec (⟨tm_copy_d, rfl⟩ : ∃ f, f = tm_copy_d)
def tm_copy_ok (s : xS) (f : Int32) (i : Int32) : Prop := (tm_copy_2_ok xfu s f i 0)
set_option maxRecDepth 100000 in
theorem m44 {xs : Nat → Int32} {Ls : Nat} {Ψ : xO → xH → Prop} (s : xS) (f : Int32) (i : Int32) (gq : tm_copy_ok s f i) (h : Ψ (.inl none) (xhp (tm_copy s f i))) : xM (xX0 xs Ls) 44 [vr 12 230, vi f, vi i] (xhp s) Ψ := by
  rw [tm_copy_eq] at h
  unfold tm_copy_d at h
  unfold tm_copy_ok at gq
  exact xM.of (P := p44) rfl rfl rfl (b44_0 s f i (n44_2 _ _ _ _ _ gq h))
/-! tm_keep -/
theorem b45_39 {xs : Nat → Int32} {Ls : Nat} {Φ : Option xV → xH → Prop} (s : xS) (x1 : Int32) (g : ((tm_copy_ok (sI s 230 3 ((gI s 230 3) + 1)) x1 ((gI s 230 3) + 1)) ∧ Φ none (xhp (tm_copy (sI s 230 3 ((gI s 230 3) + 1)) x1 ((gI s 230 3) + 1))))) : xW (xX0 xs Ls) p45 39 [(0, vr 12 230), (1, vi x1)] [] (xhp s) Φ := by
  refine xW.call (y := 44) (as := [vr 12 230, vi x1, vi ((gI s 230 3) + 1)]) (h0 := xhp (sI s 230 3 ((gI s 230 3) + 1))) (pc0 := 55) (len := 3) (L0 := [(0, vr 12 230), (1, vi x1)]) (rest := []) 11 (fun _ _ _ _ => rfl) (m44 _ _ _ g.1 ?_)
  show xW (xX0 xs Ls) p45 58 [(0, vr 12 230), (1, vi x1)] [] (xhp (tm_copy (sI s 230 3 ((gI s 230 3) + 1)) x1 ((gI s 230 3) + 1))) Φ
  replace g := g.2
  exact xW.ret (v0 := none) (h1 := xhp (tm_copy (sI s 230 3 ((gI s 230 3) + 1)) x1 ((gI s 230 3) + 1))) 1 (fun _ _ _ _ => rfl) g
noncomputable def tm_keep_39_d (s : xS) (x1 : Int32) : xS := (tm_copy (sI s 230 3 ((gI s 230 3) + 1)) x1 ((gI s 230 3) + 1))
noncomputable def tm_keep_39 : xS → Int32 → xS := Classical.choose (⟨tm_keep_39_d, rfl⟩ : ∃ f, f = tm_keep_39_d)
set_option maxRecDepth 100000 in
theorem tm_keep_39_eq : tm_keep_39 = tm_keep_39_d := Classical.choose_spec (⟨tm_keep_39_d, rfl⟩ : ∃ f, f = tm_keep_39_d)
def tm_keep_39_ok (s : xS) (x1 : Int32) : Prop := (tm_copy_ok (sI s 230 3 ((gI s 230 3) + 1)) x1 ((gI s 230 3) + 1))
set_option maxRecDepth 100000 in
theorem n45_39 {xs : Nat → Int32} {Ls : Nat} {Φ : Option xV → xH → Prop} (s : xS) (x1 : Int32) (gq : tm_keep_39_ok s x1) (h : Φ none (xhp (tm_keep_39 s x1))) : xW (xX0 xs Ls) p45 39 [(0, vr 12 230), (1, vi x1)] [] (xhp s) Φ := by
  rw [tm_keep_39_eq] at h
  unfold tm_keep_39_d at h
  unfold tm_keep_39_ok at gq
  exact b45_39 s x1 (⟨gq, h⟩)
set_option maxRecDepth 100000 in
theorem b45_10 {xs : Nat → Int32} {Ls : Nat} {Φ : Option xV → xH → Prop} (s : xS) (x1 : Int32) (x2 : Int32) (g : ((5 ≤ x2 → xW (xX0 xs Ls) p45 39 [(0, vr 12 230), (1, vi x1)] [] (xhp (sI s 230 3 ((gI s 230 3) - 1))) Φ) ∧ (¬ (5 ≤ x2) → ((tm_copy_ok s (x2 + 1) x2) ∧ xW (xX0 xs Ls) p45 10 [(0, vr 12 230), (1, vi x1), (2, vi (x2 + 1))] [] (xhp (tm_copy s (x2 + 1) x2)) Φ)))) : xW (xX0 xs Ls) p45 10 [(0, vr 12 230), (1, vi x1), (2, vi x2)] [] (xhp s) Φ := by
  refine xW.br (c := 5 ≤ x2) (pc1 := 29) (L1 := [(0, vr 12 230), (1, vi x1), (2, vi x2)]) (st1 := []) (h1 := xhp s) (pc2 := 15) (L2 := [(0, vr 12 230), (1, vi x1), (2, vi x2)]) (st2 := []) (h2 := xhp s) 3 (fun _ _ _ _ => rfl) (fun hc => ?_) (fun hc => ?_)
  · replace g := g.1 hc
    refine xW.seg (pc1 := 39) (L1 := [(0, vr 12 230), (1, vi x1), (2, vi x2)]) (st1 := []) (h1 := xhp (sI s 230 3 ((gI s 230 3) - 1))) 6 (fun _ _ _ _ => rfl) ?_
    exact xW.locs (L := [(0, vr 12 230), (1, vi x1)]) ⟨rfl, rfl, trivial⟩ rfl g
  · replace g := g.2 hc
    refine xW.call (y := 44) (as := [vr 12 230, vi (x2 + 1), vi x2]) (h0 := xhp s) (pc0 := 20) (len := 3) (L0 := [(0, vr 12 230), (1, vi x1), (2, vi x2)]) (rest := []) 6 (fun _ _ _ _ => rfl) (m44 _ _ _ g.1 ?_)
    show xW (xX0 xs Ls) p45 23 [(0, vr 12 230), (1, vi x1), (2, vi x2)] [] (xhp (tm_copy s (x2 + 1) x2)) Φ
    replace g := g.2
    refine xW.seg (pc1 := 10) (L1 := [(2, vi (x2 + 1)), (0, vr 12 230), (1, vi x1)]) (st1 := []) (h1 := xhp (tm_copy s (x2 + 1) x2)) 2 (fun _ _ _ _ => rfl) ?_
    exact xW.locs (L := [(0, vr 12 230), (1, vi x1), (2, vi (x2 + 1))]) ⟨rfl, rfl, rfl, trivial⟩ rfl g
noncomputable def tm_keep_10 : Nat → xS → Int32 → Int32 → xS
  | 0, s, _, _ => s
  | n + 1, s, x1, x2 => (if 5 ≤ x2 then (tm_keep_39 (sI s 230 3 ((gI s 230 3) - 1)) x1) else (tm_keep_10 n (tm_copy s (x2 + 1) x2) x1 (x2 + 1)))
def tm_keep_10_ok : Nat → xS → Int32 → Int32 → Prop
  | 0, _, _, _ => False
  | n + 1, s, x1, x2 => ((5 ≤ x2 → (tm_keep_39_ok (sI s 230 3 ((gI s 230 3) - 1)) x1)) ∧ (¬ (5 ≤ x2) → ((tm_copy_ok s (x2 + 1) x2) ∧ (tm_keep_10_ok n (tm_copy s (x2 + 1) x2) x1 (x2 + 1)))))
set_option maxRecDepth 100000 in
theorem n45_10 {xs : Nat → Int32} {Ls : Nat} {Φ : Option xV → xH → Prop} : ∀ (n : Nat) (s : xS) (x1 : Int32) (x2 : Int32), tm_keep_10_ok n s x1 x2 → Φ none (xhp (tm_keep_10 n s x1 x2)) → xW (xX0 xs Ls) p45 10 [(0, vr 12 230), (1, vi x1), (2, vi x2)] [] (xhp s) Φ := by
  intro n
  induction n with
  | zero => intro s _ _ gq; exact gq.elim
  | succ n ih =>
    intro s x1 x2 gq h
    unfold tm_keep_10_ok at gq
    unfold tm_keep_10 at h
    exact b45_10 s x1 x2 (⟨fun hc => by rw [if_pos hc] at h; replace gq := gq.1 hc; exact n45_39 _ _ gq h, fun hc => by rw [if_neg hc] at h; replace gq := gq.2 hc; exact ⟨gq.1, by replace gq := gq.2; exact ih _ _ _ gq h⟩⟩)
set_option maxRecDepth 100000 in
theorem b45_0 {xs : Nat → Int32} {Ls : Nat} {Φ : Option xV → xH → Prop} (s : xS) (f : Int32) (g : ((¬ (gI s 230 3) = 5 → xW (xX0 xs Ls) p45 39 [(0, vr 12 230), (1, vi f)] [] (xhp s) Φ) ∧ ((gI s 230 3) = 5 → xW (xX0 xs Ls) p45 10 [(0, vr 12 230), (1, vi f), (2, vi 1)] [] (xhp s) Φ))) : xW (xX0 xs Ls) p45 0 [(0, vr 12 230), (1, vi f)] [] (xhp s) Φ := by
  refine xW.br (c := ¬ (gI s 230 3) = 5) (pc1 := 39) (L1 := [(0, vr 12 230), (1, vi f)]) (st1 := []) (h1 := xhp s) (pc2 := 8) (L2 := [(0, vr 12 230), (1, vi f)]) (st2 := []) (h2 := xhp s) 4 (fun _ _ _ _ => rfl) (fun hc => ?_) (fun hc => ?_)
  · replace g := g.1 hc
    exact g
  · replace g := g.2 (Decidable.not_not.mp hc)
    refine xW.seg (pc1 := 10) (L1 := [(2, vi 1), (0, vr 12 230), (1, vi f)]) (st1 := []) (h1 := xhp s) 2 (fun _ _ _ _ => rfl) ?_
    exact xW.locs (L := [(0, vr 12 230), (1, vi f), (2, vi 1)]) ⟨rfl, rfl, rfl, trivial⟩ rfl g
noncomputable def tm_keep_d (s : xS) (f : Int32) : xS := (if ¬ (gI s 230 3) = 5 then (tm_keep_39 s f) else (tm_keep_10 xfu s f 1))
noncomputable def tm_keep : xS → Int32 → xS := Classical.choose (⟨tm_keep_d, rfl⟩ : ∃ f, f = tm_keep_d)
set_option maxRecDepth 100000 in
theorem tm_keep_eq : tm_keep = tm_keep_d := Classical.choose_spec (⟨tm_keep_d, rfl⟩ : ∃ f, f = tm_keep_d)
def tm_keep_ok (s : xS) (f : Int32) : Prop := ((¬ (gI s 230 3) = 5 → (tm_keep_39_ok s f)) ∧ ((gI s 230 3) = 5 → (tm_keep_10_ok xfu s f 1)))
set_option maxRecDepth 100000 in
theorem m45 {xs : Nat → Int32} {Ls : Nat} {Ψ : xO → xH → Prop} (s : xS) (f : Int32) (gq : tm_keep_ok s f) (h : Ψ (.inl none) (xhp (tm_keep s f))) : xM (xX0 xs Ls) 45 [vr 12 230, vi f] (xhp s) Ψ := by
  rw [tm_keep_eq] at h
  unfold tm_keep_d at h
  unfold tm_keep_ok at gq
  exact xM.of (P := p45) rfl rfl rfl (b45_0 s f (⟨fun hc => by rw [if_pos hc] at h; replace gq := gq.1 hc; exact n45_39 _ _ gq h, fun hc => by rw [if_neg (fun z => z hc)] at h; replace gq := gq.2 hc; exact n45_10 _ _ _ _ gq h⟩))
