/-! tm_model -/
theorem b83_40 {xs : Nat → Int32} {Ls : Nat} {Φ : Option xV → xH → Prop} (s : xS) (x1 : Int32) (x2 : Int32) (g : ((14 < x2 → Φ none (xhp (sI (sI (sI (sI (sI (sI (sI s 231 56 0) 231 54 0) 231 55 0) 231 57 0) 230 3 0) 230 5 0) 230 4 x1))) ∧ (¬ (14 < x2) → ((tm_set_ok s x2 0 0 0) ∧ xW (xX0 xs Ls) p83 40 [(0, vr 12 230), (1, vi x1), (2, vi (x2 + 1))] [] (xhp (tm_set s x2 0 0 0)) Φ)))) : xW (xX0 xs Ls) p83 40 [(0, vr 12 230), (1, vi x1), (2, vi x2)] [] (xhp s) Φ := by
  refine xW.br (c := 14 < x2) (pc1 := 60) (L1 := [(0, vr 12 230), (1, vi x1), (2, vi x2)]) (st1 := []) (h1 := xhp s) (pc2 := 46) (L2 := [(0, vr 12 230), (1, vi x1), (2, vi x2)]) (st2 := []) (h2 := xhp s) 3 (fun _ _ _ _ => rfl) (fun hc => ?_) (fun hc => ?_)
  · replace g := g.1 hc
    refine xW.side (c := vp_in 56 640) (pc1 := 68) (L1 := [(0, vr 12 230), (1, vi x1), (2, vi x2)]) (st1 := []) (h1 := xhp (sI s 231 56 0)) 5 (fun _ _ _ _ => rfl) (vp_lit rfl) ?_
    refine xW.side (c := vp_in 54 640) (pc1 := 76) (L1 := [(0, vr 12 230), (1, vi x1), (2, vi x2)]) (st1 := []) (h1 := xhp (sI (sI s 231 56 0) 231 54 0)) 5 (fun _ _ _ _ => rfl) (vp_lit rfl) ?_
    refine xW.side (c := vp_in 55 640) (pc1 := 84) (L1 := [(0, vr 12 230), (1, vi x1), (2, vi x2)]) (st1 := []) (h1 := xhp (sI (sI (sI s 231 56 0) 231 54 0) 231 55 0)) 5 (fun _ _ _ _ => rfl) (vp_lit rfl) ?_
    refine xW.side (c := vp_in 57 640) (pc1 := 92) (L1 := [(0, vr 12 230), (1, vi x1), (2, vi x2)]) (st1 := []) (h1 := xhp (sI (sI (sI (sI s 231 56 0) 231 54 0) 231 55 0) 231 57 0)) 5 (fun _ _ _ _ => rfl) (vp_lit rfl) ?_
    exact xW.ret (v0 := none) (h1 := xhp (sI (sI (sI (sI (sI (sI (sI s 231 56 0) 231 54 0) 231 55 0) 231 57 0) 230 3 0) 230 5 0) 230 4 x1)) 10 (fun _ _ _ _ => rfl) g
  · replace g := g.2 hc
    refine xW.call (y := 32) (as := [vr 12 230, vi x2, vi 0, vl 0, vi 0]) (h0 := xhp s) (pc0 := 51) (len := 3) (L0 := [(0, vr 12 230), (1, vi x1), (2, vi x2)]) (rest := []) 6 (fun _ _ _ _ => rfl) (m32 _ _ _ _ _ g.1 ?_)
    show xW (xX0 xs Ls) p83 54 [(0, vr 12 230), (1, vi x1), (2, vi x2)] [] (xhp (tm_set s x2 0 0 0)) Φ
    replace g := g.2
    refine xW.seg (pc1 := 40) (L1 := [(2, vi (x2 + 1)), (0, vr 12 230), (1, vi x1)]) (st1 := []) (h1 := xhp (tm_set s x2 0 0 0)) 2 (fun _ _ _ _ => rfl) ?_
    exact xW.locs (L := [(0, vr 12 230), (1, vi x1), (2, vi (x2 + 1))]) ⟨rfl, rfl, rfl, trivial⟩ rfl g
noncomputable def tm_model_40 : Nat → xS → Int32 → Int32 → xS
  | 0, s, _, _ => s
  | n + 1, s, x1, x2 => (if 14 < x2 then (sI (sI (sI (sI (sI (sI (sI s 231 56 0) 231 54 0) 231 55 0) 231 57 0) 230 3 0) 230 5 0) 230 4 x1) else (tm_model_40 n (tm_set s x2 0 0 0) x1 (x2 + 1)))
def tm_model_40_ok : Nat → xS → Int32 → Int32 → Prop
  | 0, _, _, _ => False
  | n + 1, s, x1, x2 => (¬ (14 < x2) → ((tm_set_ok s x2 0 0 0) ∧ (tm_model_40_ok n (tm_set s x2 0 0 0) x1 (x2 + 1))))
set_option maxRecDepth 100000 in
theorem n83_40 {xs : Nat → Int32} {Ls : Nat} {Φ : Option xV → xH → Prop} : ∀ (n : Nat) (s : xS) (x1 : Int32) (x2 : Int32), tm_model_40_ok n s x1 x2 → Φ none (xhp (tm_model_40 n s x1 x2)) → xW (xX0 xs Ls) p83 40 [(0, vr 12 230), (1, vi x1), (2, vi x2)] [] (xhp s) Φ := by
  intro n
  induction n with
  | zero => intro s _ _ gq; exact gq.elim
  | succ n ih =>
    intro s x1 x2 gq h
    unfold tm_model_40_ok at gq
    unfold tm_model_40 at h
    exact b83_40 s x1 x2 (⟨fun hc => by rw [if_pos hc] at h; exact h, fun hc => by rw [if_neg hc] at h; replace gq := gq hc; exact ⟨gq.1, by replace gq := gq.2; exact ih _ _ _ gq h⟩⟩)
set_option maxRecDepth 100000 in
theorem b83_0 {xs : Nat → Int32} {Ls : Nat} {Φ : Option xV → xH → Prop} (s : xS) (m : Int32) (g : (((if (gI s 230 9) ≤ 0 then (if m < 0 then (2 : Int32) else (if m ≤ 1 then (0 : Int32) else 2)) else 1) ≤ 0 → xW (xX0 xs Ls) p83 40 [(0, vr 12 230), (1, vi m), (2, vi 10)] [] (xhp (sI s 230 0 (if (gI s 230 9) ≤ 0 then (if m < 0 then (2 : Int32) else (if m ≤ 1 then (0 : Int32) else 2)) else 1))) Φ) ∧ (¬ ((if (gI s 230 9) ≤ 0 then (if m < 0 then (2 : Int32) else (if m ≤ 1 then (0 : Int32) else 2)) else 1) ≤ 0) → Φ none (xhp (sI s 230 0 (if (gI s 230 9) ≤ 0 then (if m < 0 then (2 : Int32) else (if m ≤ 1 then (0 : Int32) else 2)) else 1)))))) : xW (xX0 xs Ls) p83 0 [(0, vr 12 230), (1, vi m)] [] (xhp s) Φ := by
  refine xW.seg (pc1 := 5) (L1 := [(0, vr 12 230), (1, vi m)]) (st1 := [vi (gI s 230 9), vr 12 230]) (h1 := xhp s) 3 (fun _ _ _ _ => rfl) ?_
  suffices J : xW (xX0 xs Ls) p83 26 [(0, vr 12 230), (1, vi m)] [vi (if (gI s 230 9) ≤ 0 then (if m < 0 then (2 : Int32) else (if m ≤ 1 then (0 : Int32) else 2)) else 1), vr 12 230] (xhp s) Φ by
    refine xW.br (c := (gI s 230 9) ≤ 0) (pc1 := 12) (L1 := [(0, vr 12 230), (1, vi m)]) (st1 := [vr 12 230]) (h1 := xhp s) (pc2 := 8) (L2 := [(0, vr 12 230), (1, vi m)]) (st2 := [vr 12 230]) (h2 := xhp s) 1 (fun _ _ _ _ => rfl) (fun hc => ?_) (fun hc => ?_)
    · have hc1 : (gI s 230 9) ≤ 0 := hc
      refine xW.br (c := m < 0) (pc1 := 21) (L1 := [(0, vr 12 230), (1, vi m)]) (st1 := [vr 12 230]) (h1 := xhp s) (pc2 := 16) (L2 := [(0, vr 12 230), (1, vi m)]) (st2 := [vr 12 230]) (h2 := xhp s) 2 (fun _ _ _ _ => rfl) (fun hc => ?_) (fun hc => ?_)
      · have hc2 : m < 0 := hc
        refine xW.seg (pc1 := 26) (L1 := [(0, vr 12 230), (1, vi m)]) (st1 := [vi 2, vr 12 230]) (h1 := xhp s) 2 (fun _ _ _ _ => rfl) ?_
        refine xW.to (v := vi (if (gI s 230 9) ≤ 0 then (if m < 0 then (2 : Int32) else (if m ≤ 1 then (0 : Int32) else 2)) else 1)) ((congrArg vi ((if_pos hc1).trans (if_pos hc2))).symm) ?_
        exact J
      · have hc2 : ¬ (m < 0) := hc
        refine xW.br (c := m ≤ 1) (pc1 := 25) (L1 := [(0, vr 12 230), (1, vi m)]) (st1 := [vr 12 230]) (h1 := xhp s) (pc2 := 21) (L2 := [(0, vr 12 230), (1, vi m)]) (st2 := [vr 12 230]) (h2 := xhp s) 3 (fun _ _ _ _ => rfl) (fun hc => ?_) (fun hc => ?_)
        · have hc3 : m ≤ 1 := hc
          refine xW.seg (pc1 := 26) (L1 := [(0, vr 12 230), (1, vi m)]) (st1 := [vi 0, vr 12 230]) (h1 := xhp s) 1 (fun _ _ _ _ => rfl) ?_
          refine xW.to (v := vi (if (gI s 230 9) ≤ 0 then (if m < 0 then (2 : Int32) else (if m ≤ 1 then (0 : Int32) else 2)) else 1)) ((congrArg vi ((if_pos hc1).trans ((if_neg hc2).trans (if_pos hc3)))).symm) ?_
          exact J
        · have hc3 : ¬ (m ≤ 1) := hc
          refine xW.seg (pc1 := 26) (L1 := [(0, vr 12 230), (1, vi m)]) (st1 := [vi 2, vr 12 230]) (h1 := xhp s) 2 (fun _ _ _ _ => rfl) ?_
          refine xW.to (v := vi (if (gI s 230 9) ≤ 0 then (if m < 0 then (2 : Int32) else (if m ≤ 1 then (0 : Int32) else 2)) else 1)) ((congrArg vi ((if_pos hc1).trans ((if_neg hc2).trans (if_neg hc3)))).symm) ?_
          exact J
    · have hc1 : ¬ ((gI s 230 9) ≤ 0) := hc
      refine xW.seg (pc1 := 26) (L1 := [(0, vr 12 230), (1, vi m)]) (st1 := [vi 1, vr 12 230]) (h1 := xhp s) 2 (fun _ _ _ _ => rfl) ?_
      refine xW.to (v := vi (if (gI s 230 9) ≤ 0 then (if m < 0 then (2 : Int32) else (if m ≤ 1 then (0 : Int32) else 2)) else 1)) ((congrArg vi (if_neg hc1)).symm) ?_
      exact J
  refine xW.br (c := (if (gI s 230 9) ≤ 0 then (if m < 0 then (2 : Int32) else (if m ≤ 1 then (0 : Int32) else 2)) else 1) ≤ 0) (pc1 := 37) (L1 := [(0, vr 12 230), (1, vi m)]) (st1 := []) (h1 := xhp (sI s 230 0 (if (gI s 230 9) ≤ 0 then (if m < 0 then (2 : Int32) else (if m ≤ 1 then (0 : Int32) else 2)) else 1))) (pc2 := 36) (L2 := [(0, vr 12 230), (1, vi m)]) (st2 := []) (h2 := xhp (sI s 230 0 (if (gI s 230 9) ≤ 0 then (if m < 0 then (2 : Int32) else (if m ≤ 1 then (0 : Int32) else 2)) else 1))) 4 (fun _ _ _ _ => rfl) (fun hc => ?_) (fun hc => ?_)
  · replace g := g.1 hc
    refine xW.seg (pc1 := 40) (L1 := [(2, vi 10), (0, vr 12 230), (1, vi m)]) (st1 := []) (h1 := xhp (sI s 230 0 (if (gI s 230 9) ≤ 0 then (if m < 0 then (2 : Int32) else (if m ≤ 1 then (0 : Int32) else 2)) else 1))) 2 (fun _ _ _ _ => rfl) ?_
    exact xW.locs (L := [(0, vr 12 230), (1, vi m), (2, vi 10)]) ⟨rfl, rfl, rfl, trivial⟩ rfl g
  · replace g := g.2 hc
    exact xW.ret (v0 := none) (h1 := xhp (sI s 230 0 (if (gI s 230 9) ≤ 0 then (if m < 0 then (2 : Int32) else (if m ≤ 1 then (0 : Int32) else 2)) else 1))) 1 (fun _ _ _ _ => rfl) g
noncomputable def tm_model_d (s : xS) (m : Int32) : xS := (if (if (gI s 230 9) ≤ 0 then (if m < 0 then (2 : Int32) else (if m ≤ 1 then (0 : Int32) else 2)) else 1) ≤ 0 then (tm_model_40 xfu (sI s 230 0 (if (gI s 230 9) ≤ 0 then (if m < 0 then (2 : Int32) else (if m ≤ 1 then (0 : Int32) else 2)) else 1)) m 10) else (sI s 230 0 (if (gI s 230 9) ≤ 0 then (if m < 0 then (2 : Int32) else (if m ≤ 1 then (0 : Int32) else 2)) else 1)))
noncomputable def tm_model : xS → Int32 → xS := Classical.choose (⟨tm_model_d, rfl⟩ : ∃ f, f = tm_model_d)
set_option maxRecDepth 100000 in
theorem tm_model_eq : tm_model = tm_model_d := Classical.choose_spec (⟨tm_model_d, rfl⟩ : ∃ f, f = tm_model_d)
def tm_model_ok (s : xS) (m : Int32) : Prop := ((if (gI s 230 9) ≤ 0 then (if m < 0 then (2 : Int32) else (if m ≤ 1 then (0 : Int32) else 2)) else 1) ≤ 0 → (tm_model_40_ok xfu (sI s 230 0 (if (gI s 230 9) ≤ 0 then (if m < 0 then (2 : Int32) else (if m ≤ 1 then (0 : Int32) else 2)) else 1)) m 10))
set_option maxRecDepth 100000 in
theorem m83 {xs : Nat → Int32} {Ls : Nat} {Ψ : xO → xH → Prop} (s : xS) (m : Int32) (gq : tm_model_ok s m) (h : Ψ (.inl none) (xhp (tm_model s m))) : xM (xX0 xs Ls) 83 [vr 12 230, vi m] (xhp s) Ψ := by
  rw [tm_model_eq] at h
  unfold tm_model_d at h
  unfold tm_model_ok at gq
  exact xM.of (P := p83) rfl rfl rfl (b83_0 s m (⟨fun hc => by rw [if_pos hc] at h; replace gq := gq hc; exact n83_40 _ _ _ _ gq h, fun hc => by rw [if_neg hc] at h; exact h⟩))
/-! tm_press -/
theorem b84_18 {xs : Nat → Int32} {Ls : Nat} {Φ : Option xV → xH → Prop} (s : xS) (x1 : Int64) (x3 : Int32) (g : ((64 ≤ x3 → Φ (some (vi 0)) (xhp s)) ∧ (¬ (64 ≤ x3) → ((¬ (gI s 230 9) = 0 → Φ (some (vi 0)) (xhp s)) ∧ ((gI s 230 9) = 0 → (((((x1 >>> (x3.toInt64 &&& 63)) &&& 255).toInt32) ≤ 0 → xW (xX0 xs Ls) p84 18 [(0, vr 12 230), (1, vl x1), (3, vi (x3 + 8))] [] (xhp s) Φ) ∧ (¬ ((((x1 >>> (x3.toInt64 &&& 63)) &&& 255).toInt32) ≤ 0) → ((tm_copy_ok s 0 6) ∧ ((tm_pressed_ok (tm_copy s 0 6) (((x1 >>> (x3.toInt64 &&& 63)) &&& 255).toInt32)) ∧ (((tm_pressed (tm_copy s 0 6) (((x1 >>> (x3.toInt64 &&& 63)) &&& 255).toInt32)).1 ≤ 0 → ((tm_keep_ok ((tm_pressed (tm_copy s 0 6) (((x1 >>> (x3.toInt64 &&& 63)) &&& 255).toInt32)).2) 6) ∧ xW (xX0 xs Ls) p84 18 [(0, vr 12 230), (1, vl x1), (3, vi (x3 + 8))] [] (xhp (sI (tm_keep ((tm_pressed (tm_copy s 0 6) (((x1 >>> (x3.toInt64 &&& 63)) &&& 255).toInt32)).2) 6) 230 5 0)) Φ)) ∧ (¬ ((tm_pressed (tm_copy s 0 6) (((x1 >>> (x3.toInt64 &&& 63)) &&& 255).toInt32)).1 ≤ 0) → ((tm_copy_ok ((tm_pressed (tm_copy s 0 6) (((x1 >>> (x3.toInt64 &&& 63)) &&& 255).toInt32)).2) 6 0) ∧ Φ (some (vi ((tm_pressed (tm_copy s 0 6) (((x1 >>> (x3.toInt64 &&& 63)) &&& 255).toInt32)).1))) (xhp (sI (tm_copy ((tm_pressed (tm_copy s 0 6) (((x1 >>> (x3.toInt64 &&& 63)) &&& 255).toInt32)).2) 6 0) 230 5 ((tm_pressed (tm_copy s 0 6) (((x1 >>> (x3.toInt64 &&& 63)) &&& 255).toInt32)).1))))))))))))))) : xW (xX0 xs Ls) p84 18 [(0, vr 12 230), (1, vl x1), (3, vi x3)] [] (xhp s) Φ := by
  refine xW.br (c := 64 ≤ x3) (pc1 := 99) (L1 := [(0, vr 12 230), (1, vl x1), (3, vi x3)]) (st1 := []) (h1 := xhp s) (pc2 := 24) (L2 := [(0, vr 12 230), (1, vl x1), (3, vi x3)]) (st2 := []) (h2 := xhp s) 3 (fun _ _ _ _ => rfl) (fun hc => ?_) (fun hc => ?_)
  · replace g := g.1 hc
    exact xW.ret (v0 := some (vi 0)) (h1 := xhp s) 2 (fun _ _ _ _ => rfl) g
  · replace g := g.2 hc
    refine xW.br (c := ¬ (gI s 230 9) = 0) (pc1 := 99) (L1 := [(0, vr 12 230), (1, vl x1), (3, vi x3)]) (st1 := []) (h1 := xhp s) (pc2 := 31) (L2 := [(0, vr 12 230), (1, vl x1), (3, vi x3)]) (st2 := []) (h2 := xhp s) 3 (fun _ _ _ _ => rfl) (fun hc => ?_) (fun hc => ?_)
    · replace g := g.1 hc
      exact xW.ret (v0 := some (vi 0)) (h1 := xhp s) 2 (fun _ _ _ _ => rfl) g
    · replace g := g.2 (Decidable.not_not.mp hc)
      refine xW.br (c := (((x1 >>> (x3.toInt64 &&& 63)) &&& 255).toInt32) ≤ 0) (pc1 := 93) (L1 := [(4, vi (((x1 >>> (x3.toInt64 &&& 63)) &&& 255).toInt32)), (0, vr 12 230), (1, vl x1), (3, vi x3)]) (st1 := []) (h1 := xhp s) (pc2 := 46) (L2 := [(4, vi (((x1 >>> (x3.toInt64 &&& 63)) &&& 255).toInt32)), (0, vr 12 230), (1, vl x1), (3, vi x3)]) (st2 := []) (h2 := xhp s) 9 (fun _ _ _ _ => rfl) (fun hc => ?_) (fun hc => ?_)
      · replace g := g.1 hc
        refine xW.seg (pc1 := 18) (L1 := [(3, vi (x3 + 8)), (4, vi (((x1 >>> (x3.toInt64 &&& 63)) &&& 255).toInt32)), (0, vr 12 230), (1, vl x1)]) (st1 := []) (h1 := xhp s) 2 (fun _ _ _ _ => rfl) ?_
        exact xW.locs (L := [(0, vr 12 230), (1, vl x1), (3, vi (x3 + 8))]) ⟨rfl, rfl, rfl, trivial⟩ rfl g
      · replace g := g.2 hc
        refine xW.call (y := 44) (as := [vr 12 230, vi 0, vi 6]) (h0 := xhp s) (pc0 := 50) (len := 3) (L0 := [(4, vi (((x1 >>> (x3.toInt64 &&& 63)) &&& 255).toInt32)), (0, vr 12 230), (1, vl x1), (3, vi x3)]) (rest := []) 4 (fun _ _ _ _ => rfl) (m44 _ _ _ g.1 ?_)
        show xW (xX0 xs Ls) p84 53 [(4, vi (((x1 >>> (x3.toInt64 &&& 63)) &&& 255).toInt32)), (0, vr 12 230), (1, vl x1), (3, vi x3)] [] (xhp (tm_copy s 0 6)) Φ
        replace g := g.2
        refine xW.call (y := 70) (as := [vr 12 230, vi (((x1 >>> (x3.toInt64 &&& 63)) &&& 255).toInt32)]) (h0 := xhp (tm_copy s 0 6)) (pc0 := 56) (len := 3) (L0 := [(4, vi (((x1 >>> (x3.toInt64 &&& 63)) &&& 255).toInt32)), (0, vr 12 230), (1, vl x1), (3, vi x3)]) (rest := []) 3 (fun _ _ _ _ => rfl) (m70 _ _ g.1 ?_)
        show xW (xX0 xs Ls) p84 59 [(4, vi (((x1 >>> (x3.toInt64 &&& 63)) &&& 255).toInt32)), (0, vr 12 230), (1, vl x1), (3, vi x3)] [vi ((tm_pressed (tm_copy s 0 6) (((x1 >>> (x3.toInt64 &&& 63)) &&& 255).toInt32)).1)] (xhp ((tm_pressed (tm_copy s 0 6) (((x1 >>> (x3.toInt64 &&& 63)) &&& 255).toInt32)).2)) Φ
        replace g := g.2
        refine xW.br (c := (tm_pressed (tm_copy s 0 6) (((x1 >>> (x3.toInt64 &&& 63)) &&& 255).toInt32)).1 ≤ 0) (pc1 := 82) (L1 := [(5, vi ((tm_pressed (tm_copy s 0 6) (((x1 >>> (x3.toInt64 &&& 63)) &&& 255).toInt32)).1)), (4, vi (((x1 >>> (x3.toInt64 &&& 63)) &&& 255).toInt32)), (0, vr 12 230), (1, vl x1), (3, vi x3)]) (st1 := []) (h1 := xhp ((tm_pressed (tm_copy s 0 6) (((x1 >>> (x3.toInt64 &&& 63)) &&& 255).toInt32)).2)) (pc2 := 66) (L2 := [(5, vi ((tm_pressed (tm_copy s 0 6) (((x1 >>> (x3.toInt64 &&& 63)) &&& 255).toInt32)).1)), (4, vi (((x1 >>> (x3.toInt64 &&& 63)) &&& 255).toInt32)), (0, vr 12 230), (1, vl x1), (3, vi x3)]) (st2 := []) (h2 := xhp ((tm_pressed (tm_copy s 0 6) (((x1 >>> (x3.toInt64 &&& 63)) &&& 255).toInt32)).2)) 3 (fun _ _ _ _ => rfl) (fun hc => ?_) (fun hc => ?_)
        · replace g := g.1 hc
          refine xW.call (y := 45) (as := [vr 12 230, vi 6]) (h0 := xhp ((tm_pressed (tm_copy s 0 6) (((x1 >>> (x3.toInt64 &&& 63)) &&& 255).toInt32)).2)) (pc0 := 85) (len := 3) (L0 := [(5, vi ((tm_pressed (tm_copy s 0 6) (((x1 >>> (x3.toInt64 &&& 63)) &&& 255).toInt32)).1)), (4, vi (((x1 >>> (x3.toInt64 &&& 63)) &&& 255).toInt32)), (0, vr 12 230), (1, vl x1), (3, vi x3)]) (rest := []) 3 (fun _ _ _ _ => rfl) (m45 _ _ g.1 ?_)
          show xW (xX0 xs Ls) p84 88 [(5, vi ((tm_pressed (tm_copy s 0 6) (((x1 >>> (x3.toInt64 &&& 63)) &&& 255).toInt32)).1)), (4, vi (((x1 >>> (x3.toInt64 &&& 63)) &&& 255).toInt32)), (0, vr 12 230), (1, vl x1), (3, vi x3)] [] (xhp (tm_keep ((tm_pressed (tm_copy s 0 6) (((x1 >>> (x3.toInt64 &&& 63)) &&& 255).toInt32)).2) 6)) Φ
          replace g := g.2
          refine xW.seg (pc1 := 18) (L1 := [(3, vi (x3 + 8)), (5, vi ((tm_pressed (tm_copy s 0 6) (((x1 >>> (x3.toInt64 &&& 63)) &&& 255).toInt32)).1)), (4, vi (((x1 >>> (x3.toInt64 &&& 63)) &&& 255).toInt32)), (0, vr 12 230), (1, vl x1)]) (st1 := []) (h1 := xhp (sI (tm_keep ((tm_pressed (tm_copy s 0 6) (((x1 >>> (x3.toInt64 &&& 63)) &&& 255).toInt32)).2) 6) 230 5 0)) 5 (fun _ _ _ _ => rfl) ?_
          exact xW.locs (L := [(0, vr 12 230), (1, vl x1), (3, vi (x3 + 8))]) ⟨rfl, rfl, rfl, trivial⟩ rfl g
        · replace g := g.2 hc
          refine xW.call (y := 44) (as := [vr 12 230, vi 6, vi 0]) (h0 := xhp ((tm_pressed (tm_copy s 0 6) (((x1 >>> (x3.toInt64 &&& 63)) &&& 255).toInt32)).2)) (pc0 := 70) (len := 3) (L0 := [(5, vi ((tm_pressed (tm_copy s 0 6) (((x1 >>> (x3.toInt64 &&& 63)) &&& 255).toInt32)).1)), (4, vi (((x1 >>> (x3.toInt64 &&& 63)) &&& 255).toInt32)), (0, vr 12 230), (1, vl x1), (3, vi x3)]) (rest := []) 4 (fun _ _ _ _ => rfl) (m44 _ _ _ g.1 ?_)
          show xW (xX0 xs Ls) p84 73 [(5, vi ((tm_pressed (tm_copy s 0 6) (((x1 >>> (x3.toInt64 &&& 63)) &&& 255).toInt32)).1)), (4, vi (((x1 >>> (x3.toInt64 &&& 63)) &&& 255).toInt32)), (0, vr 12 230), (1, vl x1), (3, vi x3)] [] (xhp (tm_copy ((tm_pressed (tm_copy s 0 6) (((x1 >>> (x3.toInt64 &&& 63)) &&& 255).toInt32)).2) 6 0)) Φ
          replace g := g.2
          exact xW.ret (v0 := some (vi ((tm_pressed (tm_copy s 0 6) (((x1 >>> (x3.toInt64 &&& 63)) &&& 255).toInt32)).1))) (h1 := xhp (sI (tm_copy ((tm_pressed (tm_copy s 0 6) (((x1 >>> (x3.toInt64 &&& 63)) &&& 255).toInt32)).2) 6 0) 230 5 ((tm_pressed (tm_copy s 0 6) (((x1 >>> (x3.toInt64 &&& 63)) &&& 255).toInt32)).1))) 5 (fun _ _ _ _ => rfl) g
noncomputable def tm_press_18 : Nat → xS → Int64 → Int32 → Int32 × xS
  | 0, s, _, _ => (0, s)
  | n + 1, s, x1, x3 => (if 64 ≤ x3 then (0, s) else (if ¬ (gI s 230 9) = 0 then (0, s) else (if (((x1 >>> (x3.toInt64 &&& 63)) &&& 255).toInt32) ≤ 0 then (tm_press_18 n s x1 (x3 + 8)) else (if (tm_pressed (tm_copy s 0 6) (((x1 >>> (x3.toInt64 &&& 63)) &&& 255).toInt32)).1 ≤ 0 then (tm_press_18 n (sI (tm_keep ((tm_pressed (tm_copy s 0 6) (((x1 >>> (x3.toInt64 &&& 63)) &&& 255).toInt32)).2) 6) 230 5 0) x1 (x3 + 8)) else ((tm_pressed (tm_copy s 0 6) (((x1 >>> (x3.toInt64 &&& 63)) &&& 255).toInt32)).1, (sI (tm_copy ((tm_pressed (tm_copy s 0 6) (((x1 >>> (x3.toInt64 &&& 63)) &&& 255).toInt32)).2) 6 0) 230 5 ((tm_pressed (tm_copy s 0 6) (((x1 >>> (x3.toInt64 &&& 63)) &&& 255).toInt32)).1)))))))
def tm_press_18_ok : Nat → xS → Int64 → Int32 → Prop
  | 0, _, _, _ => False
  | n + 1, s, x1, x3 => (¬ (64 ≤ x3) → ((gI s 230 9) = 0 → (((((x1 >>> (x3.toInt64 &&& 63)) &&& 255).toInt32) ≤ 0 → (tm_press_18_ok n s x1 (x3 + 8))) ∧ (¬ ((((x1 >>> (x3.toInt64 &&& 63)) &&& 255).toInt32) ≤ 0) → ((tm_copy_ok s 0 6) ∧ ((tm_pressed_ok (tm_copy s 0 6) (((x1 >>> (x3.toInt64 &&& 63)) &&& 255).toInt32)) ∧ (((tm_pressed (tm_copy s 0 6) (((x1 >>> (x3.toInt64 &&& 63)) &&& 255).toInt32)).1 ≤ 0 → ((tm_keep_ok ((tm_pressed (tm_copy s 0 6) (((x1 >>> (x3.toInt64 &&& 63)) &&& 255).toInt32)).2) 6) ∧ (tm_press_18_ok n (sI (tm_keep ((tm_pressed (tm_copy s 0 6) (((x1 >>> (x3.toInt64 &&& 63)) &&& 255).toInt32)).2) 6) 230 5 0) x1 (x3 + 8)))) ∧ (¬ ((tm_pressed (tm_copy s 0 6) (((x1 >>> (x3.toInt64 &&& 63)) &&& 255).toInt32)).1 ≤ 0) → (tm_copy_ok ((tm_pressed (tm_copy s 0 6) (((x1 >>> (x3.toInt64 &&& 63)) &&& 255).toInt32)).2) 6 0)))))))))
set_option maxRecDepth 100000 in
theorem n84_18 {xs : Nat → Int32} {Ls : Nat} {Φ : Option xV → xH → Prop} : ∀ (n : Nat) (s : xS) (x1 : Int64) (x3 : Int32), tm_press_18_ok n s x1 x3 → Φ (some (vi (tm_press_18 n s x1 x3).1)) (xhp (tm_press_18 n s x1 x3).2) → xW (xX0 xs Ls) p84 18 [(0, vr 12 230), (1, vl x1), (3, vi x3)] [] (xhp s) Φ := by
  intro n
  induction n with
  | zero => intro s _ _ gq; exact gq.elim
  | succ n ih =>
    intro s x1 x3 gq h
    unfold tm_press_18_ok at gq
    unfold tm_press_18 at h
    exact b84_18 s x1 x3 (⟨fun hc => by rw [if_pos hc] at h; exact (by (try dsimp only at h); exact h), fun hc => by rw [if_neg hc] at h; replace gq := gq hc; exact ⟨fun hc => by rw [if_pos hc] at h; exact (by (try dsimp only at h); exact h), fun hc => by rw [if_neg (fun z => z hc)] at h; replace gq := gq hc; exact ⟨fun hc => by rw [if_pos hc] at h; replace gq := gq.1 hc; exact ih _ _ _ gq h, fun hc => by rw [if_neg hc] at h; replace gq := gq.2 hc; exact ⟨gq.1, by replace gq := gq.2; exact ⟨gq.1, by replace gq := gq.2; exact ⟨fun hc => by rw [if_pos hc] at h; replace gq := gq.1 hc; exact ⟨gq.1, by replace gq := gq.2; exact ih _ _ _ gq h⟩, fun hc => by rw [if_neg hc] at h; replace gq := gq.2 hc; exact ⟨gq, (by (try dsimp only at h); exact h)⟩⟩⟩⟩⟩⟩⟩)
set_option maxRecDepth 100000 in
theorem b84_0 {xs : Nat → Int32} {Ls : Nat} {Φ : Option xV → xH → Prop} (s : xS) (b : Int64) (g : xW (xX0 xs Ls) p84 18 [(0, vr 12 230), (1, vl b), (3, vi 0)] [] (xhp (sI s 230 0 (zb (!decide ((gI s 230 9) ≤ 0))))) Φ) : xW (xX0 xs Ls) p84 0 [(0, vr 12 230), (1, vl b)] [] (xhp s) Φ := by
  refine xW.seg (pc1 := 5) (L1 := [(0, vr 12 230), (1, vl b)]) (st1 := [vi (gI s 230 9), vr 12 230]) (h1 := xhp s) 3 (fun _ _ _ _ => rfl) ?_
  suffices J : xW (xX0 xs Ls) p84 13 [(0, vr 12 230), (1, vl b)] [vi (zb (!decide ((gI s 230 9) ≤ 0))), vr 12 230] (xhp s) Φ by
    refine xW.br (c := (gI s 230 9) ≤ 0) (pc1 := 12) (L1 := [(0, vr 12 230), (1, vl b)]) (st1 := [vr 12 230]) (h1 := xhp s) (pc2 := 8) (L2 := [(0, vr 12 230), (1, vl b)]) (st2 := [vr 12 230]) (h2 := xhp s) 1 (fun _ _ _ _ => rfl) (fun hc => ?_) (fun hc => ?_)
    · have hc1 : (gI s 230 9) ≤ 0 := hc
      refine xW.seg (pc1 := 13) (L1 := [(0, vr 12 230), (1, vl b)]) (st1 := [vi 0, vr 12 230]) (h1 := xhp s) 1 (fun _ _ _ _ => rfl) ?_
      refine xW.to (v := vi (zb (!decide ((gI s 230 9) ≤ 0)))) (zb_f (by simp only [decide_eq_true hc1, Bool.true_or, Bool.or_true, Bool.false_or, Bool.or_false, Bool.true_and, Bool.and_true, Bool.false_and, Bool.and_false, Bool.not_true, Bool.not_false, cond_true, cond_false])) ?_
      exact J
    · have hc1 : ¬ ((gI s 230 9) ≤ 0) := hc
      refine xW.seg (pc1 := 13) (L1 := [(0, vr 12 230), (1, vl b)]) (st1 := [vi 1, vr 12 230]) (h1 := xhp s) 2 (fun _ _ _ _ => rfl) ?_
      refine xW.to (v := vi (zb (!decide ((gI s 230 9) ≤ 0)))) (zb_t (by simp only [decide_eq_false hc1, Bool.true_or, Bool.or_true, Bool.false_or, Bool.or_false, Bool.true_and, Bool.and_true, Bool.false_and, Bool.and_false, Bool.not_true, Bool.not_false, cond_true, cond_false])) ?_
      exact J
  refine xW.seg (pc1 := 18) (L1 := [(3, vi 0), (0, vr 12 230), (1, vl b)]) (st1 := []) (h1 := xhp (sI s 230 0 (zb (!decide ((gI s 230 9) ≤ 0))))) 3 (fun _ _ _ _ => rfl) ?_
  exact xW.locs (L := [(0, vr 12 230), (1, vl b), (3, vi 0)]) ⟨rfl, rfl, rfl, trivial⟩ rfl g
noncomputable def tm_press_d (s : xS) (b : Int64) : Int32 × xS := (tm_press_18 xfu (sI s 230 0 (zb (!decide ((gI s 230 9) ≤ 0)))) b 0)
noncomputable def tm_press : xS → Int64 → Int32 × xS := Classical.choose (⟨tm_press_d, rfl⟩ : ∃ f, f = tm_press_d)
set_option maxRecDepth 100000 in
theorem tm_press_eq : tm_press = tm_press_d := Classical.choose_spec (⟨tm_press_d, rfl⟩ : ∃ f, f = tm_press_d)
def tm_press_ok (s : xS) (b : Int64) : Prop := (tm_press_18_ok xfu (sI s 230 0 (zb (!decide ((gI s 230 9) ≤ 0)))) b 0)
set_option maxRecDepth 100000 in
theorem m84 {xs : Nat → Int32} {Ls : Nat} {Ψ : xO → xH → Prop} (s : xS) (b : Int64) (gq : tm_press_ok s b) (h : Ψ (.inl (some (vi (tm_press s b).1))) (xhp (tm_press s b).2)) : xM (xX0 xs Ls) 84 [vr 12 230, vl b] (xhp s) Ψ := by
  rw [tm_press_eq] at h
  unfold tm_press_d at h
  unfold tm_press_ok at gq
  exact xM.of (P := p84) rfl rfl rfl (b84_0 s b (n84_18 _ _ _ _ gq h))
/-! tm_run -/
theorem b85_51 {xs : Nat → Int32} {Ls : Nat} {Φ : Option xV → xH → Prop} (s : xS) (g : Φ (some (vi (zb ((!decide (0 < (gI s 230 0))) && (!decide ((gI s 230 9) = 0)))))) (xhp s)) : xW (xX0 xs Ls) p85 51 [(0, vr 12 230)] [] (xhp s) Φ := by
  refine xW.seg (pc1 := 55) (L1 := [(0, vr 12 230)]) (st1 := [vi (gI s 230 0)]) (h1 := xhp s) 2 (fun _ _ _ _ => rfl) ?_
  suffices J : xW (xX0 xs Ls) p85 70 [(0, vr 12 230)] [vi (zb ((!decide (0 < (gI s 230 0))) && (!decide ((gI s 230 9) = 0))))] (xhp s) Φ by
    refine xW.br (c := 0 < (gI s 230 0)) (pc1 := 65) (L1 := [(0, vr 12 230)]) (st1 := []) (h1 := xhp s) (pc2 := 58) (L2 := [(0, vr 12 230)]) (st2 := []) (h2 := xhp s) 1 (fun _ _ _ _ => rfl) (fun hc => ?_) (fun hc => ?_)
    · have hc1 : 0 < (gI s 230 0) := hc
      refine xW.seg (pc1 := 70) (L1 := [(0, vr 12 230)]) (st1 := [vi 0]) (h1 := xhp s) 2 (fun _ _ _ _ => rfl) ?_
      refine xW.to (v := vi (zb ((!decide (0 < (gI s 230 0))) && (!decide ((gI s 230 9) = 0))))) (zb_f (by simp only [decide_eq_true hc1, Bool.true_or, Bool.or_true, Bool.false_or, Bool.or_false, Bool.true_and, Bool.and_true, Bool.false_and, Bool.and_false, Bool.not_true, Bool.not_false, cond_true, cond_false])) ?_
      exact J
    · have hc1 : ¬ (0 < (gI s 230 0)) := hc
      refine xW.br (c := ¬ (gI s 230 9) = 0) (pc1 := 69) (L1 := [(0, vr 12 230)]) (st1 := []) (h1 := xhp s) (pc2 := 65) (L2 := [(0, vr 12 230)]) (st2 := []) (h2 := xhp s) 3 (fun _ _ _ _ => rfl) (fun hc => ?_) (fun hc => ?_)
      · have hc2 : ¬ (gI s 230 9) = 0 := hc
        refine xW.seg (pc1 := 70) (L1 := [(0, vr 12 230)]) (st1 := [vi 1]) (h1 := xhp s) 1 (fun _ _ _ _ => rfl) ?_
        refine xW.to (v := vi (zb ((!decide (0 < (gI s 230 0))) && (!decide ((gI s 230 9) = 0))))) (zb_t (by simp only [decide_eq_false hc1, decide_eq_false hc2, Bool.true_or, Bool.or_true, Bool.false_or, Bool.or_false, Bool.true_and, Bool.and_true, Bool.false_and, Bool.and_false, Bool.not_true, Bool.not_false, cond_true, cond_false])) ?_
        exact J
      · have hc2 : (gI s 230 9) = 0 := (Decidable.not_not.mp hc)
        refine xW.seg (pc1 := 70) (L1 := [(0, vr 12 230)]) (st1 := [vi 0]) (h1 := xhp s) 2 (fun _ _ _ _ => rfl) ?_
        refine xW.to (v := vi (zb ((!decide (0 < (gI s 230 0))) && (!decide ((gI s 230 9) = 0))))) (zb_f (by simp only [decide_eq_false hc1, decide_eq_true hc2, Bool.true_or, Bool.or_true, Bool.false_or, Bool.or_false, Bool.true_and, Bool.and_true, Bool.false_and, Bool.and_false, Bool.not_true, Bool.not_false, cond_true, cond_false])) ?_
        exact J
  exact xW.ret (v0 := some (vi (zb ((!decide (0 < (gI s 230 0))) && (!decide ((gI s 230 9) = 0)))))) (h1 := xhp s) 1 (fun _ _ _ _ => rfl) g
noncomputable def tm_run_51_d (s : xS) : Int32 × xS := ((zb ((!decide (0 < (gI s 230 0))) && (!decide ((gI s 230 9) = 0)))), s)
noncomputable def tm_run_51 : xS → Int32 × xS := Classical.choose (⟨tm_run_51_d, rfl⟩ : ∃ f, f = tm_run_51_d)
set_option maxRecDepth 100000 in
theorem tm_run_51_eq : tm_run_51 = tm_run_51_d := Classical.choose_spec (⟨tm_run_51_d, rfl⟩ : ∃ f, f = tm_run_51_d)
set_option maxRecDepth 100000 in
theorem n85_51 {xs : Nat → Int32} {Ls : Nat} {Φ : Option xV → xH → Prop} (s : xS) (h : Φ (some (vi (tm_run_51 s).1)) (xhp (tm_run_51 s).2)) : xW (xX0 xs Ls) p85 51 [(0, vr 12 230)] [] (xhp s) Φ := by
  rw [tm_run_51_eq] at h
  unfold tm_run_51_d at h
  exact b85_51 s ((by (try dsimp only at h); exact h))
set_option maxRecDepth 100000 in
theorem b85_22 {xs : Nat → Int32} {Ls : Nat} {Φ : Option xV → xH → Prop} (s : xS) (x1 : Int32) (x2 : Int32) (g : ((x1 ≤ x2 → xW (xX0 xs Ls) p85 51 [(0, vr 12 230)] [] (xhp s) Φ) ∧ (¬ (x1 ≤ x2) → ((¬ (gI s 230 0) = 0 → xW (xX0 xs Ls) p85 51 [(0, vr 12 230)] [] (xhp s) Φ) ∧ ((gI s 230 0) = 0 → (((gI s 230 9) ≤ 0 → xW (xX0 xs Ls) p85 51 [(0, vr 12 230)] [] (xhp s) Φ) ∧ (¬ ((gI s 230 9) ≤ 0) → ((tm_step_ok s) ∧ xW (xX0 xs Ls) p85 22 [(0, vr 12 230), (1, vi x1), (2, vi (x2 + 1))] [] (xhp (tm_step s)) Φ)))))))) : xW (xX0 xs Ls) p85 22 [(0, vr 12 230), (1, vi x1), (2, vi x2)] [] (xhp s) Φ := by
  refine xW.br (c := x1 ≤ x2) (pc1 := 51) (L1 := [(0, vr 12 230), (1, vi x1), (2, vi x2)]) (st1 := []) (h1 := xhp s) (pc2 := 27) (L2 := [(0, vr 12 230), (1, vi x1), (2, vi x2)]) (st2 := []) (h2 := xhp s) 3 (fun _ _ _ _ => rfl) (fun hc => ?_) (fun hc => ?_)
  · replace g := g.1 hc
    exact xW.locs (L := [(0, vr 12 230)]) ⟨rfl, trivial⟩ rfl g
  · replace g := g.2 hc
    refine xW.br (c := ¬ (gI s 230 0) = 0) (pc1 := 51) (L1 := [(0, vr 12 230), (1, vi x1), (2, vi x2)]) (st1 := []) (h1 := xhp s) (pc2 := 34) (L2 := [(0, vr 12 230), (1, vi x1), (2, vi x2)]) (st2 := []) (h2 := xhp s) 3 (fun _ _ _ _ => rfl) (fun hc => ?_) (fun hc => ?_)
    · replace g := g.1 hc
      exact xW.locs (L := [(0, vr 12 230)]) ⟨rfl, trivial⟩ rfl g
    · replace g := g.2 (Decidable.not_not.mp hc)
      refine xW.br (c := (gI s 230 9) ≤ 0) (pc1 := 51) (L1 := [(0, vr 12 230), (1, vi x1), (2, vi x2)]) (st1 := []) (h1 := xhp s) (pc2 := 41) (L2 := [(0, vr 12 230), (1, vi x1), (2, vi x2)]) (st2 := []) (h2 := xhp s) 3 (fun _ _ _ _ => rfl) (fun hc => ?_) (fun hc => ?_)
      · replace g := g.1 hc
        exact xW.locs (L := [(0, vr 12 230)]) ⟨rfl, trivial⟩ rfl g
      · replace g := g.2 hc
        refine xW.call (y := 74) (as := [vr 12 230]) (h0 := xhp s) (pc0 := 42) (len := 3) (L0 := [(0, vr 12 230), (1, vi x1), (2, vi x2)]) (rest := []) 2 (fun _ _ _ _ => rfl) (m74 _ g.1 ?_)
        show xW (xX0 xs Ls) p85 45 [(0, vr 12 230), (1, vi x1), (2, vi x2)] [] (xhp (tm_step s)) Φ
        replace g := g.2
        refine xW.seg (pc1 := 22) (L1 := [(2, vi (x2 + 1)), (0, vr 12 230), (1, vi x1)]) (st1 := []) (h1 := xhp (tm_step s)) 2 (fun _ _ _ _ => rfl) ?_
        exact xW.locs (L := [(0, vr 12 230), (1, vi x1), (2, vi (x2 + 1))]) ⟨rfl, rfl, rfl, trivial⟩ rfl g
noncomputable def tm_run_22 : Nat → xS → Int32 → Int32 → Int32 × xS
  | 0, s, _, _ => (0, s)
  | n + 1, s, x1, x2 => (if x1 ≤ x2 then (tm_run_51 s) else (if ¬ (gI s 230 0) = 0 then (tm_run_51 s) else (if (gI s 230 9) ≤ 0 then (tm_run_51 s) else (tm_run_22 n (tm_step s) x1 (x2 + 1)))))
def tm_run_22_ok : Nat → xS → Int32 → Int32 → Prop
  | 0, _, _, _ => False
  | n + 1, s, x1, x2 => (¬ (x1 ≤ x2) → ((gI s 230 0) = 0 → (¬ ((gI s 230 9) ≤ 0) → ((tm_step_ok s) ∧ (tm_run_22_ok n (tm_step s) x1 (x2 + 1))))))
set_option maxRecDepth 100000 in
theorem n85_22 {xs : Nat → Int32} {Ls : Nat} {Φ : Option xV → xH → Prop} : ∀ (n : Nat) (s : xS) (x1 : Int32) (x2 : Int32), tm_run_22_ok n s x1 x2 → Φ (some (vi (tm_run_22 n s x1 x2).1)) (xhp (tm_run_22 n s x1 x2).2) → xW (xX0 xs Ls) p85 22 [(0, vr 12 230), (1, vi x1), (2, vi x2)] [] (xhp s) Φ := by
  intro n
  induction n with
  | zero => intro s _ _ gq; exact gq.elim
  | succ n ih =>
    intro s x1 x2 gq h
    unfold tm_run_22_ok at gq
    unfold tm_run_22 at h
    exact b85_22 s x1 x2 (⟨fun hc => by rw [if_pos hc] at h; exact n85_51 _ h, fun hc => by rw [if_neg hc] at h; replace gq := gq hc; exact ⟨fun hc => by rw [if_pos hc] at h; exact n85_51 _ h, fun hc => by rw [if_neg (fun z => z hc)] at h; replace gq := gq hc; exact ⟨fun hc => by rw [if_pos hc] at h; exact n85_51 _ h, fun hc => by rw [if_neg hc] at h; replace gq := gq hc; exact ⟨gq.1, by replace gq := gq.2; exact ih _ _ _ gq h⟩⟩⟩⟩)
set_option maxRecDepth 100000 in
theorem b85_0 {xs : Nat → Int32} {Ls : Nat} {Φ : Option xV → xH → Prop} (s : xS) (m : Int32) (g : xW (xX0 xs Ls) p85 22 [(0, vr 12 230), (1, vi m), (2, vi 0)] [] (xhp (sI s 230 0 (zb ((decide (m < 0)) || (!decide (m ≤ 500)))))) Φ) : xW (xX0 xs Ls) p85 0 [(0, vr 12 230), (1, vi m)] [] (xhp s) Φ := by
  refine xW.seg (pc1 := 2) (L1 := [(0, vr 12 230), (1, vi m)]) (st1 := [vi m, vr 12 230]) (h1 := xhp s) 2 (fun _ _ _ _ => rfl) ?_
  suffices J : xW (xX0 xs Ls) p85 17 [(0, vr 12 230), (1, vi m)] [vi (zb ((decide (m < 0)) || (!decide (m ≤ 500)))), vr 12 230] (xhp s) Φ by
    refine xW.br (c := m < 0) (pc1 := 12) (L1 := [(0, vr 12 230), (1, vi m)]) (st1 := [vr 12 230]) (h1 := xhp s) (pc2 := 5) (L2 := [(0, vr 12 230), (1, vi m)]) (st2 := [vr 12 230]) (h2 := xhp s) 1 (fun _ _ _ _ => rfl) (fun hc => ?_) (fun hc => ?_)
    · have hc1 : m < 0 := hc
      refine xW.seg (pc1 := 17) (L1 := [(0, vr 12 230), (1, vi m)]) (st1 := [vi 1, vr 12 230]) (h1 := xhp s) 2 (fun _ _ _ _ => rfl) ?_
      refine xW.to (v := vi (zb ((decide (m < 0)) || (!decide (m ≤ 500))))) (zb_t (by simp only [decide_eq_true hc1, Bool.true_or, Bool.or_true, Bool.false_or, Bool.or_false, Bool.true_and, Bool.and_true, Bool.false_and, Bool.and_false, Bool.not_true, Bool.not_false, cond_true, cond_false])) ?_
      exact J
    · have hc1 : ¬ (m < 0) := hc
      refine xW.br (c := m ≤ 500) (pc1 := 16) (L1 := [(0, vr 12 230), (1, vi m)]) (st1 := [vr 12 230]) (h1 := xhp s) (pc2 := 12) (L2 := [(0, vr 12 230), (1, vi m)]) (st2 := [vr 12 230]) (h2 := xhp s) 3 (fun _ _ _ _ => rfl) (fun hc => ?_) (fun hc => ?_)
      · have hc2 : m ≤ 500 := hc
        refine xW.seg (pc1 := 17) (L1 := [(0, vr 12 230), (1, vi m)]) (st1 := [vi 0, vr 12 230]) (h1 := xhp s) 1 (fun _ _ _ _ => rfl) ?_
        refine xW.to (v := vi (zb ((decide (m < 0)) || (!decide (m ≤ 500))))) (zb_f (by simp only [decide_eq_false hc1, decide_eq_true hc2, Bool.true_or, Bool.or_true, Bool.false_or, Bool.or_false, Bool.true_and, Bool.and_true, Bool.false_and, Bool.and_false, Bool.not_true, Bool.not_false, cond_true, cond_false])) ?_
        exact J
      · have hc2 : ¬ (m ≤ 500) := hc
        refine xW.seg (pc1 := 17) (L1 := [(0, vr 12 230), (1, vi m)]) (st1 := [vi 1, vr 12 230]) (h1 := xhp s) 2 (fun _ _ _ _ => rfl) ?_
        refine xW.to (v := vi (zb ((decide (m < 0)) || (!decide (m ≤ 500))))) (zb_t (by simp only [decide_eq_false hc1, decide_eq_false hc2, Bool.true_or, Bool.or_true, Bool.false_or, Bool.or_false, Bool.true_and, Bool.and_true, Bool.false_and, Bool.and_false, Bool.not_true, Bool.not_false, cond_true, cond_false])) ?_
        exact J
  refine xW.seg (pc1 := 22) (L1 := [(2, vi 0), (0, vr 12 230), (1, vi m)]) (st1 := []) (h1 := xhp (sI s 230 0 (zb ((decide (m < 0)) || (!decide (m ≤ 500)))))) 3 (fun _ _ _ _ => rfl) ?_
  exact xW.locs (L := [(0, vr 12 230), (1, vi m), (2, vi 0)]) ⟨rfl, rfl, rfl, trivial⟩ rfl g
noncomputable def tm_run_d (s : xS) (m : Int32) : Int32 × xS := (tm_run_22 xfu (sI s 230 0 (zb ((decide (m < 0)) || (!decide (m ≤ 500))))) m 0)
noncomputable def tm_run : xS → Int32 → Int32 × xS := Classical.choose (⟨tm_run_d, rfl⟩ : ∃ f, f = tm_run_d)
set_option maxRecDepth 100000 in
theorem tm_run_eq : tm_run = tm_run_d := Classical.choose_spec (⟨tm_run_d, rfl⟩ : ∃ f, f = tm_run_d)
def tm_run_ok (s : xS) (m : Int32) : Prop := (tm_run_22_ok xfu (sI s 230 0 (zb ((decide (m < 0)) || (!decide (m ≤ 500))))) m 0)
set_option maxRecDepth 100000 in
theorem m85 {xs : Nat → Int32} {Ls : Nat} {Ψ : xO → xH → Prop} (s : xS) (m : Int32) (gq : tm_run_ok s m) (h : Ψ (.inl (some (vi (tm_run s m).1))) (xhp (tm_run s m).2)) : xM (xX0 xs Ls) 85 [vr 12 230, vi m] (xhp s) Ψ := by
  rw [tm_run_eq] at h
  unfold tm_run_d at h
  unfold tm_run_ok at gq
  exact xM.of (P := p85) rfl rfl rfl (b85_0 s m (n85_22 _ _ _ _ gq h))
/-! tm_stop -/
theorem b86_0 {xs : Nat → Int32} {Ls : Nat} {Φ : Option xV → xH → Prop} (s : xS) (g : ((¬ (gI s 230 9) = 0 → ((¬ (gI s 230 9) = 2 → Φ (some (vi 1)) (xhp (sI (sI s 230 0 0) 230 9 0))) ∧ ((gI s 230 9) = 2 → ((tm_copy_ok (sI s 230 0 0) 7 0) ∧ Φ (some (vi 1)) (xhp (sI (tm_copy (sI s 230 0 0) 7 0) 230 9 0)))))) ∧ ((gI s 230 9) = 0 → Φ (some (vi 0)) (xhp (sI s 230 0 0))))) : xW (xX0 xs Ls) p86 0 [(0, vr 12 230)] [] (xhp s) Φ := by
  refine xW.br (c := ¬ (gI s 230 9) = 0) (pc1 := 14) (L1 := [(0, vr 12 230)]) (st1 := []) (h1 := xhp (sI s 230 0 0)) (pc2 := 12) (L2 := [(0, vr 12 230)]) (st2 := []) (h2 := xhp (sI s 230 0 0)) 6 (fun _ _ _ _ => rfl) (fun hc => ?_) (fun hc => ?_)
  · replace g := g.1 hc
    refine xW.br (c := ¬ (gI s 230 9) = 2) (pc1 := 29) (L1 := [(0, vr 12 230)]) (st1 := []) (h1 := xhp (sI s 230 0 0)) (pc2 := 22) (L2 := [(0, vr 12 230)]) (st2 := []) (h2 := xhp (sI s 230 0 0)) 4 (fun _ _ _ _ => rfl) (fun hc => ?_) (fun hc => ?_)
    · replace g := g.1 hc
      exact xW.retz (v0 := some (vi 1)) (h1 := xhp (sI (sI s 230 0 0) 230 9 0)) (c := (1 : Int32) = 0 ∨ (1 : Int32) = 1) 5 (fun _ _ _ _ => rfl) (Or.inr rfl) g
    · replace g := g.2 (Decidable.not_not.mp hc)
      refine xW.call (y := 44) (as := [vr 12 230, vi 7, vi 0]) (h0 := xhp (sI s 230 0 0)) (pc0 := 26) (len := 3) (L0 := [(0, vr 12 230)]) (rest := []) 4 (fun _ _ _ _ => rfl) (m44 _ _ _ g.1 ?_)
      show xW (xX0 xs Ls) p86 29 [(0, vr 12 230)] [] (xhp (tm_copy (sI s 230 0 0) 7 0)) Φ
      replace g := g.2
      exact xW.retz (v0 := some (vi 1)) (h1 := xhp (sI (tm_copy (sI s 230 0 0) 7 0) 230 9 0)) (c := (1 : Int32) = 0 ∨ (1 : Int32) = 1) 5 (fun _ _ _ _ => rfl) (Or.inr rfl) g
  · replace g := g.2 (Decidable.not_not.mp hc)
    exact xW.retz (v0 := some (vi 0)) (h1 := xhp (sI s 230 0 0)) (c := (0 : Int32) = 0 ∨ (0 : Int32) = 1) 2 (fun _ _ _ _ => rfl) (Or.inl rfl) g
noncomputable def tm_stop_d (s : xS) : Bool × xS := (if ¬ (gI s 230 9) = 0 then (if ¬ (gI s 230 9) = 2 then (true, (sI (sI s 230 0 0) 230 9 0)) else (true, (sI (tm_copy (sI s 230 0 0) 7 0) 230 9 0))) else (false, (sI s 230 0 0)))
noncomputable def tm_stop : xS → Bool × xS := Classical.choose (⟨tm_stop_d, rfl⟩ : ∃ f, f = tm_stop_d)
set_option maxRecDepth 100000 in
theorem tm_stop_eq : tm_stop = tm_stop_d := Classical.choose_spec (⟨tm_stop_d, rfl⟩ : ∃ f, f = tm_stop_d)
def tm_stop_ok (s : xS) : Prop := (¬ (gI s 230 9) = 0 → ((gI s 230 9) = 2 → (tm_copy_ok (sI s 230 0 0) 7 0)))
set_option maxRecDepth 100000 in
theorem m86 {xs : Nat → Int32} {Ls : Nat} {Ψ : xO → xH → Prop} (s : xS) (gq : tm_stop_ok s) (h : Ψ (.inl (some (vi (zb (tm_stop s).1)))) (xhp (tm_stop s).2)) : xM (xX0 xs Ls) 86 [vr 12 230] (xhp s) Ψ := by
  rw [tm_stop_eq] at h
  unfold tm_stop_d at h
  unfold tm_stop_ok at gq
  exact xM.of (P := p86) rfl rfl rfl (b86_0 s (⟨fun hc => by rw [if_pos hc] at h; replace gq := gq hc; exact ⟨fun hc => by rw [if_pos hc] at h; exact (by (try dsimp only at h); exact h), fun hc => by rw [if_neg (fun z => z hc)] at h; replace gq := gq hc; exact ⟨gq, (by (try dsimp only at h); exact h)⟩⟩, fun hc => by rw [if_neg (fun z => z hc)] at h; exact (by (try dsimp only at h); exact h)⟩))
/-! tm_solve -/
theorem b87_0 {xs : Nat → Int32} {Ls : Nat} {Φ : Option xV → xH → Prop} (s : xS) (k : Int32) (g : (((if (gI s 230 9) ≤ 0 then (if (gI s 230 4) = 1 then (2 : Int32) else (if k < 0 then (3 : Int32) else (if k ≤ 7 then (0 : Int32) else 3))) else 1) ≤ 0 → ((tm_labelAt_ok (sI s 230 0 (if (gI s 230 9) ≤ 0 then (if (gI s 230 4) = 1 then (2 : Int32) else (if k < 0 then (3 : Int32) else (if k ≤ 7 then (0 : Int32) else 3))) else 1)) k) ∧ ((0 ≤ (tm_labelAt (sI s 230 0 (if (gI s 230 9) ≤ 0 then (if (gI s 230 4) = 1 then (2 : Int32) else (if k < 0 then (3 : Int32) else (if k ≤ 7 then (0 : Int32) else 3))) else 1)) k) → ((tm_copy_ok (sI s 230 0 (if (gI s 230 9) ≤ 0 then (if (gI s 230 4) = 1 then (2 : Int32) else (if k < 0 then (3 : Int32) else (if k ≤ 7 then (0 : Int32) else 3))) else 1)) 0 7) ∧ ((tm_note_ok (sI (sI (sI (sI (tm_copy (sI s 230 0 (if (gI s 230 9) ≤ 0 then (if (gI s 230 4) = 1 then (2 : Int32) else (if k < 0 then (3 : Int32) else (if k ≤ 7 then (0 : Int32) else 3))) else 1)) 0 7) 230 5 0) 230 9 2) 230 11 k) 230 13 0) 11 0) ∧ ((tm_note_ok (tm_note (sI (sI (sI (sI (tm_copy (sI s 230 0 (if (gI s 230 9) ≤ 0 then (if (gI s 230 4) = 1 then (2 : Int32) else (if k < 0 then (3 : Int32) else (if k ≤ 7 then (0 : Int32) else 3))) else 1)) 0 7) 230 5 0) 230 9 2) 230 11 k) 230 13 0) 11 0) 10 1) ∧ ((tm_take_ok (tm_note (tm_note (sI (sI (sI (sI (tm_copy (sI s 230 0 (if (gI s 230 9) ≤ 0 then (if (gI s 230 4) = 1 then (2 : Int32) else (if k < 0 then (3 : Int32) else (if k ≤ 7 then (0 : Int32) else 3))) else 1)) 0 7) 230 5 0) 230 9 2) 230 11 k) 230 13 0) 11 0) 10 1) 0) ∧ Φ (some (vi 0)) (xhp (tm_take (tm_note (tm_note (sI (sI (sI (sI (tm_copy (sI s 230 0 (if (gI s 230 9) ≤ 0 then (if (gI s 230 4) = 1 then (2 : Int32) else (if k < 0 then (3 : Int32) else (if k ≤ 7 then (0 : Int32) else 3))) else 1)) 0 7) 230 5 0) 230 9 2) 230 11 k) 230 13 0) 11 0) 10 1) 0))))))) ∧ (¬ (0 ≤ (tm_labelAt (sI s 230 0 (if (gI s 230 9) ≤ 0 then (if (gI s 230 4) = 1 then (2 : Int32) else (if k < 0 then (3 : Int32) else (if k ≤ 7 then (0 : Int32) else 3))) else 1)) k)) → Φ (some (vi 7)) (xhp (sI (sI s 230 0 (if (gI s 230 9) ≤ 0 then (if (gI s 230 4) = 1 then (2 : Int32) else (if k < 0 then (3 : Int32) else (if k ≤ 7 then (0 : Int32) else 3))) else 1)) 230 5 7)))))) ∧ (¬ ((if (gI s 230 9) ≤ 0 then (if (gI s 230 4) = 1 then (2 : Int32) else (if k < 0 then (3 : Int32) else (if k ≤ 7 then (0 : Int32) else 3))) else 1) ≤ 0) → Φ (some (vi 0)) (xhp (sI s 230 0 (if (gI s 230 9) ≤ 0 then (if (gI s 230 4) = 1 then (2 : Int32) else (if k < 0 then (3 : Int32) else (if k ≤ 7 then (0 : Int32) else 3))) else 1)))))) : xW (xX0 xs Ls) p87 0 [(0, vr 12 230), (1, vi k)] [] (xhp s) Φ := by
  refine xW.seg (pc1 := 5) (L1 := [(0, vr 12 230), (1, vi k)]) (st1 := [vi (gI s 230 9), vr 12 230]) (h1 := xhp s) 3 (fun _ _ _ _ => rfl) ?_
  suffices J : xW (xX0 xs Ls) p87 39 [(0, vr 12 230), (1, vi k)] [vi (if (gI s 230 9) ≤ 0 then (if (gI s 230 4) = 1 then (2 : Int32) else (if k < 0 then (3 : Int32) else (if k ≤ 7 then (0 : Int32) else 3))) else 1), vr 12 230] (xhp s) Φ by
    refine xW.br (c := (gI s 230 9) ≤ 0) (pc1 := 12) (L1 := [(0, vr 12 230), (1, vi k)]) (st1 := [vr 12 230]) (h1 := xhp s) (pc2 := 8) (L2 := [(0, vr 12 230), (1, vi k)]) (st2 := [vr 12 230]) (h2 := xhp s) 1 (fun _ _ _ _ => rfl) (fun hc => ?_) (fun hc => ?_)
    · have hc1 : (gI s 230 9) ≤ 0 := hc
      refine xW.br (c := ¬ (gI s 230 4) = 1) (pc1 := 24) (L1 := [(0, vr 12 230), (1, vi k)]) (st1 := [vr 12 230]) (h1 := xhp s) (pc2 := 20) (L2 := [(0, vr 12 230), (1, vi k)]) (st2 := [vr 12 230]) (h2 := xhp s) 4 (fun _ _ _ _ => rfl) (fun hc => ?_) (fun hc => ?_)
      · have hc2 : ¬ (gI s 230 4) = 1 := hc
        refine xW.br (c := k < 0) (pc1 := 34) (L1 := [(0, vr 12 230), (1, vi k)]) (st1 := [vr 12 230]) (h1 := xhp s) (pc2 := 28) (L2 := [(0, vr 12 230), (1, vi k)]) (st2 := [vr 12 230]) (h2 := xhp s) 2 (fun _ _ _ _ => rfl) (fun hc => ?_) (fun hc => ?_)
        · have hc3 : k < 0 := hc
          refine xW.seg (pc1 := 39) (L1 := [(0, vr 12 230), (1, vi k)]) (st1 := [vi 3, vr 12 230]) (h1 := xhp s) 2 (fun _ _ _ _ => rfl) ?_
          refine xW.to (v := vi (if (gI s 230 9) ≤ 0 then (if (gI s 230 4) = 1 then (2 : Int32) else (if k < 0 then (3 : Int32) else (if k ≤ 7 then (0 : Int32) else 3))) else 1)) ((congrArg vi ((if_pos hc1).trans ((if_neg hc2).trans (if_pos hc3)))).symm) ?_
          exact J
        · have hc3 : ¬ (k < 0) := hc
          refine xW.br (c := k ≤ 7) (pc1 := 38) (L1 := [(0, vr 12 230), (1, vi k)]) (st1 := [vr 12 230]) (h1 := xhp s) (pc2 := 34) (L2 := [(0, vr 12 230), (1, vi k)]) (st2 := [vr 12 230]) (h2 := xhp s) 3 (fun _ _ _ _ => rfl) (fun hc => ?_) (fun hc => ?_)
          · have hc4 : k ≤ 7 := hc
            refine xW.seg (pc1 := 39) (L1 := [(0, vr 12 230), (1, vi k)]) (st1 := [vi 0, vr 12 230]) (h1 := xhp s) 1 (fun _ _ _ _ => rfl) ?_
            refine xW.to (v := vi (if (gI s 230 9) ≤ 0 then (if (gI s 230 4) = 1 then (2 : Int32) else (if k < 0 then (3 : Int32) else (if k ≤ 7 then (0 : Int32) else 3))) else 1)) ((congrArg vi ((if_pos hc1).trans ((if_neg hc2).trans ((if_neg hc3).trans (if_pos hc4))))).symm) ?_
            exact J
          · have hc4 : ¬ (k ≤ 7) := hc
            refine xW.seg (pc1 := 39) (L1 := [(0, vr 12 230), (1, vi k)]) (st1 := [vi 3, vr 12 230]) (h1 := xhp s) 2 (fun _ _ _ _ => rfl) ?_
            refine xW.to (v := vi (if (gI s 230 9) ≤ 0 then (if (gI s 230 4) = 1 then (2 : Int32) else (if k < 0 then (3 : Int32) else (if k ≤ 7 then (0 : Int32) else 3))) else 1)) ((congrArg vi ((if_pos hc1).trans ((if_neg hc2).trans ((if_neg hc3).trans (if_neg hc4))))).symm) ?_
            exact J
      · have hc2 : (gI s 230 4) = 1 := (Decidable.not_not.mp hc)
        refine xW.seg (pc1 := 39) (L1 := [(0, vr 12 230), (1, vi k)]) (st1 := [vi 2, vr 12 230]) (h1 := xhp s) 2 (fun _ _ _ _ => rfl) ?_
        refine xW.to (v := vi (if (gI s 230 9) ≤ 0 then (if (gI s 230 4) = 1 then (2 : Int32) else (if k < 0 then (3 : Int32) else (if k ≤ 7 then (0 : Int32) else 3))) else 1)) ((congrArg vi ((if_pos hc1).trans (if_pos hc2))).symm) ?_
        exact J
    · have hc1 : ¬ ((gI s 230 9) ≤ 0) := hc
      refine xW.seg (pc1 := 39) (L1 := [(0, vr 12 230), (1, vi k)]) (st1 := [vi 1, vr 12 230]) (h1 := xhp s) 2 (fun _ _ _ _ => rfl) ?_
      refine xW.to (v := vi (if (gI s 230 9) ≤ 0 then (if (gI s 230 4) = 1 then (2 : Int32) else (if k < 0 then (3 : Int32) else (if k ≤ 7 then (0 : Int32) else 3))) else 1)) ((congrArg vi (if_neg hc1)).symm) ?_
      exact J
  refine xW.br (c := (if (gI s 230 9) ≤ 0 then (if (gI s 230 4) = 1 then (2 : Int32) else (if k < 0 then (3 : Int32) else (if k ≤ 7 then (0 : Int32) else 3))) else 1) ≤ 0) (pc1 := 51) (L1 := [(0, vr 12 230), (1, vi k)]) (st1 := []) (h1 := xhp (sI s 230 0 (if (gI s 230 9) ≤ 0 then (if (gI s 230 4) = 1 then (2 : Int32) else (if k < 0 then (3 : Int32) else (if k ≤ 7 then (0 : Int32) else 3))) else 1))) (pc2 := 49) (L2 := [(0, vr 12 230), (1, vi k)]) (st2 := []) (h2 := xhp (sI s 230 0 (if (gI s 230 9) ≤ 0 then (if (gI s 230 4) = 1 then (2 : Int32) else (if k < 0 then (3 : Int32) else (if k ≤ 7 then (0 : Int32) else 3))) else 1))) 4 (fun _ _ _ _ => rfl) (fun hc => ?_) (fun hc => ?_)
  · replace g := g.1 hc
    refine xW.call (y := 68) (as := [vr 12 230, vi k]) (h0 := xhp (sI s 230 0 (if (gI s 230 9) ≤ 0 then (if (gI s 230 4) = 1 then (2 : Int32) else (if k < 0 then (3 : Int32) else (if k ≤ 7 then (0 : Int32) else 3))) else 1))) (pc0 := 53) (len := 3) (L0 := [(0, vr 12 230), (1, vi k)]) (rest := []) 3 (fun _ _ _ _ => rfl) (m68 _ _ g.1 ?_)
    show xW (xX0 xs Ls) p87 56 [(0, vr 12 230), (1, vi k)] [vi (tm_labelAt (sI s 230 0 (if (gI s 230 9) ≤ 0 then (if (gI s 230 4) = 1 then (2 : Int32) else (if k < 0 then (3 : Int32) else (if k ≤ 7 then (0 : Int32) else 3))) else 1)) k)] (xhp (sI s 230 0 (if (gI s 230 9) ≤ 0 then (if (gI s 230 4) = 1 then (2 : Int32) else (if k < 0 then (3 : Int32) else (if k ≤ 7 then (0 : Int32) else 3))) else 1))) Φ
    replace g := g.2
    refine xW.br (c := 0 ≤ (tm_labelAt (sI s 230 0 (if (gI s 230 9) ≤ 0 then (if (gI s 230 4) = 1 then (2 : Int32) else (if k < 0 then (3 : Int32) else (if k ≤ 7 then (0 : Int32) else 3))) else 1)) k)) (pc1 := 68) (L1 := [(0, vr 12 230), (1, vi k)]) (st1 := []) (h1 := xhp (sI s 230 0 (if (gI s 230 9) ≤ 0 then (if (gI s 230 4) = 1 then (2 : Int32) else (if k < 0 then (3 : Int32) else (if k ≤ 7 then (0 : Int32) else 3))) else 1))) (pc2 := 59) (L2 := [(0, vr 12 230), (1, vi k)]) (st2 := []) (h2 := xhp (sI s 230 0 (if (gI s 230 9) ≤ 0 then (if (gI s 230 4) = 1 then (2 : Int32) else (if k < 0 then (3 : Int32) else (if k ≤ 7 then (0 : Int32) else 3))) else 1))) 1 (fun _ _ _ _ => rfl) (fun hc => ?_) (fun hc => ?_)
    · replace g := g.1 hc
      refine xW.call (y := 44) (as := [vr 12 230, vi 0, vi 7]) (h0 := xhp (sI s 230 0 (if (gI s 230 9) ≤ 0 then (if (gI s 230 4) = 1 then (2 : Int32) else (if k < 0 then (3 : Int32) else (if k ≤ 7 then (0 : Int32) else 3))) else 1))) (pc0 := 72) (len := 3) (L0 := [(0, vr 12 230), (1, vi k)]) (rest := []) 4 (fun _ _ _ _ => rfl) (m44 _ _ _ g.1 ?_)
      show xW (xX0 xs Ls) p87 75 [(0, vr 12 230), (1, vi k)] [] (xhp (tm_copy (sI s 230 0 (if (gI s 230 9) ≤ 0 then (if (gI s 230 4) = 1 then (2 : Int32) else (if k < 0 then (3 : Int32) else (if k ≤ 7 then (0 : Int32) else 3))) else 1)) 0 7)) Φ
      replace g := g.2
      refine xW.call (y := 76) (as := [vr 12 230, vi 11, vi 0]) (h0 := xhp (sI (sI (sI (sI (tm_copy (sI s 230 0 (if (gI s 230 9) ≤ 0 then (if (gI s 230 4) = 1 then (2 : Int32) else (if k < 0 then (3 : Int32) else (if k ≤ 7 then (0 : Int32) else 3))) else 1)) 0 7) 230 5 0) 230 9 2) 230 11 k) 230 13 0)) (pc0 := 99) (len := 3) (L0 := [(0, vr 12 230), (1, vi k)]) (rest := []) 16 (fun _ _ _ _ => rfl) (m76 _ _ _ g.1 ?_)
      show xW (xX0 xs Ls) p87 102 [(0, vr 12 230), (1, vi k)] [] (xhp (tm_note (sI (sI (sI (sI (tm_copy (sI s 230 0 (if (gI s 230 9) ≤ 0 then (if (gI s 230 4) = 1 then (2 : Int32) else (if k < 0 then (3 : Int32) else (if k ≤ 7 then (0 : Int32) else 3))) else 1)) 0 7) 230 5 0) 230 9 2) 230 11 k) 230 13 0) 11 0)) Φ
      replace g := g.2
      refine xW.call (y := 76) (as := [vr 12 230, vi 10, vi 1]) (h0 := xhp (tm_note (sI (sI (sI (sI (tm_copy (sI s 230 0 (if (gI s 230 9) ≤ 0 then (if (gI s 230 4) = 1 then (2 : Int32) else (if k < 0 then (3 : Int32) else (if k ≤ 7 then (0 : Int32) else 3))) else 1)) 0 7) 230 5 0) 230 9 2) 230 11 k) 230 13 0) 11 0)) (pc0 := 106) (len := 3) (L0 := [(0, vr 12 230), (1, vi k)]) (rest := []) 4 (fun _ _ _ _ => rfl) (m76 _ _ _ g.1 ?_)
      show xW (xX0 xs Ls) p87 109 [(0, vr 12 230), (1, vi k)] [] (xhp (tm_note (tm_note (sI (sI (sI (sI (tm_copy (sI s 230 0 (if (gI s 230 9) ≤ 0 then (if (gI s 230 4) = 1 then (2 : Int32) else (if k < 0 then (3 : Int32) else (if k ≤ 7 then (0 : Int32) else 3))) else 1)) 0 7) 230 5 0) 230 9 2) 230 11 k) 230 13 0) 11 0) 10 1)) Φ
      replace g := g.2
      refine xW.call (y := 78) (as := [vr 12 230, vi 0]) (h0 := xhp (tm_note (tm_note (sI (sI (sI (sI (tm_copy (sI s 230 0 (if (gI s 230 9) ≤ 0 then (if (gI s 230 4) = 1 then (2 : Int32) else (if k < 0 then (3 : Int32) else (if k ≤ 7 then (0 : Int32) else 3))) else 1)) 0 7) 230 5 0) 230 9 2) 230 11 k) 230 13 0) 11 0) 10 1)) (pc0 := 111) (len := 3) (L0 := [(0, vr 12 230), (1, vi k)]) (rest := []) 3 (fun _ _ _ _ => rfl) (m78 _ _ g.1 ?_)
      show xW (xX0 xs Ls) p87 114 [(0, vr 12 230), (1, vi k)] [] (xhp (tm_take (tm_note (tm_note (sI (sI (sI (sI (tm_copy (sI s 230 0 (if (gI s 230 9) ≤ 0 then (if (gI s 230 4) = 1 then (2 : Int32) else (if k < 0 then (3 : Int32) else (if k ≤ 7 then (0 : Int32) else 3))) else 1)) 0 7) 230 5 0) 230 9 2) 230 11 k) 230 13 0) 11 0) 10 1) 0)) Φ
      replace g := g.2
      exact xW.ret (v0 := some (vi 0)) (h1 := xhp (tm_take (tm_note (tm_note (sI (sI (sI (sI (tm_copy (sI s 230 0 (if (gI s 230 9) ≤ 0 then (if (gI s 230 4) = 1 then (2 : Int32) else (if k < 0 then (3 : Int32) else (if k ≤ 7 then (0 : Int32) else 3))) else 1)) 0 7) 230 5 0) 230 9 2) 230 11 k) 230 13 0) 11 0) 10 1) 0)) 2 (fun _ _ _ _ => rfl) g
    · replace g := g.2 hc
      exact xW.ret (v0 := some (vi 7)) (h1 := xhp (sI (sI s 230 0 (if (gI s 230 9) ≤ 0 then (if (gI s 230 4) = 1 then (2 : Int32) else (if k < 0 then (3 : Int32) else (if k ≤ 7 then (0 : Int32) else 3))) else 1)) 230 5 7)) 5 (fun _ _ _ _ => rfl) g
  · replace g := g.2 hc
    exact xW.ret (v0 := some (vi 0)) (h1 := xhp (sI s 230 0 (if (gI s 230 9) ≤ 0 then (if (gI s 230 4) = 1 then (2 : Int32) else (if k < 0 then (3 : Int32) else (if k ≤ 7 then (0 : Int32) else 3))) else 1))) 2 (fun _ _ _ _ => rfl) g
noncomputable def tm_solve_d (s : xS) (k : Int32) : Int32 × xS := (if (if (gI s 230 9) ≤ 0 then (if (gI s 230 4) = 1 then (2 : Int32) else (if k < 0 then (3 : Int32) else (if k ≤ 7 then (0 : Int32) else 3))) else 1) ≤ 0 then (if 0 ≤ (tm_labelAt (sI s 230 0 (if (gI s 230 9) ≤ 0 then (if (gI s 230 4) = 1 then (2 : Int32) else (if k < 0 then (3 : Int32) else (if k ≤ 7 then (0 : Int32) else 3))) else 1)) k) then (0, (tm_take (tm_note (tm_note (sI (sI (sI (sI (tm_copy (sI s 230 0 (if (gI s 230 9) ≤ 0 then (if (gI s 230 4) = 1 then (2 : Int32) else (if k < 0 then (3 : Int32) else (if k ≤ 7 then (0 : Int32) else 3))) else 1)) 0 7) 230 5 0) 230 9 2) 230 11 k) 230 13 0) 11 0) 10 1) 0)) else (7, (sI (sI s 230 0 (if (gI s 230 9) ≤ 0 then (if (gI s 230 4) = 1 then (2 : Int32) else (if k < 0 then (3 : Int32) else (if k ≤ 7 then (0 : Int32) else 3))) else 1)) 230 5 7))) else (0, (sI s 230 0 (if (gI s 230 9) ≤ 0 then (if (gI s 230 4) = 1 then (2 : Int32) else (if k < 0 then (3 : Int32) else (if k ≤ 7 then (0 : Int32) else 3))) else 1))))
noncomputable def tm_solve : xS → Int32 → Int32 × xS := Classical.choose (⟨tm_solve_d, rfl⟩ : ∃ f, f = tm_solve_d)
set_option maxRecDepth 100000 in
theorem tm_solve_eq : tm_solve = tm_solve_d := Classical.choose_spec (⟨tm_solve_d, rfl⟩ : ∃ f, f = tm_solve_d)
def tm_solve_ok (s : xS) (k : Int32) : Prop := ((if (gI s 230 9) ≤ 0 then (if (gI s 230 4) = 1 then (2 : Int32) else (if k < 0 then (3 : Int32) else (if k ≤ 7 then (0 : Int32) else 3))) else 1) ≤ 0 → ((tm_labelAt_ok (sI s 230 0 (if (gI s 230 9) ≤ 0 then (if (gI s 230 4) = 1 then (2 : Int32) else (if k < 0 then (3 : Int32) else (if k ≤ 7 then (0 : Int32) else 3))) else 1)) k) ∧ (0 ≤ (tm_labelAt (sI s 230 0 (if (gI s 230 9) ≤ 0 then (if (gI s 230 4) = 1 then (2 : Int32) else (if k < 0 then (3 : Int32) else (if k ≤ 7 then (0 : Int32) else 3))) else 1)) k) → ((tm_copy_ok (sI s 230 0 (if (gI s 230 9) ≤ 0 then (if (gI s 230 4) = 1 then (2 : Int32) else (if k < 0 then (3 : Int32) else (if k ≤ 7 then (0 : Int32) else 3))) else 1)) 0 7) ∧ ((tm_note_ok (sI (sI (sI (sI (tm_copy (sI s 230 0 (if (gI s 230 9) ≤ 0 then (if (gI s 230 4) = 1 then (2 : Int32) else (if k < 0 then (3 : Int32) else (if k ≤ 7 then (0 : Int32) else 3))) else 1)) 0 7) 230 5 0) 230 9 2) 230 11 k) 230 13 0) 11 0) ∧ ((tm_note_ok (tm_note (sI (sI (sI (sI (tm_copy (sI s 230 0 (if (gI s 230 9) ≤ 0 then (if (gI s 230 4) = 1 then (2 : Int32) else (if k < 0 then (3 : Int32) else (if k ≤ 7 then (0 : Int32) else 3))) else 1)) 0 7) 230 5 0) 230 9 2) 230 11 k) 230 13 0) 11 0) 10 1) ∧ (tm_take_ok (tm_note (tm_note (sI (sI (sI (sI (tm_copy (sI s 230 0 (if (gI s 230 9) ≤ 0 then (if (gI s 230 4) = 1 then (2 : Int32) else (if k < 0 then (3 : Int32) else (if k ≤ 7 then (0 : Int32) else 3))) else 1)) 0 7) 230 5 0) 230 9 2) 230 11 k) 230 13 0) 11 0) 10 1) 0)))))))
set_option maxRecDepth 100000 in
theorem m87 {xs : Nat → Int32} {Ls : Nat} {Ψ : xO → xH → Prop} (s : xS) (k : Int32) (gq : tm_solve_ok s k) (h : Ψ (.inl (some (vi (tm_solve s k).1))) (xhp (tm_solve s k).2)) : xM (xX0 xs Ls) 87 [vr 12 230, vi k] (xhp s) Ψ := by
  rw [tm_solve_eq] at h
  unfold tm_solve_d at h
  unfold tm_solve_ok at gq
  exact xM.of (P := p87) rfl rfl rfl (b87_0 s k (⟨fun hc => by rw [if_pos hc] at h; replace gq := gq hc; exact ⟨gq.1, by replace gq := gq.2; exact ⟨fun hc => by rw [if_pos hc] at h; replace gq := gq hc; exact ⟨gq.1, by replace gq := gq.2; exact ⟨gq.1, by replace gq := gq.2; exact ⟨gq.1, by replace gq := gq.2; exact ⟨gq, (by (try dsimp only at h); exact h)⟩⟩⟩⟩, fun hc => by rw [if_neg hc] at h; exact (by (try dsimp only at h); exact h)⟩⟩, fun hc => by rw [if_neg hc] at h; exact (by (try dsimp only at h); exact h)⟩))
/-! tm_undo -/
theorem b88_0 {xs : Nat → Int32} {Ls : Nat} {Φ : Option xV → xH → Prop} (s : xS) (g : ((0 < (zb (!decide ((gI s 230 9) ≤ 0))) → Φ (some (vi 0)) (xhp (sI s 230 0 (zb (!decide ((gI s 230 9) ≤ 0)))))) ∧ (¬ (0 < (zb (!decide ((gI s 230 9) ≤ 0)))) → ((¬ (gI s 230 3) = 0 → ((tm_copy_ok (sI s 230 0 (zb (!decide ((gI s 230 9) ≤ 0)))) (gI s 230 3) 0) ∧ Φ (some (vi 1)) (xhp (sI (sI (tm_copy (sI s 230 0 (zb (!decide ((gI s 230 9) ≤ 0)))) (gI s 230 3) 0) 230 3 ((gI (tm_copy (sI s 230 0 (zb (!decide ((gI s 230 9) ≤ 0)))) (gI s 230 3) 0) 230 3) - 1)) 230 5 0)))) ∧ ((gI s 230 3) = 0 → Φ (some (vi 0)) (xhp (sI s 230 0 (zb (!decide ((gI s 230 9) ≤ 0)))))))))) : xW (xX0 xs Ls) p88 0 [(0, vr 12 230)] [] (xhp s) Φ := by
  refine xW.seg (pc1 := 5) (L1 := [(0, vr 12 230)]) (st1 := [vi (gI s 230 9), vr 12 230]) (h1 := xhp s) 3 (fun _ _ _ _ => rfl) ?_
  suffices J : xW (xX0 xs Ls) p88 13 [(0, vr 12 230)] [vi (zb (!decide ((gI s 230 9) ≤ 0))), vr 12 230] (xhp s) Φ by
    refine xW.br (c := (gI s 230 9) ≤ 0) (pc1 := 12) (L1 := [(0, vr 12 230)]) (st1 := [vr 12 230]) (h1 := xhp s) (pc2 := 8) (L2 := [(0, vr 12 230)]) (st2 := [vr 12 230]) (h2 := xhp s) 1 (fun _ _ _ _ => rfl) (fun hc => ?_) (fun hc => ?_)
    · have hc1 : (gI s 230 9) ≤ 0 := hc
      refine xW.seg (pc1 := 13) (L1 := [(0, vr 12 230)]) (st1 := [vi 0, vr 12 230]) (h1 := xhp s) 1 (fun _ _ _ _ => rfl) ?_
      refine xW.to (v := vi (zb (!decide ((gI s 230 9) ≤ 0)))) (zb_f (by simp only [decide_eq_true hc1, Bool.true_or, Bool.or_true, Bool.false_or, Bool.or_false, Bool.true_and, Bool.and_true, Bool.false_and, Bool.and_false, Bool.not_true, Bool.not_false, cond_true, cond_false])) ?_
      exact J
    · have hc1 : ¬ ((gI s 230 9) ≤ 0) := hc
      refine xW.seg (pc1 := 13) (L1 := [(0, vr 12 230)]) (st1 := [vi 1, vr 12 230]) (h1 := xhp s) 2 (fun _ _ _ _ => rfl) ?_
      refine xW.to (v := vi (zb (!decide ((gI s 230 9) ≤ 0)))) (zb_t (by simp only [decide_eq_false hc1, Bool.true_or, Bool.or_true, Bool.false_or, Bool.or_false, Bool.true_and, Bool.and_true, Bool.false_and, Bool.and_false, Bool.not_true, Bool.not_false, cond_true, cond_false])) ?_
      exact J
  refine xW.br (c := 0 < (zb (!decide ((gI s 230 9) ≤ 0)))) (pc1 := 30) (L1 := [(0, vr 12 230)]) (st1 := []) (h1 := xhp (sI s 230 0 (zb (!decide ((gI s 230 9) ≤ 0))))) (pc2 := 23) (L2 := [(0, vr 12 230)]) (st2 := []) (h2 := xhp (sI s 230 0 (zb (!decide ((gI s 230 9) ≤ 0))))) 4 (fun _ _ _ _ => rfl) (fun hc => ?_) (fun hc => ?_)
  · replace g := g.1 hc
    exact xW.retz (v0 := some (vi 0)) (h1 := xhp (sI s 230 0 (zb (!decide ((gI s 230 9) ≤ 0))))) (c := (0 : Int32) = 0 ∨ (0 : Int32) = 1) 2 (fun _ _ _ _ => rfl) (Or.inl rfl) g
  · replace g := g.2 hc
    refine xW.br (c := ¬ (gI s 230 3) = 0) (pc1 := 32) (L1 := [(0, vr 12 230)]) (st1 := []) (h1 := xhp (sI s 230 0 (zb (!decide ((gI s 230 9) ≤ 0))))) (pc2 := 30) (L2 := [(0, vr 12 230)]) (st2 := []) (h2 := xhp (sI s 230 0 (zb (!decide ((gI s 230 9) ≤ 0))))) 3 (fun _ _ _ _ => rfl) (fun hc => ?_) (fun hc => ?_)
    · replace g := g.1 hc
      refine xW.call (y := 44) (as := [vr 12 230, vi (gI s 230 3), vi 0]) (h0 := xhp (sI s 230 0 (zb (!decide ((gI s 230 9) ≤ 0))))) (pc0 := 38) (len := 3) (L0 := [(0, vr 12 230)]) (rest := []) 5 (fun _ _ _ _ => rfl) (m44 _ _ _ g.1 ?_)
      show xW (xX0 xs Ls) p88 41 [(0, vr 12 230)] [] (xhp (tm_copy (sI s 230 0 (zb (!decide ((gI s 230 9) ≤ 0)))) (gI s 230 3) 0)) Φ
      replace g := g.2
      exact xW.retz (v0 := some (vi 1)) (h1 := xhp (sI (sI (tm_copy (sI s 230 0 (zb (!decide ((gI s 230 9) ≤ 0)))) (gI s 230 3) 0) 230 3 ((gI (tm_copy (sI s 230 0 (zb (!decide ((gI s 230 9) ≤ 0)))) (gI s 230 3) 0) 230 3) - 1)) 230 5 0)) (c := (1 : Int32) = 0 ∨ (1 : Int32) = 1) 11 (fun _ _ _ _ => rfl) (Or.inr rfl) g
    · replace g := g.2 (Decidable.not_not.mp hc)
      exact xW.retz (v0 := some (vi 0)) (h1 := xhp (sI s 230 0 (zb (!decide ((gI s 230 9) ≤ 0))))) (c := (0 : Int32) = 0 ∨ (0 : Int32) = 1) 2 (fun _ _ _ _ => rfl) (Or.inl rfl) g
noncomputable def tm_undo_d (s : xS) : Bool × xS := (if 0 < (zb (!decide ((gI s 230 9) ≤ 0))) then (false, (sI s 230 0 (zb (!decide ((gI s 230 9) ≤ 0))))) else (if ¬ (gI s 230 3) = 0 then (true, (sI (sI (tm_copy (sI s 230 0 (zb (!decide ((gI s 230 9) ≤ 0)))) (gI s 230 3) 0) 230 3 ((gI (tm_copy (sI s 230 0 (zb (!decide ((gI s 230 9) ≤ 0)))) (gI s 230 3) 0) 230 3) - 1)) 230 5 0)) else (false, (sI s 230 0 (zb (!decide ((gI s 230 9) ≤ 0)))))))
noncomputable def tm_undo : xS → Bool × xS := Classical.choose (⟨tm_undo_d, rfl⟩ : ∃ f, f = tm_undo_d)
set_option maxRecDepth 100000 in
theorem tm_undo_eq : tm_undo = tm_undo_d := Classical.choose_spec (⟨tm_undo_d, rfl⟩ : ∃ f, f = tm_undo_d)
def tm_undo_ok (s : xS) : Prop := (¬ (0 < (zb (!decide ((gI s 230 9) ≤ 0)))) → (¬ (gI s 230 3) = 0 → (tm_copy_ok (sI s 230 0 (zb (!decide ((gI s 230 9) ≤ 0)))) (gI s 230 3) 0)))
set_option maxRecDepth 100000 in
theorem m88 {xs : Nat → Int32} {Ls : Nat} {Ψ : xO → xH → Prop} (s : xS) (gq : tm_undo_ok s) (h : Ψ (.inl (some (vi (zb (tm_undo s).1)))) (xhp (tm_undo s).2)) : xM (xX0 xs Ls) 88 [vr 12 230] (xhp s) Ψ := by
  rw [tm_undo_eq] at h
  unfold tm_undo_d at h
  unfold tm_undo_ok at gq
  exact xM.of (P := p88) rfl rfl rfl (b88_0 s (⟨fun hc => by rw [if_pos hc] at h; exact (by (try dsimp only at h); exact h), fun hc => by rw [if_neg hc] at h; replace gq := gq hc; exact ⟨fun hc => by rw [if_pos hc] at h; replace gq := gq hc; exact ⟨gq, (by (try dsimp only at h); exact h)⟩, fun hc => by rw [if_neg (fun z => z hc)] at h; exact (by (try dsimp only at h); exact h)⟩⟩))
/-! tm_noNumber -/
theorem b89_0 {xs : Nat → Int32} {Ls : Nat} {Φ : Option xV → xH → Prop} (s : xS) (w : Int32) (g : Φ (some (vi (zb ((decide (w < 0)) || (!decide (w ≤ 14)))))) (xhp s)) : xW (xX0 xs Ls) p89 0 [(0, vi w)] [] (xhp s) Φ := by
  refine xW.seg (pc1 := 1) (L1 := [(0, vi w)]) (st1 := [vi w]) (h1 := xhp s) 1 (fun _ _ _ _ => rfl) ?_
  suffices J : xW (xX0 xs Ls) p89 15 [(0, vi w)] [vi (zb ((decide (w < 0)) || (!decide (w ≤ 14))))] (xhp s) Φ by
    refine xW.br (c := w < 0) (pc1 := 10) (L1 := [(0, vi w)]) (st1 := []) (h1 := xhp s) (pc2 := 4) (L2 := [(0, vi w)]) (st2 := []) (h2 := xhp s) 1 (fun _ _ _ _ => rfl) (fun hc => ?_) (fun hc => ?_)
    · have hc1 : w < 0 := hc
      refine xW.seg (pc1 := 15) (L1 := [(0, vi w)]) (st1 := [vi 1]) (h1 := xhp s) 2 (fun _ _ _ _ => rfl) ?_
      refine xW.to (v := vi (zb ((decide (w < 0)) || (!decide (w ≤ 14))))) (zb_t (by simp only [decide_eq_true hc1, Bool.true_or, Bool.or_true, Bool.false_or, Bool.or_false, Bool.true_and, Bool.and_true, Bool.false_and, Bool.and_false, Bool.not_true, Bool.not_false, cond_true, cond_false])) ?_
      exact J
    · have hc1 : ¬ (w < 0) := hc
      refine xW.br (c := w ≤ 14) (pc1 := 14) (L1 := [(0, vi w)]) (st1 := []) (h1 := xhp s) (pc2 := 10) (L2 := [(0, vi w)]) (st2 := []) (h2 := xhp s) 3 (fun _ _ _ _ => rfl) (fun hc => ?_) (fun hc => ?_)
      · have hc2 : w ≤ 14 := hc
        refine xW.seg (pc1 := 15) (L1 := [(0, vi w)]) (st1 := [vi 0]) (h1 := xhp s) 1 (fun _ _ _ _ => rfl) ?_
        refine xW.to (v := vi (zb ((decide (w < 0)) || (!decide (w ≤ 14))))) (zb_f (by simp only [decide_eq_false hc1, decide_eq_true hc2, Bool.true_or, Bool.or_true, Bool.false_or, Bool.or_false, Bool.true_and, Bool.and_true, Bool.false_and, Bool.and_false, Bool.not_true, Bool.not_false, cond_true, cond_false])) ?_
        exact J
      · have hc2 : ¬ (w ≤ 14) := hc
        refine xW.seg (pc1 := 15) (L1 := [(0, vi w)]) (st1 := [vi 1]) (h1 := xhp s) 2 (fun _ _ _ _ => rfl) ?_
        refine xW.to (v := vi (zb ((decide (w < 0)) || (!decide (w ≤ 14))))) (zb_t (by simp only [decide_eq_false hc1, decide_eq_false hc2, Bool.true_or, Bool.or_true, Bool.false_or, Bool.or_false, Bool.true_and, Bool.and_true, Bool.false_and, Bool.and_false, Bool.not_true, Bool.not_false, cond_true, cond_false])) ?_
        exact J
  exact xW.retz (v0 := some (vi (zb ((decide (w < 0)) || (!decide (w ≤ 14)))))) (h1 := xhp s) (c := (zb ((decide (w < 0)) || (!decide (w ≤ 14)))) = 0 ∨ (zb ((decide (w < 0)) || (!decide (w ≤ 14)))) = 1) 1 (fun _ _ _ _ => rfl) (zb01 _) g
noncomputable def tm_noNumber (w : Int32) : Bool := ((decide (w < 0)) || (!decide (w ≤ 14)))
set_option maxRecDepth 100000 in
theorem m89 {xs : Nat → Int32} {Ls : Nat} {Ψ : xO → xH → Prop} (s : xS) (w : Int32) (h : Ψ (.inl (some (vi (zb (tm_noNumber w))))) (xhp s)) : xM (xX0 xs Ls) 89 [vi w] (xhp s) Ψ := by
  unfold tm_noNumber at h
  exact xM.of (P := p89) rfl rfl rfl (b89_0 s w (h))
/-! tm_digits -/
theorem b90_0 {xs : Nat → Int32} {Ls : Nat} {Φ : Option xV → xH → Prop} (s : xS) (w : Int32) (g : (((zb (tm_noNumber w)) ≤ 0 → ((vp_in w 640) ∧ ((vp_in w 192) ∧ Φ (some (vl (((gI s 231 w.toNatClampNeg).toInt64) * (gJ s 232 w.toNatClampNeg)))) (xhp (sI s 230 0 (zb (tm_noNumber w))))))) ∧ (¬ ((zb (tm_noNumber w)) ≤ 0) → Φ (some (vl 0)) (xhp (sI s 230 0 (zb (tm_noNumber w))))))) : xW (xX0 xs Ls) p90 0 [(0, vr 12 230), (1, vi w)] [] (xhp s) Φ := by
  refine xW.call (y := 89) (as := [vi w]) (h0 := xhp s) (pc0 := 2) (len := 3) (L0 := [(0, vr 12 230), (1, vi w)]) (rest := [vr 12 230]) 3 (fun _ _ _ _ => rfl) (m89 _ _ ?_)
  show xW (xX0 xs Ls) p90 5 [(0, vr 12 230), (1, vi w)] [vi (zb (tm_noNumber w)), vr 12 230] (xhp s) Φ
  suffices J : xW (xX0 xs Ls) p90 13 [(0, vr 12 230), (1, vi w)] [vi (zb (tm_noNumber w)), vr 12 230] (xhp s) Φ by
    refine xW.br (c := (zb (tm_noNumber w)) = 0) (pc1 := 12) (L1 := [(0, vr 12 230), (1, vi w)]) (st1 := [vr 12 230]) (h1 := xhp s) (pc2 := 8) (L2 := [(0, vr 12 230), (1, vi w)]) (st2 := [vr 12 230]) (h2 := xhp s) 1 (fun _ _ _ _ => rfl) (fun hc => ?_) (fun hc => ?_)
    · have hc1 : (tm_noNumber w) = false := (zb_eq0.mp hc)
      refine xW.seg (pc1 := 13) (L1 := [(0, vr 12 230), (1, vi w)]) (st1 := [vi 0, vr 12 230]) (h1 := xhp s) 1 (fun _ _ _ _ => rfl) ?_
      refine xW.to (v := vi (zb (tm_noNumber w))) (zb_f (by simp only [hc1, Bool.true_or, Bool.or_true, Bool.false_or, Bool.or_false, Bool.true_and, Bool.and_true, Bool.false_and, Bool.and_false, Bool.not_true, Bool.not_false, cond_true, cond_false])) ?_
      exact J
    · have hc1 : (tm_noNumber w) = true := (zb_ne0.mp hc)
      refine xW.seg (pc1 := 13) (L1 := [(0, vr 12 230), (1, vi w)]) (st1 := [vi 1, vr 12 230]) (h1 := xhp s) 2 (fun _ _ _ _ => rfl) ?_
      refine xW.to (v := vi (zb (tm_noNumber w))) (zb_t (by simp only [hc1, Bool.true_or, Bool.or_true, Bool.false_or, Bool.or_false, Bool.true_and, Bool.and_true, Bool.false_and, Bool.and_false, Bool.not_true, Bool.not_false, cond_true, cond_false])) ?_
      exact J
  refine xW.br (c := (zb (tm_noNumber w)) ≤ 0) (pc1 := 27) (L1 := [(0, vr 12 230), (1, vi w)]) (st1 := []) (h1 := xhp (sI s 230 0 (zb (tm_noNumber w)))) (pc2 := 23) (L2 := [(0, vr 12 230), (1, vi w)]) (st2 := []) (h2 := xhp (sI s 230 0 (zb (tm_noNumber w)))) 4 (fun _ _ _ _ => rfl) (fun hc => ?_) (fun hc => ?_)
  · replace g := g.1 hc
    refine xW.side (c := vp_in w 640) (pc1 := 33) (L1 := [(0, vr 12 230), (1, vi w)]) (st1 := [vi (gI s 231 w.toNatClampNeg)]) (h1 := xhp (sI s 230 0 (zb (tm_noNumber w)))) 4 (fun _ _ _ _ => rfl) g.1 ?_
    replace g := g.2
    refine xW.side (c := vp_in w 192) (pc1 := 40) (L1 := [(0, vr 12 230), (1, vi w)]) (st1 := [vl (gJ s 232 w.toNatClampNeg), vl ((gI s 231 w.toNatClampNeg).toInt64)]) (h1 := xhp (sI s 230 0 (zb (tm_noNumber w)))) 5 (fun _ _ _ _ => rfl) g.1 ?_
    replace g := g.2
    exact xW.ret (v0 := some (vl (((gI s 231 w.toNatClampNeg).toInt64) * (gJ s 232 w.toNatClampNeg)))) (h1 := xhp (sI s 230 0 (zb (tm_noNumber w)))) 2 (fun _ _ _ _ => rfl) g
  · replace g := g.2 hc
    exact xW.ret (v0 := some (vl 0)) (h1 := xhp (sI s 230 0 (zb (tm_noNumber w)))) 3 (fun _ _ _ _ => rfl) g
noncomputable def tm_digits_d (s : xS) (w : Int32) : Int64 × xS := (if (zb (tm_noNumber w)) ≤ 0 then ((((gI s 231 w.toNatClampNeg).toInt64) * (gJ s 232 w.toNatClampNeg)), (sI s 230 0 (zb (tm_noNumber w)))) else (0, (sI s 230 0 (zb (tm_noNumber w)))))
noncomputable def tm_digits : xS → Int32 → Int64 × xS := Classical.choose (⟨tm_digits_d, rfl⟩ : ∃ f, f = tm_digits_d)
set_option maxRecDepth 100000 in
theorem tm_digits_eq : tm_digits = tm_digits_d := Classical.choose_spec (⟨tm_digits_d, rfl⟩ : ∃ f, f = tm_digits_d)
def tm_digits_ok (s : xS) (w : Int32) : Prop := ((zb (tm_noNumber w)) ≤ 0 → ((vp_in w 640) ∧ (vp_in w 192)))
set_option maxRecDepth 100000 in
theorem m90 {xs : Nat → Int32} {Ls : Nat} {Ψ : xO → xH → Prop} (s : xS) (w : Int32) (gq : tm_digits_ok s w) (h : Ψ (.inl (some (vl (tm_digits s w).1))) (xhp (tm_digits s w).2)) : xM (xX0 xs Ls) 90 [vr 12 230, vi w] (xhp s) Ψ := by
  rw [tm_digits_eq] at h
  unfold tm_digits_d at h
  unfold tm_digits_ok at gq
  exact xM.of (P := p90) rfl rfl rfl (b90_0 s w (⟨fun hc => by rw [if_pos hc] at h; replace gq := gq hc; exact ⟨gq.1, by replace gq := gq.2; exact ⟨gq, (by (try dsimp only at h); exact h)⟩⟩, fun hc => by rw [if_neg hc] at h; exact (by (try dsimp only at h); exact h)⟩))
/-! tm_exponent -/
theorem b91_0 {xs : Nat → Int32} {Ls : Nat} {Φ : Option xV → xH → Prop} (s : xS) (w : Int32) (g : (((zb (tm_noNumber w)) ≤ 0 → ((vp_in (23 + w) 640) ∧ Φ (some (vi (gI s 231 ((23 + w).toNatClampNeg)))) (xhp (sI s 230 0 (zb (tm_noNumber w)))))) ∧ (¬ ((zb (tm_noNumber w)) ≤ 0) → Φ (some (vi 0)) (xhp (sI s 230 0 (zb (tm_noNumber w))))))) : xW (xX0 xs Ls) p91 0 [(0, vr 12 230), (1, vi w)] [] (xhp s) Φ := by
  refine xW.call (y := 89) (as := [vi w]) (h0 := xhp s) (pc0 := 2) (len := 3) (L0 := [(0, vr 12 230), (1, vi w)]) (rest := [vr 12 230]) 3 (fun _ _ _ _ => rfl) (m89 _ _ ?_)
  show xW (xX0 xs Ls) p91 5 [(0, vr 12 230), (1, vi w)] [vi (zb (tm_noNumber w)), vr 12 230] (xhp s) Φ
  suffices J : xW (xX0 xs Ls) p91 13 [(0, vr 12 230), (1, vi w)] [vi (zb (tm_noNumber w)), vr 12 230] (xhp s) Φ by
    refine xW.br (c := (zb (tm_noNumber w)) = 0) (pc1 := 12) (L1 := [(0, vr 12 230), (1, vi w)]) (st1 := [vr 12 230]) (h1 := xhp s) (pc2 := 8) (L2 := [(0, vr 12 230), (1, vi w)]) (st2 := [vr 12 230]) (h2 := xhp s) 1 (fun _ _ _ _ => rfl) (fun hc => ?_) (fun hc => ?_)
    · have hc1 : (tm_noNumber w) = false := (zb_eq0.mp hc)
      refine xW.seg (pc1 := 13) (L1 := [(0, vr 12 230), (1, vi w)]) (st1 := [vi 0, vr 12 230]) (h1 := xhp s) 1 (fun _ _ _ _ => rfl) ?_
      refine xW.to (v := vi (zb (tm_noNumber w))) (zb_f (by simp only [hc1, Bool.true_or, Bool.or_true, Bool.false_or, Bool.or_false, Bool.true_and, Bool.and_true, Bool.false_and, Bool.and_false, Bool.not_true, Bool.not_false, cond_true, cond_false])) ?_
      exact J
    · have hc1 : (tm_noNumber w) = true := (zb_ne0.mp hc)
      refine xW.seg (pc1 := 13) (L1 := [(0, vr 12 230), (1, vi w)]) (st1 := [vi 1, vr 12 230]) (h1 := xhp s) 2 (fun _ _ _ _ => rfl) ?_
      refine xW.to (v := vi (zb (tm_noNumber w))) (zb_t (by simp only [hc1, Bool.true_or, Bool.or_true, Bool.false_or, Bool.or_false, Bool.true_and, Bool.and_true, Bool.false_and, Bool.and_false, Bool.not_true, Bool.not_false, cond_true, cond_false])) ?_
      exact J
  refine xW.br (c := (zb (tm_noNumber w)) ≤ 0) (pc1 := 27) (L1 := [(0, vr 12 230), (1, vi w)]) (st1 := []) (h1 := xhp (sI s 230 0 (zb (tm_noNumber w)))) (pc2 := 23) (L2 := [(0, vr 12 230), (1, vi w)]) (st2 := []) (h2 := xhp (sI s 230 0 (zb (tm_noNumber w)))) 4 (fun _ _ _ _ => rfl) (fun hc => ?_) (fun hc => ?_)
  · replace g := g.1 hc
    refine xW.side (c := vp_in (23 + w) 640) (pc1 := 36) (L1 := [(0, vr 12 230), (1, vi w)]) (st1 := [vi (gI s 231 ((23 + w).toNatClampNeg))]) (h1 := xhp (sI s 230 0 (zb (tm_noNumber w)))) 6 (fun _ _ _ _ => rfl) g.1 ?_
    replace g := g.2
    exact xW.ret (v0 := some (vi (gI s 231 ((23 + w).toNatClampNeg)))) (h1 := xhp (sI s 230 0 (zb (tm_noNumber w)))) 1 (fun _ _ _ _ => rfl) g
  · replace g := g.2 hc
    exact xW.ret (v0 := some (vi 0)) (h1 := xhp (sI s 230 0 (zb (tm_noNumber w)))) 3 (fun _ _ _ _ => rfl) g
noncomputable def tm_exponent_d (s : xS) (w : Int32) : Int32 × xS := (if (zb (tm_noNumber w)) ≤ 0 then ((gI s 231 ((23 + w).toNatClampNeg)), (sI s 230 0 (zb (tm_noNumber w)))) else (0, (sI s 230 0 (zb (tm_noNumber w)))))
noncomputable def tm_exponent : xS → Int32 → Int32 × xS := Classical.choose (⟨tm_exponent_d, rfl⟩ : ∃ f, f = tm_exponent_d)
set_option maxRecDepth 100000 in
theorem tm_exponent_eq : tm_exponent = tm_exponent_d := Classical.choose_spec (⟨tm_exponent_d, rfl⟩ : ∃ f, f = tm_exponent_d)
def tm_exponent_ok (s : xS) (w : Int32) : Prop := ((zb (tm_noNumber w)) ≤ 0 → (vp_in (23 + w) 640))
set_option maxRecDepth 100000 in
theorem m91 {xs : Nat → Int32} {Ls : Nat} {Ψ : xO → xH → Prop} (s : xS) (w : Int32) (gq : tm_exponent_ok s w) (h : Ψ (.inl (some (vi (tm_exponent s w).1))) (xhp (tm_exponent s w).2)) : xM (xX0 xs Ls) 91 [vr 12 230, vi w] (xhp s) Ψ := by
  rw [tm_exponent_eq] at h
  unfold tm_exponent_d at h
  unfold tm_exponent_ok at gq
  exact xM.of (P := p91) rfl rfl rfl (b91_0 s w (⟨fun hc => by rw [if_pos hc] at h; replace gq := gq hc; exact ⟨gq, (by (try dsimp only at h); exact h)⟩, fun hc => by rw [if_neg hc] at h; exact (by (try dsimp only at h); exact h)⟩))
/-! tm_mode -/
theorem b92_0 {xs : Nat → Int32} {Ls : Nat} {Φ : Option xV → xH → Prop} (s : xS) (w : Int32) (m : Int32) (g : ((¬ (zb ((decide (w < 0)) || ((decide (1 < w)) || ((decide (m < 0)) || (!decide (m ≤ 9)))))) = 0 → Φ none (xhp (sI s 230 0 (zb ((decide (w < 0)) || ((decide (1 < w)) || ((decide (m < 0)) || (!decide (m ≤ 9))))))))) ∧ ((zb ((decide (w < 0)) || ((decide (1 < w)) || ((decide (m < 0)) || (!decide (m ≤ 9)))))) = 0 → Φ none (xhp (sI (sI (sI s 230 0 (zb ((decide (w < 0)) || ((decide (1 < w)) || ((decide (m < 0)) || (!decide (m ≤ 9))))))) 230 17 w) 230 18 m))))) : xW (xX0 xs Ls) p92 0 [(0, vr 12 230), (1, vi w), (2, vi m)] [] (xhp s) Φ := by
  refine xW.seg (pc1 := 2) (L1 := [(0, vr 12 230), (1, vi w), (2, vi m)]) (st1 := [vi w, vr 12 230]) (h1 := xhp s) 2 (fun _ _ _ _ => rfl) ?_
  suffices J : xW (xX0 xs Ls) p92 25 [(0, vr 12 230), (1, vi w), (2, vi m)] [vi (zb ((decide (w < 0)) || ((decide (1 < w)) || ((decide (m < 0)) || (!decide (m ≤ 9)))))), vr 12 230] (xhp s) Φ by
    refine xW.br (c := w < 0) (pc1 := 20) (L1 := [(0, vr 12 230), (1, vi w), (2, vi m)]) (st1 := [vr 12 230]) (h1 := xhp s) (pc2 := 5) (L2 := [(0, vr 12 230), (1, vi w), (2, vi m)]) (st2 := [vr 12 230]) (h2 := xhp s) 1 (fun _ _ _ _ => rfl) (fun hc => ?_) (fun hc => ?_)
    · have hc1 : w < 0 := hc
      refine xW.seg (pc1 := 25) (L1 := [(0, vr 12 230), (1, vi w), (2, vi m)]) (st1 := [vi 1, vr 12 230]) (h1 := xhp s) 2 (fun _ _ _ _ => rfl) ?_
      refine xW.to (v := vi (zb ((decide (w < 0)) || ((decide (1 < w)) || ((decide (m < 0)) || (!decide (m ≤ 9))))))) (zb_t (by simp only [decide_eq_true hc1, Bool.true_or, Bool.or_true, Bool.false_or, Bool.or_false, Bool.true_and, Bool.and_true, Bool.false_and, Bool.and_false, Bool.not_true, Bool.not_false, cond_true, cond_false])) ?_
      exact J
    · have hc1 : ¬ (w < 0) := hc
      refine xW.br (c := 1 < w) (pc1 := 20) (L1 := [(0, vr 12 230), (1, vi w), (2, vi m)]) (st1 := [vr 12 230]) (h1 := xhp s) (pc2 := 10) (L2 := [(0, vr 12 230), (1, vi w), (2, vi m)]) (st2 := [vr 12 230]) (h2 := xhp s) 3 (fun _ _ _ _ => rfl) (fun hc => ?_) (fun hc => ?_)
      · have hc2 : 1 < w := hc
        refine xW.seg (pc1 := 25) (L1 := [(0, vr 12 230), (1, vi w), (2, vi m)]) (st1 := [vi 1, vr 12 230]) (h1 := xhp s) 2 (fun _ _ _ _ => rfl) ?_
        refine xW.to (v := vi (zb ((decide (w < 0)) || ((decide (1 < w)) || ((decide (m < 0)) || (!decide (m ≤ 9))))))) (zb_t (by simp only [decide_eq_false hc1, decide_eq_true hc2, Bool.true_or, Bool.or_true, Bool.false_or, Bool.or_false, Bool.true_and, Bool.and_true, Bool.false_and, Bool.and_false, Bool.not_true, Bool.not_false, cond_true, cond_false])) ?_
        exact J
      · have hc2 : ¬ (1 < w) := hc
        refine xW.br (c := m < 0) (pc1 := 20) (L1 := [(0, vr 12 230), (1, vi w), (2, vi m)]) (st1 := [vr 12 230]) (h1 := xhp s) (pc2 := 14) (L2 := [(0, vr 12 230), (1, vi w), (2, vi m)]) (st2 := [vr 12 230]) (h2 := xhp s) 2 (fun _ _ _ _ => rfl) (fun hc => ?_) (fun hc => ?_)
        · have hc3 : m < 0 := hc
          refine xW.seg (pc1 := 25) (L1 := [(0, vr 12 230), (1, vi w), (2, vi m)]) (st1 := [vi 1, vr 12 230]) (h1 := xhp s) 2 (fun _ _ _ _ => rfl) ?_
          refine xW.to (v := vi (zb ((decide (w < 0)) || ((decide (1 < w)) || ((decide (m < 0)) || (!decide (m ≤ 9))))))) (zb_t (by simp only [decide_eq_false hc1, decide_eq_false hc2, decide_eq_true hc3, Bool.true_or, Bool.or_true, Bool.false_or, Bool.or_false, Bool.true_and, Bool.and_true, Bool.false_and, Bool.and_false, Bool.not_true, Bool.not_false, cond_true, cond_false])) ?_
          exact J
        · have hc3 : ¬ (m < 0) := hc
          refine xW.br (c := m ≤ 9) (pc1 := 24) (L1 := [(0, vr 12 230), (1, vi w), (2, vi m)]) (st1 := [vr 12 230]) (h1 := xhp s) (pc2 := 20) (L2 := [(0, vr 12 230), (1, vi w), (2, vi m)]) (st2 := [vr 12 230]) (h2 := xhp s) 3 (fun _ _ _ _ => rfl) (fun hc => ?_) (fun hc => ?_)
          · have hc4 : m ≤ 9 := hc
            refine xW.seg (pc1 := 25) (L1 := [(0, vr 12 230), (1, vi w), (2, vi m)]) (st1 := [vi 0, vr 12 230]) (h1 := xhp s) 1 (fun _ _ _ _ => rfl) ?_
            refine xW.to (v := vi (zb ((decide (w < 0)) || ((decide (1 < w)) || ((decide (m < 0)) || (!decide (m ≤ 9))))))) (zb_f (by simp only [decide_eq_false hc1, decide_eq_false hc2, decide_eq_false hc3, decide_eq_true hc4, Bool.true_or, Bool.or_true, Bool.false_or, Bool.or_false, Bool.true_and, Bool.and_true, Bool.false_and, Bool.and_false, Bool.not_true, Bool.not_false, cond_true, cond_false])) ?_
            exact J
          · have hc4 : ¬ (m ≤ 9) := hc
            refine xW.seg (pc1 := 25) (L1 := [(0, vr 12 230), (1, vi w), (2, vi m)]) (st1 := [vi 1, vr 12 230]) (h1 := xhp s) 2 (fun _ _ _ _ => rfl) ?_
            refine xW.to (v := vi (zb ((decide (w < 0)) || ((decide (1 < w)) || ((decide (m < 0)) || (!decide (m ≤ 9))))))) (zb_t (by simp only [decide_eq_false hc1, decide_eq_false hc2, decide_eq_false hc3, decide_eq_false hc4, Bool.true_or, Bool.or_true, Bool.false_or, Bool.or_false, Bool.true_and, Bool.and_true, Bool.false_and, Bool.and_false, Bool.not_true, Bool.not_false, cond_true, cond_false])) ?_
            exact J
  refine xW.br (c := ¬ (zb ((decide (w < 0)) || ((decide (1 < w)) || ((decide (m < 0)) || (!decide (m ≤ 9)))))) = 0) (pc1 := 45) (L1 := [(0, vr 12 230), (1, vi w), (2, vi m)]) (st1 := []) (h1 := xhp (sI s 230 0 (zb ((decide (w < 0)) || ((decide (1 < w)) || ((decide (m < 0)) || (!decide (m ≤ 9)))))))) (pc2 := 35) (L2 := [(0, vr 12 230), (1, vi w), (2, vi m)]) (st2 := []) (h2 := xhp (sI s 230 0 (zb ((decide (w < 0)) || ((decide (1 < w)) || ((decide (m < 0)) || (!decide (m ≤ 9)))))))) 4 (fun _ _ _ _ => rfl) (fun hc => ?_) (fun hc => ?_)
  · replace g := g.1 hc
    exact xW.ret (v0 := none) (h1 := xhp (sI s 230 0 (zb ((decide (w < 0)) || ((decide (1 < w)) || ((decide (m < 0)) || (!decide (m ≤ 9)))))))) 1 (fun _ _ _ _ => rfl) g
  · replace g := g.2 (Decidable.not_not.mp hc)
    exact xW.ret (v0 := none) (h1 := xhp (sI (sI (sI s 230 0 (zb ((decide (w < 0)) || ((decide (1 < w)) || ((decide (m < 0)) || (!decide (m ≤ 9))))))) 230 17 w) 230 18 m)) 7 (fun _ _ _ _ => rfl) g
noncomputable def tm_mode_d (s : xS) (w : Int32) (m : Int32) : xS := (if ¬ (zb ((decide (w < 0)) || ((decide (1 < w)) || ((decide (m < 0)) || (!decide (m ≤ 9)))))) = 0 then (sI s 230 0 (zb ((decide (w < 0)) || ((decide (1 < w)) || ((decide (m < 0)) || (!decide (m ≤ 9))))))) else (sI (sI (sI s 230 0 (zb ((decide (w < 0)) || ((decide (1 < w)) || ((decide (m < 0)) || (!decide (m ≤ 9))))))) 230 17 w) 230 18 m))
noncomputable def tm_mode : xS → Int32 → Int32 → xS := Classical.choose (⟨tm_mode_d, rfl⟩ : ∃ f, f = tm_mode_d)
set_option maxRecDepth 100000 in
theorem tm_mode_eq : tm_mode = tm_mode_d := Classical.choose_spec (⟨tm_mode_d, rfl⟩ : ∃ f, f = tm_mode_d)
set_option maxRecDepth 100000 in
theorem m92 {xs : Nat → Int32} {Ls : Nat} {Ψ : xO → xH → Prop} (s : xS) (w : Int32) (m : Int32) (h : Ψ (.inl none) (xhp (tm_mode s w m))) : xM (xX0 xs Ls) 92 [vr 12 230, vi w, vi m] (xhp s) Ψ := by
  rw [tm_mode_eq] at h
  unfold tm_mode_d at h
  exact xM.of (P := p92) rfl rfl rfl (b92_0 s w m (⟨fun hc => by rw [if_pos hc] at h; exact h, fun hc => by rw [if_neg (fun z => z hc)] at h; exact h⟩))
/-! tm_store -/
theorem b93_33 {xs : Nat → Int32} {Ls : Nat} {Φ : Option xV → xH → Prop} (s : xS) (x1 : Int32) (x2 : Int64) (x4 : Int32) (g : ((8 ≤ x4 → Φ none (xhp s)) ∧ (¬ (8 ≤ x4) → ((¬ (gI s 230 0) = 0 → Φ none (xhp s)) ∧ ((gI s 230 0) = 0 → ((vp_in (x1 + x4) 100) ∧ xW (xX0 xs Ls) p93 33 [(0, vr 12 230), (1, vi x1), (2, vl x2), (4, vi (x4 + 1))] [] (xhp (sI s 233 ((x1 + x4).toNatClampNeg) (((x2 >>> ((8 * x4).toInt64 &&& 63)) &&& 255).toInt32))) Φ)))))) : xW (xX0 xs Ls) p93 33 [(0, vr 12 230), (1, vi x1), (2, vl x2), (4, vi x4)] [] (xhp s) Φ := by
  refine xW.br (c := 8 ≤ x4) (pc1 := 74) (L1 := [(0, vr 12 230), (1, vi x1), (2, vl x2), (4, vi x4)]) (st1 := []) (h1 := xhp s) (pc2 := 40) (L2 := [(0, vr 12 230), (1, vi x1), (2, vl x2), (4, vi x4)]) (st2 := []) (h2 := xhp s) 3 (fun _ _ _ _ => rfl) (fun hc => ?_) (fun hc => ?_)
  · replace g := g.1 hc
    exact xW.ret (v0 := none) (h1 := xhp s) 1 (fun _ _ _ _ => rfl) g
  · replace g := g.2 hc
    refine xW.br (c := ¬ (gI s 230 0) = 0) (pc1 := 74) (L1 := [(0, vr 12 230), (1, vi x1), (2, vl x2), (4, vi x4)]) (st1 := []) (h1 := xhp s) (pc2 := 47) (L2 := [(0, vr 12 230), (1, vi x1), (2, vl x2), (4, vi x4)]) (st2 := []) (h2 := xhp s) 3 (fun _ _ _ _ => rfl) (fun hc => ?_) (fun hc => ?_)
    · replace g := g.1 hc
      exact xW.ret (v0 := none) (h1 := xhp s) 1 (fun _ _ _ _ => rfl) g
    · replace g := g.2 (Decidable.not_not.mp hc)
      refine xW.side (c := vp_in (x1 + x4) 100) (pc1 := 68) (L1 := [(0, vr 12 230), (1, vi x1), (2, vl x2), (4, vi x4)]) (st1 := []) (h1 := xhp (sI s 233 ((x1 + x4).toNatClampNeg) (((x2 >>> ((8 * x4).toInt64 &&& 63)) &&& 255).toInt32))) 14 (fun _ _ _ _ => rfl) g.1 ?_
      replace g := g.2
      refine xW.seg (pc1 := 33) (L1 := [(4, vi (x4 + 1)), (0, vr 12 230), (1, vi x1), (2, vl x2)]) (st1 := []) (h1 := xhp (sI s 233 ((x1 + x4).toNatClampNeg) (((x2 >>> ((8 * x4).toInt64 &&& 63)) &&& 255).toInt32))) 2 (fun _ _ _ _ => rfl) ?_
      exact xW.locs (L := [(0, vr 12 230), (1, vi x1), (2, vl x2), (4, vi (x4 + 1))]) ⟨rfl, rfl, rfl, rfl, trivial⟩ rfl g
noncomputable def tm_store_33 : Nat → xS → Int32 → Int64 → Int32 → xS
  | 0, s, _, _, _ => s
  | n + 1, s, x1, x2, x4 => (if 8 ≤ x4 then s else (if ¬ (gI s 230 0) = 0 then s else (tm_store_33 n (sI s 233 ((x1 + x4).toNatClampNeg) (((x2 >>> ((8 * x4).toInt64 &&& 63)) &&& 255).toInt32)) x1 x2 (x4 + 1))))
def tm_store_33_ok : Nat → xS → Int32 → Int64 → Int32 → Prop
  | 0, _, _, _, _ => False
  | n + 1, s, x1, x2, x4 => (¬ (8 ≤ x4) → ((gI s 230 0) = 0 → ((vp_in (x1 + x4) 100) ∧ (tm_store_33_ok n (sI s 233 ((x1 + x4).toNatClampNeg) (((x2 >>> ((8 * x4).toInt64 &&& 63)) &&& 255).toInt32)) x1 x2 (x4 + 1)))))
set_option maxRecDepth 100000 in
theorem n93_33 {xs : Nat → Int32} {Ls : Nat} {Φ : Option xV → xH → Prop} : ∀ (n : Nat) (s : xS) (x1 : Int32) (x2 : Int64) (x4 : Int32), tm_store_33_ok n s x1 x2 x4 → Φ none (xhp (tm_store_33 n s x1 x2 x4)) → xW (xX0 xs Ls) p93 33 [(0, vr 12 230), (1, vi x1), (2, vl x2), (4, vi x4)] [] (xhp s) Φ := by
  intro n
  induction n with
  | zero => intro s _ _ _ gq; exact gq.elim
  | succ n ih =>
    intro s x1 x2 x4 gq h
    unfold tm_store_33_ok at gq
    unfold tm_store_33 at h
    exact b93_33 s x1 x2 x4 (⟨fun hc => by rw [if_pos hc] at h; exact h, fun hc => by rw [if_neg hc] at h; replace gq := gq hc; exact ⟨fun hc => by rw [if_pos hc] at h; exact h, fun hc => by rw [if_neg (fun z => z hc)] at h; replace gq := gq hc; exact ⟨gq.1, by replace gq := gq.2; exact ih _ _ _ _ gq h⟩⟩⟩)
set_option maxRecDepth 100000 in
theorem b93_0 {xs : Nat → Int32} {Ls : Nat} {Φ : Option xV → xH → Prop} (s : xS) (p : Int32) (b : Int64) (g : xW (xX0 xs Ls) p93 33 [(0, vr 12 230), (1, vi p), (2, vl b), (4, vi 0)] [] (xhp (sI s 230 0 (if (gI s 230 9) ≤ 0 then (if p < 0 then (2 : Int32) else (if p ≤ 92 then (0 : Int32) else 2)) else 1))) Φ) : xW (xX0 xs Ls) p93 0 [(0, vr 12 230), (1, vi p), (2, vl b)] [] (xhp s) Φ := by
  refine xW.seg (pc1 := 5) (L1 := [(0, vr 12 230), (1, vi p), (2, vl b)]) (st1 := [vi (gI s 230 9), vr 12 230]) (h1 := xhp s) 3 (fun _ _ _ _ => rfl) ?_
  suffices J : xW (xX0 xs Ls) p93 27 [(0, vr 12 230), (1, vi p), (2, vl b)] [vi (if (gI s 230 9) ≤ 0 then (if p < 0 then (2 : Int32) else (if p ≤ 92 then (0 : Int32) else 2)) else 1), vr 12 230] (xhp s) Φ by
    refine xW.br (c := (gI s 230 9) ≤ 0) (pc1 := 12) (L1 := [(0, vr 12 230), (1, vi p), (2, vl b)]) (st1 := [vr 12 230]) (h1 := xhp s) (pc2 := 8) (L2 := [(0, vr 12 230), (1, vi p), (2, vl b)]) (st2 := [vr 12 230]) (h2 := xhp s) 1 (fun _ _ _ _ => rfl) (fun hc => ?_) (fun hc => ?_)
    · have hc1 : (gI s 230 9) ≤ 0 := hc
      refine xW.br (c := p < 0) (pc1 := 22) (L1 := [(0, vr 12 230), (1, vi p), (2, vl b)]) (st1 := [vr 12 230]) (h1 := xhp s) (pc2 := 16) (L2 := [(0, vr 12 230), (1, vi p), (2, vl b)]) (st2 := [vr 12 230]) (h2 := xhp s) 2 (fun _ _ _ _ => rfl) (fun hc => ?_) (fun hc => ?_)
      · have hc2 : p < 0 := hc
        refine xW.seg (pc1 := 27) (L1 := [(0, vr 12 230), (1, vi p), (2, vl b)]) (st1 := [vi 2, vr 12 230]) (h1 := xhp s) 2 (fun _ _ _ _ => rfl) ?_
        refine xW.to (v := vi (if (gI s 230 9) ≤ 0 then (if p < 0 then (2 : Int32) else (if p ≤ 92 then (0 : Int32) else 2)) else 1)) ((congrArg vi ((if_pos hc1).trans (if_pos hc2))).symm) ?_
        exact J
      · have hc2 : ¬ (p < 0) := hc
        refine xW.br (c := p ≤ 92) (pc1 := 26) (L1 := [(0, vr 12 230), (1, vi p), (2, vl b)]) (st1 := [vr 12 230]) (h1 := xhp s) (pc2 := 22) (L2 := [(0, vr 12 230), (1, vi p), (2, vl b)]) (st2 := [vr 12 230]) (h2 := xhp s) 3 (fun _ _ _ _ => rfl) (fun hc => ?_) (fun hc => ?_)
        · have hc3 : p ≤ 92 := hc
          refine xW.seg (pc1 := 27) (L1 := [(0, vr 12 230), (1, vi p), (2, vl b)]) (st1 := [vi 0, vr 12 230]) (h1 := xhp s) 1 (fun _ _ _ _ => rfl) ?_
          refine xW.to (v := vi (if (gI s 230 9) ≤ 0 then (if p < 0 then (2 : Int32) else (if p ≤ 92 then (0 : Int32) else 2)) else 1)) ((congrArg vi ((if_pos hc1).trans ((if_neg hc2).trans (if_pos hc3)))).symm) ?_
          exact J
        · have hc3 : ¬ (p ≤ 92) := hc
          refine xW.seg (pc1 := 27) (L1 := [(0, vr 12 230), (1, vi p), (2, vl b)]) (st1 := [vi 2, vr 12 230]) (h1 := xhp s) 2 (fun _ _ _ _ => rfl) ?_
          refine xW.to (v := vi (if (gI s 230 9) ≤ 0 then (if p < 0 then (2 : Int32) else (if p ≤ 92 then (0 : Int32) else 2)) else 1)) ((congrArg vi ((if_pos hc1).trans ((if_neg hc2).trans (if_neg hc3)))).symm) ?_
          exact J
    · have hc1 : ¬ ((gI s 230 9) ≤ 0) := hc
      refine xW.seg (pc1 := 27) (L1 := [(0, vr 12 230), (1, vi p), (2, vl b)]) (st1 := [vi 1, vr 12 230]) (h1 := xhp s) 2 (fun _ _ _ _ => rfl) ?_
      refine xW.to (v := vi (if (gI s 230 9) ≤ 0 then (if p < 0 then (2 : Int32) else (if p ≤ 92 then (0 : Int32) else 2)) else 1)) ((congrArg vi (if_neg hc1)).symm) ?_
      exact J
  refine xW.seg (pc1 := 33) (L1 := [(4, vi 0), (0, vr 12 230), (1, vi p), (2, vl b)]) (st1 := []) (h1 := xhp (sI s 230 0 (if (gI s 230 9) ≤ 0 then (if p < 0 then (2 : Int32) else (if p ≤ 92 then (0 : Int32) else 2)) else 1))) 3 (fun _ _ _ _ => rfl) ?_
  exact xW.locs (L := [(0, vr 12 230), (1, vi p), (2, vl b), (4, vi 0)]) ⟨rfl, rfl, rfl, rfl, trivial⟩ rfl g
noncomputable def tm_store_d (s : xS) (p : Int32) (b : Int64) : xS := (tm_store_33 xfu (sI s 230 0 (if (gI s 230 9) ≤ 0 then (if p < 0 then (2 : Int32) else (if p ≤ 92 then (0 : Int32) else 2)) else 1)) p b 0)
noncomputable def tm_store : xS → Int32 → Int64 → xS := Classical.choose (⟨tm_store_d, rfl⟩ : ∃ f, f = tm_store_d)
set_option maxRecDepth 100000 in
theorem tm_store_eq : tm_store = tm_store_d := Classical.choose_spec (⟨tm_store_d, rfl⟩ : ∃ f, f = tm_store_d)
def tm_store_ok (s : xS) (p : Int32) (b : Int64) : Prop := (tm_store_33_ok xfu (sI s 230 0 (if (gI s 230 9) ≤ 0 then (if p < 0 then (2 : Int32) else (if p ≤ 92 then (0 : Int32) else 2)) else 1)) p b 0)
set_option maxRecDepth 100000 in
theorem m93 {xs : Nat → Int32} {Ls : Nat} {Ψ : xO → xH → Prop} (s : xS) (p : Int32) (b : Int64) (gq : tm_store_ok s p b) (h : Ψ (.inl none) (xhp (tm_store s p b))) : xM (xX0 xs Ls) 93 [vr 12 230, vi p, vl b] (xhp s) Ψ := by
  rw [tm_store_eq] at h
  unfold tm_store_d at h
  unfold tm_store_ok at gq
  exact xM.of (P := p93) rfl rfl rfl (b93_0 s p b (n93_33 _ _ _ _ _ gq h))
/-! tm_code -/
theorem b94_0 {xs : Nat → Int32} {Ls : Nat} {Φ : Option xV → xH → Prop} (s : xS) (p : Int32) (g : (((zb ((decide (p < 0)) || (!decide (p ≤ 99)))) ≤ 0 → ((vp_in p 100) ∧ Φ (some (vi (gI s 233 p.toNatClampNeg))) (xhp (sI s 230 0 (zb ((decide (p < 0)) || (!decide (p ≤ 99)))))))) ∧ (¬ ((zb ((decide (p < 0)) || (!decide (p ≤ 99)))) ≤ 0) → Φ (some (vi 0)) (xhp (sI s 230 0 (zb ((decide (p < 0)) || (!decide (p ≤ 99))))))))) : xW (xX0 xs Ls) p94 0 [(0, vr 12 230), (1, vi p)] [] (xhp s) Φ := by
  refine xW.seg (pc1 := 2) (L1 := [(0, vr 12 230), (1, vi p)]) (st1 := [vi p, vr 12 230]) (h1 := xhp s) 2 (fun _ _ _ _ => rfl) ?_
  suffices J : xW (xX0 xs Ls) p94 16 [(0, vr 12 230), (1, vi p)] [vi (zb ((decide (p < 0)) || (!decide (p ≤ 99)))), vr 12 230] (xhp s) Φ by
    refine xW.br (c := p < 0) (pc1 := 11) (L1 := [(0, vr 12 230), (1, vi p)]) (st1 := [vr 12 230]) (h1 := xhp s) (pc2 := 5) (L2 := [(0, vr 12 230), (1, vi p)]) (st2 := [vr 12 230]) (h2 := xhp s) 1 (fun _ _ _ _ => rfl) (fun hc => ?_) (fun hc => ?_)
    · have hc1 : p < 0 := hc
      refine xW.seg (pc1 := 16) (L1 := [(0, vr 12 230), (1, vi p)]) (st1 := [vi 1, vr 12 230]) (h1 := xhp s) 2 (fun _ _ _ _ => rfl) ?_
      refine xW.to (v := vi (zb ((decide (p < 0)) || (!decide (p ≤ 99))))) (zb_t (by simp only [decide_eq_true hc1, Bool.true_or, Bool.or_true, Bool.false_or, Bool.or_false, Bool.true_and, Bool.and_true, Bool.false_and, Bool.and_false, Bool.not_true, Bool.not_false, cond_true, cond_false])) ?_
      exact J
    · have hc1 : ¬ (p < 0) := hc
      refine xW.br (c := p ≤ 99) (pc1 := 15) (L1 := [(0, vr 12 230), (1, vi p)]) (st1 := [vr 12 230]) (h1 := xhp s) (pc2 := 11) (L2 := [(0, vr 12 230), (1, vi p)]) (st2 := [vr 12 230]) (h2 := xhp s) 3 (fun _ _ _ _ => rfl) (fun hc => ?_) (fun hc => ?_)
      · have hc2 : p ≤ 99 := hc
        refine xW.seg (pc1 := 16) (L1 := [(0, vr 12 230), (1, vi p)]) (st1 := [vi 0, vr 12 230]) (h1 := xhp s) 1 (fun _ _ _ _ => rfl) ?_
        refine xW.to (v := vi (zb ((decide (p < 0)) || (!decide (p ≤ 99))))) (zb_f (by simp only [decide_eq_false hc1, decide_eq_true hc2, Bool.true_or, Bool.or_true, Bool.false_or, Bool.or_false, Bool.true_and, Bool.and_true, Bool.false_and, Bool.and_false, Bool.not_true, Bool.not_false, cond_true, cond_false])) ?_
        exact J
      · have hc2 : ¬ (p ≤ 99) := hc
        refine xW.seg (pc1 := 16) (L1 := [(0, vr 12 230), (1, vi p)]) (st1 := [vi 1, vr 12 230]) (h1 := xhp s) 2 (fun _ _ _ _ => rfl) ?_
        refine xW.to (v := vi (zb ((decide (p < 0)) || (!decide (p ≤ 99))))) (zb_t (by simp only [decide_eq_false hc1, decide_eq_false hc2, Bool.true_or, Bool.or_true, Bool.false_or, Bool.or_false, Bool.true_and, Bool.and_true, Bool.false_and, Bool.and_false, Bool.not_true, Bool.not_false, cond_true, cond_false])) ?_
        exact J
  refine xW.br (c := (zb ((decide (p < 0)) || (!decide (p ≤ 99)))) ≤ 0) (pc1 := 30) (L1 := [(0, vr 12 230), (1, vi p)]) (st1 := []) (h1 := xhp (sI s 230 0 (zb ((decide (p < 0)) || (!decide (p ≤ 99)))))) (pc2 := 26) (L2 := [(0, vr 12 230), (1, vi p)]) (st2 := []) (h2 := xhp (sI s 230 0 (zb ((decide (p < 0)) || (!decide (p ≤ 99)))))) 4 (fun _ _ _ _ => rfl) (fun hc => ?_) (fun hc => ?_)
  · replace g := g.1 hc
    refine xW.side (c := vp_in p 100) (pc1 := 36) (L1 := [(0, vr 12 230), (1, vi p)]) (st1 := [vi (gI s 233 p.toNatClampNeg)]) (h1 := xhp (sI s 230 0 (zb ((decide (p < 0)) || (!decide (p ≤ 99)))))) 4 (fun _ _ _ _ => rfl) g.1 ?_
    replace g := g.2
    exact xW.ret (v0 := some (vi (gI s 233 p.toNatClampNeg))) (h1 := xhp (sI s 230 0 (zb ((decide (p < 0)) || (!decide (p ≤ 99)))))) 1 (fun _ _ _ _ => rfl) g
  · replace g := g.2 hc
    exact xW.ret (v0 := some (vi 0)) (h1 := xhp (sI s 230 0 (zb ((decide (p < 0)) || (!decide (p ≤ 99)))))) 3 (fun _ _ _ _ => rfl) g
noncomputable def tm_code_d (s : xS) (p : Int32) : Int32 × xS := (if (zb ((decide (p < 0)) || (!decide (p ≤ 99)))) ≤ 0 then ((gI s 233 p.toNatClampNeg), (sI s 230 0 (zb ((decide (p < 0)) || (!decide (p ≤ 99)))))) else (0, (sI s 230 0 (zb ((decide (p < 0)) || (!decide (p ≤ 99)))))))
noncomputable def tm_code : xS → Int32 → Int32 × xS := Classical.choose (⟨tm_code_d, rfl⟩ : ∃ f, f = tm_code_d)
set_option maxRecDepth 100000 in
theorem tm_code_eq : tm_code = tm_code_d := Classical.choose_spec (⟨tm_code_d, rfl⟩ : ∃ f, f = tm_code_d)
def tm_code_ok (s : xS) (p : Int32) : Prop := ((zb ((decide (p < 0)) || (!decide (p ≤ 99)))) ≤ 0 → (vp_in p 100))
set_option maxRecDepth 100000 in
theorem m94 {xs : Nat → Int32} {Ls : Nat} {Ψ : xO → xH → Prop} (s : xS) (p : Int32) (gq : tm_code_ok s p) (h : Ψ (.inl (some (vi (tm_code s p).1))) (xhp (tm_code s p).2)) : xM (xX0 xs Ls) 94 [vr 12 230, vi p] (xhp s) Ψ := by
  rw [tm_code_eq] at h
  unfold tm_code_d at h
  unfold tm_code_ok at gq
  exact xM.of (P := p94) rfl rfl rfl (b94_0 s p (⟨fun hc => by rw [if_pos hc] at h; replace gq := gq hc; exact ⟨gq, (by (try dsimp only at h); exact h)⟩, fun hc => by rw [if_neg hc] at h; exact (by (try dsimp only at h); exact h)⟩))
/-! tm_state -/
theorem b95_0 {xs : Nat → Int32} {Ls : Nat} {Φ : Option xV → xH → Prop} (s : xS) (w : Int32) (g : ((w = 0 → Φ (some (vi (gI s 230 4))) (xhp (sI s 230 0 0))) ∧ (w = 1 → Φ (some (vi (gI s 230 5))) (xhp (sI s 230 0 0))) ∧ (w = 2 → Φ (some (vi (gI s 230 9))) (xhp (sI s 230 0 0))) ∧ (w = 3 → Φ (some (vi (if (gI s 230 9) = 0 then ((-1) : Int32) else (if (gI s 230 10) ≤ 100 then (gI s 230 10) else 100)))) (xhp (sI s 230 0 0))) ∧ (w = 4 → Φ (some (vi (if (gI s 230 9) ≤ 0 then (0 : Int32) else (gI s 230 8)))) (xhp (sI s 230 0 0))) ∧ (w = 5 → Φ (some (vi (gI s 231 54))) (xhp (sI s 230 0 0))) ∧ (w = 6 → Φ (some (vi (gI s 231 55))) (xhp (sI s 230 0 0))) ∧ (w = 7 → Φ (some (vi (gI s 231 57))) (xhp (sI s 230 0 0))) ∧ (w = 8 → Φ (some (vi (gI s 231 56))) (xhp (sI s 230 0 0))) ∧ (w = 9 → Φ (some (vi (gI s 230 3))) (xhp (sI s 230 0 0))) ∧ (w = 10 → Φ (some (vi (gI s 230 13))) (xhp (sI s 230 0 0))) ∧ (¬ w = 0 → ¬ w = 1 → ¬ w = 2 → ¬ w = 3 → ¬ w = 4 → ¬ w = 5 → ¬ w = 6 → ¬ w = 7 → ¬ w = 8 → ¬ w = 9 → ¬ w = 10 → Φ (some (vi (-1))) (xhp (sI s 230 0 0))))) : xW (xX0 xs Ls) p95 0 [(0, vr 12 230), (1, vi w)] [] (xhp s) Φ := by
  by_cases hx0 : w = 0
  · refine xW.sw (x := w) (lo := 0) (hi := 10) (offs := #[58, 63, 68, 73, 103, 119, 127, 135, 143, 151, 156]) (dflt := 161) (pc0 := 6) (pc1 := 64) (L1 := [(0, vr 12 230), (1, vi w)]) (st1 := []) (h1 := xhp (sI s 230 0 0)) (off := 58) 5 (fun _ _ _ _ => rfl) (by rw [hx0]; rfl) rfl ?_
    replace g := g.1 hx0
    exact xW.ret (v0 := some (vi (gI s 230 4))) (h1 := xhp (sI s 230 0 0)) 3 (fun _ _ _ _ => rfl) g
  replace g := g.2
  by_cases hx1 : w = 1
  · refine xW.sw (x := w) (lo := 0) (hi := 10) (offs := #[58, 63, 68, 73, 103, 119, 127, 135, 143, 151, 156]) (dflt := 161) (pc0 := 6) (pc1 := 69) (L1 := [(0, vr 12 230), (1, vi w)]) (st1 := []) (h1 := xhp (sI s 230 0 0)) (off := 63) 5 (fun _ _ _ _ => rfl) (by rw [hx1]; rfl) rfl ?_
    replace g := g.1 hx1
    exact xW.ret (v0 := some (vi (gI s 230 5))) (h1 := xhp (sI s 230 0 0)) 3 (fun _ _ _ _ => rfl) g
  replace g := g.2
  by_cases hx2 : w = 2
  · refine xW.sw (x := w) (lo := 0) (hi := 10) (offs := #[58, 63, 68, 73, 103, 119, 127, 135, 143, 151, 156]) (dflt := 161) (pc0 := 6) (pc1 := 74) (L1 := [(0, vr 12 230), (1, vi w)]) (st1 := []) (h1 := xhp (sI s 230 0 0)) (off := 68) 5 (fun _ _ _ _ => rfl) (by rw [hx2]; rfl) rfl ?_
    replace g := g.1 hx2
    exact xW.ret (v0 := some (vi (gI s 230 9))) (h1 := xhp (sI s 230 0 0)) 3 (fun _ _ _ _ => rfl) g
  replace g := g.2
  by_cases hx3 : w = 3
  · refine xW.sw (x := w) (lo := 0) (hi := 10) (offs := #[58, 63, 68, 73, 103, 119, 127, 135, 143, 151, 156]) (dflt := 161) (pc0 := 6) (pc1 := 79) (L1 := [(0, vr 12 230), (1, vi w)]) (st1 := []) (h1 := xhp (sI s 230 0 0)) (off := 73) 5 (fun _ _ _ _ => rfl) (by rw [hx3]; rfl) rfl ?_
    replace g := g.1 hx3
    refine xW.seg (pc1 := 83) (L1 := [(0, vr 12 230), (1, vi w)]) (st1 := [vi (gI s 230 9)]) (h1 := xhp (sI s 230 0 0)) 2 (fun _ _ _ _ => rfl) ?_
    suffices J : xW (xX0 xs Ls) p95 108 [(0, vr 12 230), (1, vi w)] [vi (if (gI s 230 9) = 0 then ((-1) : Int32) else (if (gI s 230 10) ≤ 100 then (gI s 230 10) else 100))] (xhp (sI s 230 0 0)) Φ by
      refine xW.br (c := ¬ (gI s 230 9) = 0) (pc1 := 90) (L1 := [(0, vr 12 230), (1, vi w)]) (st1 := []) (h1 := xhp (sI s 230 0 0)) (pc2 := 86) (L2 := [(0, vr 12 230), (1, vi w)]) (st2 := []) (h2 := xhp (sI s 230 0 0)) 1 (fun _ _ _ _ => rfl) (fun hc => ?_) (fun hc => ?_)
      · have hc1 : ¬ (gI s 230 9) = 0 := hc
        refine xW.br (c := (gI s 230 10) ≤ 100) (pc1 := 104) (L1 := [(0, vr 12 230), (1, vi w)]) (st1 := []) (h1 := xhp (sI s 230 0 0)) (pc2 := 99) (L2 := [(0, vr 12 230), (1, vi w)]) (st2 := []) (h2 := xhp (sI s 230 0 0)) 4 (fun _ _ _ _ => rfl) (fun hc => ?_) (fun hc => ?_)
        · have hc2 : (gI s 230 10) ≤ 100 := hc
          refine xW.seg (pc1 := 108) (L1 := [(0, vr 12 230), (1, vi w)]) (st1 := [vi (gI s 230 10)]) (h1 := xhp (sI s 230 0 0)) 2 (fun _ _ _ _ => rfl) ?_
          refine xW.to (v := vi (if (gI s 230 9) = 0 then ((-1) : Int32) else (if (gI s 230 10) ≤ 100 then (gI s 230 10) else 100))) ((congrArg vi ((if_neg hc1).trans (if_pos hc2))).symm) ?_
          exact J
        · have hc2 : ¬ ((gI s 230 10) ≤ 100) := hc
          refine xW.seg (pc1 := 108) (L1 := [(0, vr 12 230), (1, vi w)]) (st1 := [vi 100]) (h1 := xhp (sI s 230 0 0)) 2 (fun _ _ _ _ => rfl) ?_
          refine xW.to (v := vi (if (gI s 230 9) = 0 then ((-1) : Int32) else (if (gI s 230 10) ≤ 100 then (gI s 230 10) else 100))) ((congrArg vi ((if_neg hc1).trans (if_neg hc2))).symm) ?_
          exact J
      · have hc1 : (gI s 230 9) = 0 := (Decidable.not_not.mp hc)
        refine xW.seg (pc1 := 108) (L1 := [(0, vr 12 230), (1, vi w)]) (st1 := [vi (-1)]) (h1 := xhp (sI s 230 0 0)) 2 (fun _ _ _ _ => rfl) ?_
        refine xW.to (v := vi (if (gI s 230 9) = 0 then ((-1) : Int32) else (if (gI s 230 10) ≤ 100 then (gI s 230 10) else 100))) ((congrArg vi (if_pos hc1)).symm) ?_
        exact J
    exact xW.ret (v0 := some (vi (if (gI s 230 9) = 0 then ((-1) : Int32) else (if (gI s 230 10) ≤ 100 then (gI s 230 10) else 100)))) (h1 := xhp (sI s 230 0 0)) 1 (fun _ _ _ _ => rfl) g
  replace g := g.2
  by_cases hx4 : w = 4
  · refine xW.sw (x := w) (lo := 0) (hi := 10) (offs := #[58, 63, 68, 73, 103, 119, 127, 135, 143, 151, 156]) (dflt := 161) (pc0 := 6) (pc1 := 109) (L1 := [(0, vr 12 230), (1, vi w)]) (st1 := []) (h1 := xhp (sI s 230 0 0)) (off := 103) 5 (fun _ _ _ _ => rfl) (by rw [hx4]; rfl) rfl ?_
    replace g := g.1 hx4
    refine xW.seg (pc1 := 113) (L1 := [(0, vr 12 230), (1, vi w)]) (st1 := [vi (gI s 230 9)]) (h1 := xhp (sI s 230 0 0)) 2 (fun _ _ _ _ => rfl) ?_
    suffices J : xW (xX0 xs Ls) p95 124 [(0, vr 12 230), (1, vi w)] [vi (if (gI s 230 9) ≤ 0 then (0 : Int32) else (gI s 230 8))] (xhp (sI s 230 0 0)) Φ by
      refine xW.br (c := (gI s 230 9) ≤ 0) (pc1 := 123) (L1 := [(0, vr 12 230), (1, vi w)]) (st1 := []) (h1 := xhp (sI s 230 0 0)) (pc2 := 116) (L2 := [(0, vr 12 230), (1, vi w)]) (st2 := []) (h2 := xhp (sI s 230 0 0)) 1 (fun _ _ _ _ => rfl) (fun hc => ?_) (fun hc => ?_)
      · have hc3 : (gI s 230 9) ≤ 0 := hc
        refine xW.seg (pc1 := 124) (L1 := [(0, vr 12 230), (1, vi w)]) (st1 := [vi 0]) (h1 := xhp (sI s 230 0 0)) 1 (fun _ _ _ _ => rfl) ?_
        refine xW.to (v := vi (if (gI s 230 9) ≤ 0 then (0 : Int32) else (gI s 230 8))) ((congrArg vi (if_pos hc3)).symm) ?_
        exact J
      · have hc3 : ¬ ((gI s 230 9) ≤ 0) := hc
        refine xW.seg (pc1 := 124) (L1 := [(0, vr 12 230), (1, vi w)]) (st1 := [vi (gI s 230 8)]) (h1 := xhp (sI s 230 0 0)) 3 (fun _ _ _ _ => rfl) ?_
        refine xW.to (v := vi (if (gI s 230 9) ≤ 0 then (0 : Int32) else (gI s 230 8))) ((congrArg vi (if_neg hc3)).symm) ?_
        exact J
    exact xW.ret (v0 := some (vi (if (gI s 230 9) ≤ 0 then (0 : Int32) else (gI s 230 8)))) (h1 := xhp (sI s 230 0 0)) 1 (fun _ _ _ _ => rfl) g
  replace g := g.2
  by_cases hx5 : w = 5
  · refine xW.sw (x := w) (lo := 0) (hi := 10) (offs := #[58, 63, 68, 73, 103, 119, 127, 135, 143, 151, 156]) (dflt := 161) (pc0 := 6) (pc1 := 125) (L1 := [(0, vr 12 230), (1, vi w)]) (st1 := []) (h1 := xhp (sI s 230 0 0)) (off := 119) 5 (fun _ _ _ _ => rfl) (by rw [hx5]; rfl) rfl ?_
    replace g := g.1 hx5
    refine xW.side (c := vp_in 54 640) (pc1 := 132) (L1 := [(0, vr 12 230), (1, vi w)]) (st1 := [vi (gI s 231 54)]) (h1 := xhp (sI s 230 0 0)) 4 (fun _ _ _ _ => rfl) (vp_lit rfl) ?_
    exact xW.ret (v0 := some (vi (gI s 231 54))) (h1 := xhp (sI s 230 0 0)) 1 (fun _ _ _ _ => rfl) g
  replace g := g.2
  by_cases hx6 : w = 6
  · refine xW.sw (x := w) (lo := 0) (hi := 10) (offs := #[58, 63, 68, 73, 103, 119, 127, 135, 143, 151, 156]) (dflt := 161) (pc0 := 6) (pc1 := 133) (L1 := [(0, vr 12 230), (1, vi w)]) (st1 := []) (h1 := xhp (sI s 230 0 0)) (off := 127) 5 (fun _ _ _ _ => rfl) (by rw [hx6]; rfl) rfl ?_
    replace g := g.1 hx6
    refine xW.side (c := vp_in 55 640) (pc1 := 140) (L1 := [(0, vr 12 230), (1, vi w)]) (st1 := [vi (gI s 231 55)]) (h1 := xhp (sI s 230 0 0)) 4 (fun _ _ _ _ => rfl) (vp_lit rfl) ?_
    exact xW.ret (v0 := some (vi (gI s 231 55))) (h1 := xhp (sI s 230 0 0)) 1 (fun _ _ _ _ => rfl) g
  replace g := g.2
  by_cases hx7 : w = 7
  · refine xW.sw (x := w) (lo := 0) (hi := 10) (offs := #[58, 63, 68, 73, 103, 119, 127, 135, 143, 151, 156]) (dflt := 161) (pc0 := 6) (pc1 := 141) (L1 := [(0, vr 12 230), (1, vi w)]) (st1 := []) (h1 := xhp (sI s 230 0 0)) (off := 135) 5 (fun _ _ _ _ => rfl) (by rw [hx7]; rfl) rfl ?_
    replace g := g.1 hx7
    refine xW.side (c := vp_in 57 640) (pc1 := 148) (L1 := [(0, vr 12 230), (1, vi w)]) (st1 := [vi (gI s 231 57)]) (h1 := xhp (sI s 230 0 0)) 4 (fun _ _ _ _ => rfl) (vp_lit rfl) ?_
    exact xW.ret (v0 := some (vi (gI s 231 57))) (h1 := xhp (sI s 230 0 0)) 1 (fun _ _ _ _ => rfl) g
  replace g := g.2
  by_cases hx8 : w = 8
  · refine xW.sw (x := w) (lo := 0) (hi := 10) (offs := #[58, 63, 68, 73, 103, 119, 127, 135, 143, 151, 156]) (dflt := 161) (pc0 := 6) (pc1 := 149) (L1 := [(0, vr 12 230), (1, vi w)]) (st1 := []) (h1 := xhp (sI s 230 0 0)) (off := 143) 5 (fun _ _ _ _ => rfl) (by rw [hx8]; rfl) rfl ?_
    replace g := g.1 hx8
    refine xW.side (c := vp_in 56 640) (pc1 := 156) (L1 := [(0, vr 12 230), (1, vi w)]) (st1 := [vi (gI s 231 56)]) (h1 := xhp (sI s 230 0 0)) 4 (fun _ _ _ _ => rfl) (vp_lit rfl) ?_
    exact xW.ret (v0 := some (vi (gI s 231 56))) (h1 := xhp (sI s 230 0 0)) 1 (fun _ _ _ _ => rfl) g
  replace g := g.2
  by_cases hx9 : w = 9
  · refine xW.sw (x := w) (lo := 0) (hi := 10) (offs := #[58, 63, 68, 73, 103, 119, 127, 135, 143, 151, 156]) (dflt := 161) (pc0 := 6) (pc1 := 157) (L1 := [(0, vr 12 230), (1, vi w)]) (st1 := []) (h1 := xhp (sI s 230 0 0)) (off := 151) 5 (fun _ _ _ _ => rfl) (by rw [hx9]; rfl) rfl ?_
    replace g := g.1 hx9
    exact xW.ret (v0 := some (vi (gI s 230 3))) (h1 := xhp (sI s 230 0 0)) 3 (fun _ _ _ _ => rfl) g
  replace g := g.2
  by_cases hx10 : w = 10
  · refine xW.sw (x := w) (lo := 0) (hi := 10) (offs := #[58, 63, 68, 73, 103, 119, 127, 135, 143, 151, 156]) (dflt := 161) (pc0 := 6) (pc1 := 162) (L1 := [(0, vr 12 230), (1, vi w)]) (st1 := []) (h1 := xhp (sI s 230 0 0)) (off := 156) 5 (fun _ _ _ _ => rfl) (by rw [hx10]; rfl) rfl ?_
    replace g := g.1 hx10
    exact xW.ret (v0 := some (vi (gI s 230 13))) (h1 := xhp (sI s 230 0 0)) 3 (fun _ _ _ _ => rfl) g
  replace g := g.2
  refine xW.sw (x := w) (lo := 0) (hi := 10) (offs := #[58, 63, 68, 73, 103, 119, 127, 135, 143, 151, 156]) (dflt := 161) (pc0 := 6) (pc1 := 167) (L1 := [(0, vr 12 230), (1, vi w)]) (st1 := []) (h1 := xhp (sI s 230 0 0)) (off := 161) 5 (fun _ _ _ _ => rfl) (xtab_out (xne_all [0, 1, 2, 3, 4, 5, 6, 7, 8, 9, 10] (by decide) ⟨hx0, hx1, hx2, hx3, hx4, hx5, hx6, hx7, hx8, hx9, hx10, trivial⟩)) rfl ?_
  replace g := g hx0 hx1 hx2 hx3 hx4 hx5 hx6 hx7 hx8 hx9 hx10
  exact xW.ret (v0 := some (vi (-1))) (h1 := xhp (sI s 230 0 0)) 2 (fun _ _ _ _ => rfl) g
noncomputable def tm_state_d (s : xS) (w : Int32) : Int32 × xS := (if w = 0 then ((gI s 230 4), (sI s 230 0 0)) else (if w = 1 then ((gI s 230 5), (sI s 230 0 0)) else (if w = 2 then ((gI s 230 9), (sI s 230 0 0)) else (if w = 3 then ((if (gI s 230 9) = 0 then ((-1) : Int32) else (if (gI s 230 10) ≤ 100 then (gI s 230 10) else 100)), (sI s 230 0 0)) else (if w = 4 then ((if (gI s 230 9) ≤ 0 then (0 : Int32) else (gI s 230 8)), (sI s 230 0 0)) else (if w = 5 then ((gI s 231 54), (sI s 230 0 0)) else (if w = 6 then ((gI s 231 55), (sI s 230 0 0)) else (if w = 7 then ((gI s 231 57), (sI s 230 0 0)) else (if w = 8 then ((gI s 231 56), (sI s 230 0 0)) else (if w = 9 then ((gI s 230 3), (sI s 230 0 0)) else (if w = 10 then ((gI s 230 13), (sI s 230 0 0)) else ((-1), (sI s 230 0 0)))))))))))))
noncomputable def tm_state : xS → Int32 → Int32 × xS := Classical.choose (⟨tm_state_d, rfl⟩ : ∃ f, f = tm_state_d)
set_option maxRecDepth 100000 in
theorem tm_state_eq : tm_state = tm_state_d := Classical.choose_spec (⟨tm_state_d, rfl⟩ : ∃ f, f = tm_state_d)
set_option maxRecDepth 100000 in
theorem m95 {xs : Nat → Int32} {Ls : Nat} {Ψ : xO → xH → Prop} (s : xS) (w : Int32) (h : Ψ (.inl (some (vi (tm_state s w).1))) (xhp (tm_state s w).2)) : xM (xX0 xs Ls) 95 [vr 12 230, vi w] (xhp s) Ψ := by
  rw [tm_state_eq] at h
  unfold tm_state_d at h
  exact xM.of (P := p95) rfl rfl rfl (b95_0 s w (⟨fun hc => by rw [if_pos hc] at h; exact (by (try dsimp only at h); exact h), fun hc => by rw [if_neg (by rw [hc]; decide), if_pos hc] at h; exact (by (try dsimp only at h); exact h), fun hc => by rw [if_neg (by rw [hc]; decide), if_neg (by rw [hc]; decide), if_pos hc] at h; exact (by (try dsimp only at h); exact h), fun hc => by rw [if_neg (by rw [hc]; decide), if_neg (by rw [hc]; decide), if_neg (by rw [hc]; decide), if_pos hc] at h; exact (by (try dsimp only at h); exact h), fun hc => by rw [if_neg (by rw [hc]; decide), if_neg (by rw [hc]; decide), if_neg (by rw [hc]; decide), if_neg (by rw [hc]; decide), if_pos hc] at h; exact (by (try dsimp only at h); exact h), fun hc => by rw [if_neg (by rw [hc]; decide), if_neg (by rw [hc]; decide), if_neg (by rw [hc]; decide), if_neg (by rw [hc]; decide), if_neg (by rw [hc]; decide), if_pos hc] at h; exact (by (try dsimp only at h); exact h), fun hc => by rw [if_neg (by rw [hc]; decide), if_neg (by rw [hc]; decide), if_neg (by rw [hc]; decide), if_neg (by rw [hc]; decide), if_neg (by rw [hc]; decide), if_neg (by rw [hc]; decide), if_pos hc] at h; exact (by (try dsimp only at h); exact h), fun hc => by rw [if_neg (by rw [hc]; decide), if_neg (by rw [hc]; decide), if_neg (by rw [hc]; decide), if_neg (by rw [hc]; decide), if_neg (by rw [hc]; decide), if_neg (by rw [hc]; decide), if_neg (by rw [hc]; decide), if_pos hc] at h; exact (by (try dsimp only at h); exact h), fun hc => by rw [if_neg (by rw [hc]; decide), if_neg (by rw [hc]; decide), if_neg (by rw [hc]; decide), if_neg (by rw [hc]; decide), if_neg (by rw [hc]; decide), if_neg (by rw [hc]; decide), if_neg (by rw [hc]; decide), if_neg (by rw [hc]; decide), if_pos hc] at h; exact (by (try dsimp only at h); exact h), fun hc => by rw [if_neg (by rw [hc]; decide), if_neg (by rw [hc]; decide), if_neg (by rw [hc]; decide), if_neg (by rw [hc]; decide), if_neg (by rw [hc]; decide), if_neg (by rw [hc]; decide), if_neg (by rw [hc]; decide), if_neg (by rw [hc]; decide), if_neg (by rw [hc]; decide), if_pos hc] at h; exact (by (try dsimp only at h); exact h), fun hc => by rw [if_neg (by rw [hc]; decide), if_neg (by rw [hc]; decide), if_neg (by rw [hc]; decide), if_neg (by rw [hc]; decide), if_neg (by rw [hc]; decide), if_neg (by rw [hc]; decide), if_neg (by rw [hc]; decide), if_neg (by rw [hc]; decide), if_neg (by rw [hc]; decide), if_neg (by rw [hc]; decide), if_pos hc] at h; exact (by (try dsimp only at h); exact h), fun hx0 hx1 hx2 hx3 hx4 hx5 hx6 hx7 hx8 hx9 hx10 => by rw [if_neg hx0, if_neg hx1, if_neg hx2, if_neg hx3, if_neg hx4, if_neg hx5, if_neg hx6, if_neg hx7, if_neg hx8, if_neg hx9, if_neg hx10] at h; exact (by (try dsimp only at h); exact h)⟩))
