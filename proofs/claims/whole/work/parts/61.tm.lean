/-! tm_isFigure -/
theorem b46_0 {xs : Nat → Int32} {Ls : Nat} {Φ : Option xV → xH → Prop} (s : xS) (k : Int32) (g : Φ (some (vi (zb ((!decide (k < 48)) && (!decide (57 < k)))))) (xhp s)) : xW (xX0 xs Ls) p46 0 [(0, vi k)] [] (xhp s) Φ := by
  refine xW.seg (pc1 := 3) (L1 := [(0, vi k)]) (st1 := [vi 48, vi k]) (h1 := xhp s) 2 (fun _ _ _ _ => rfl) ?_
  suffices J : xW (xX0 xs Ls) p46 17 [(0, vi k)] [vi (zb ((!decide (k < 48)) && (!decide (57 < k))))] (xhp s) Φ by
    refine xW.br (c := k < 48) (pc1 := 16) (L1 := [(0, vi k)]) (st1 := []) (h1 := xhp s) (pc2 := 6) (L2 := [(0, vi k)]) (st2 := []) (h2 := xhp s) 1 (fun _ _ _ _ => rfl) (fun hc => ?_) (fun hc => ?_)
    · have hc1 : k < 48 := hc
      refine xW.seg (pc1 := 17) (L1 := [(0, vi k)]) (st1 := [vi 0]) (h1 := xhp s) 1 (fun _ _ _ _ => rfl) ?_
      refine xW.to (v := vi (zb ((!decide (k < 48)) && (!decide (57 < k))))) (zb_f (by simp only [decide_eq_true hc1, Bool.true_or, Bool.or_true, Bool.false_or, Bool.or_false, Bool.true_and, Bool.and_true, Bool.false_and, Bool.and_false, Bool.not_true, Bool.not_false, cond_true, cond_false])) ?_
      exact J
    · have hc1 : ¬ (k < 48) := hc
      refine xW.br (c := 57 < k) (pc1 := 16) (L1 := [(0, vi k)]) (st1 := []) (h1 := xhp s) (pc2 := 12) (L2 := [(0, vi k)]) (st2 := []) (h2 := xhp s) 3 (fun _ _ _ _ => rfl) (fun hc => ?_) (fun hc => ?_)
      · have hc2 : 57 < k := hc
        refine xW.seg (pc1 := 17) (L1 := [(0, vi k)]) (st1 := [vi 0]) (h1 := xhp s) 1 (fun _ _ _ _ => rfl) ?_
        refine xW.to (v := vi (zb ((!decide (k < 48)) && (!decide (57 < k))))) (zb_f (by simp only [decide_eq_false hc1, decide_eq_true hc2, Bool.true_or, Bool.or_true, Bool.false_or, Bool.or_false, Bool.true_and, Bool.and_true, Bool.false_and, Bool.and_false, Bool.not_true, Bool.not_false, cond_true, cond_false])) ?_
        exact J
      · have hc2 : ¬ (57 < k) := hc
        refine xW.seg (pc1 := 17) (L1 := [(0, vi k)]) (st1 := [vi 1]) (h1 := xhp s) 2 (fun _ _ _ _ => rfl) ?_
        refine xW.to (v := vi (zb ((!decide (k < 48)) && (!decide (57 < k))))) (zb_t (by simp only [decide_eq_false hc1, decide_eq_false hc2, Bool.true_or, Bool.or_true, Bool.false_or, Bool.or_false, Bool.true_and, Bool.and_true, Bool.false_and, Bool.and_false, Bool.not_true, Bool.not_false, cond_true, cond_false])) ?_
        exact J
  exact xW.retz (v0 := some (vi (zb ((!decide (k < 48)) && (!decide (57 < k)))))) (h1 := xhp s) (c := (zb ((!decide (k < 48)) && (!decide (57 < k)))) = 0 ∨ (zb ((!decide (k < 48)) && (!decide (57 < k)))) = 1) 1 (fun _ _ _ _ => rfl) (zb01 _) g
noncomputable def tm_isFigure (k : Int32) : Bool := ((!decide (k < 48)) && (!decide (57 < k)))
set_option maxRecDepth 100000 in
theorem m46 {xs : Nat → Int32} {Ls : Nat} {Ψ : xO → xH → Prop} (s : xS) (k : Int32) (h : Ψ (.inl (some (vi (zb (tm_isFigure k))))) (xhp s)) : xM (xX0 xs Ls) 46 [vi k] (xhp s) Ψ := by
  unfold tm_isFigure at h
  exact xM.of (P := p46) rfl rfl rfl (b46_0 s k (h))
/-! tm_begins -/
theorem b47_0 {xs : Nat → Int32} {Ls : Nat} {Φ : Option xV → xH → Prop} (s : xS) (k : Int32) (g : Φ (some (vi (zb ((tm_isFigure k) || ((decide (k = 46)) || (decide (k = 69))))))) (xhp s)) : xW (xX0 xs Ls) p47 0 [(0, vi k)] [] (xhp s) Φ := by
  refine xW.call (y := 46) (as := [vi k]) (h0 := xhp s) (pc0 := 1) (len := 3) (L0 := [(0, vi k)]) (rest := []) 2 (fun _ _ _ _ => rfl) (m46 _ _ ?_)
  show xW (xX0 xs Ls) p47 4 [(0, vi k)] [vi (zb (tm_isFigure k))] (xhp s) Φ
  suffices J : xW (xX0 xs Ls) p47 24 [(0, vi k)] [vi (zb ((tm_isFigure k) || ((decide (k = 46)) || (decide (k = 69)))))] (xhp s) Φ by
    refine xW.br (c := ¬ (zb (tm_isFigure k)) = 0) (pc1 := 19) (L1 := [(0, vi k)]) (st1 := []) (h1 := xhp s) (pc2 := 7) (L2 := [(0, vi k)]) (st2 := []) (h2 := xhp s) 1 (fun _ _ _ _ => rfl) (fun hc => ?_) (fun hc => ?_)
    · have hc1 : (tm_isFigure k) = true := (zb_ne0.mp hc)
      refine xW.seg (pc1 := 24) (L1 := [(0, vi k)]) (st1 := [vi 1]) (h1 := xhp s) 2 (fun _ _ _ _ => rfl) ?_
      refine xW.to (v := vi (zb ((tm_isFigure k) || ((decide (k = 46)) || (decide (k = 69)))))) (zb_t (by simp only [hc1, Bool.true_or, Bool.or_true, Bool.false_or, Bool.or_false, Bool.true_and, Bool.and_true, Bool.false_and, Bool.and_false, Bool.not_true, Bool.not_false, cond_true, cond_false])) ?_
      exact J
    · have hc1 : (tm_isFigure k) = false := (zb_eq0.mp (Decidable.not_not.mp hc))
      refine xW.br (c := k = 46) (pc1 := 19) (L1 := [(0, vi k)]) (st1 := []) (h1 := xhp s) (pc2 := 13) (L2 := [(0, vi k)]) (st2 := []) (h2 := xhp s) 3 (fun _ _ _ _ => rfl) (fun hc => ?_) (fun hc => ?_)
      · have hc2 : k = 46 := hc
        refine xW.seg (pc1 := 24) (L1 := [(0, vi k)]) (st1 := [vi 1]) (h1 := xhp s) 2 (fun _ _ _ _ => rfl) ?_
        refine xW.to (v := vi (zb ((tm_isFigure k) || ((decide (k = 46)) || (decide (k = 69)))))) (zb_t (by simp only [hc1, decide_eq_true hc2, Bool.true_or, Bool.or_true, Bool.false_or, Bool.or_false, Bool.true_and, Bool.and_true, Bool.false_and, Bool.and_false, Bool.not_true, Bool.not_false, cond_true, cond_false])) ?_
        exact J
      · have hc2 : ¬ (k = 46) := hc
        refine xW.br (c := ¬ k = 69) (pc1 := 23) (L1 := [(0, vi k)]) (st1 := []) (h1 := xhp s) (pc2 := 19) (L2 := [(0, vi k)]) (st2 := []) (h2 := xhp s) 3 (fun _ _ _ _ => rfl) (fun hc => ?_) (fun hc => ?_)
        · have hc3 : ¬ k = 69 := hc
          refine xW.seg (pc1 := 24) (L1 := [(0, vi k)]) (st1 := [vi 0]) (h1 := xhp s) 1 (fun _ _ _ _ => rfl) ?_
          refine xW.to (v := vi (zb ((tm_isFigure k) || ((decide (k = 46)) || (decide (k = 69)))))) (zb_f (by simp only [hc1, decide_eq_false hc2, decide_eq_false hc3, Bool.true_or, Bool.or_true, Bool.false_or, Bool.or_false, Bool.true_and, Bool.and_true, Bool.false_and, Bool.and_false, Bool.not_true, Bool.not_false, cond_true, cond_false])) ?_
          exact J
        · have hc3 : k = 69 := (Decidable.not_not.mp hc)
          refine xW.seg (pc1 := 24) (L1 := [(0, vi k)]) (st1 := [vi 1]) (h1 := xhp s) 2 (fun _ _ _ _ => rfl) ?_
          refine xW.to (v := vi (zb ((tm_isFigure k) || ((decide (k = 46)) || (decide (k = 69)))))) (zb_t (by simp only [hc1, decide_eq_false hc2, decide_eq_true hc3, Bool.true_or, Bool.or_true, Bool.false_or, Bool.or_false, Bool.true_and, Bool.and_true, Bool.false_and, Bool.and_false, Bool.not_true, Bool.not_false, cond_true, cond_false])) ?_
          exact J
  exact xW.retz (v0 := some (vi (zb ((tm_isFigure k) || ((decide (k = 46)) || (decide (k = 69))))))) (h1 := xhp s) (c := (zb ((tm_isFigure k) || ((decide (k = 46)) || (decide (k = 69))))) = 0 ∨ (zb ((tm_isFigure k) || ((decide (k = 46)) || (decide (k = 69))))) = 1) 1 (fun _ _ _ _ => rfl) (zb01 _) g
noncomputable def tm_begins (k : Int32) : Bool := ((tm_isFigure k) || ((decide (k = 46)) || (decide (k = 69))))
set_option maxRecDepth 100000 in
theorem m47 {xs : Nat → Int32} {Ls : Nat} {Ψ : xO → xH → Prop} (s : xS) (k : Int32) (h : Ψ (.inl (some (vi (zb (tm_begins k))))) (xhp s)) : xM (xX0 xs Ls) 47 [vi k] (xhp s) Ψ := by
  unfold tm_begins at h
  exact xM.of (P := p47) rfl rfl rfl (b47_0 s k (h))
/-! tm_hasPoint -/
theorem b48_4 {xs : Nat → Int32} {Ls : Nat} {Φ : Option xV → xH → Prop} (s : xS) (x1 : Int32) (x2 : Int32) (g : (((gI s 231 59) ≤ x2 → ((x1 = 0 ∨ x1 = 1) ∧ Φ (some (vi x1)) (xhp s))) ∧ (¬ ((gI s 231 59) ≤ x2) → ((¬ x1 = 0 → xW (xX0 xs Ls) p48 4 [(0, vr 12 230), (1, vi 1), (2, vi (x2 + 1))] [] (xhp s) Φ) ∧ (x1 = 0 → ((vp_in (60 + x2) 640) ∧ xW (xX0 xs Ls) p48 4 [(0, vr 12 230), (1, vi (zb (decide ((gI s 231 ((60 + x2).toNatClampNeg)) = 46)))), (2, vi (x2 + 1))] [] (xhp s) Φ)))))) : xW (xX0 xs Ls) p48 4 [(0, vr 12 230), (1, vi x1), (2, vi x2)] [] (xhp s) Φ := by
  refine xW.side (c := vp_in 59 640) (pc1 := 12) (L1 := [(0, vr 12 230), (1, vi x1), (2, vi x2)]) (st1 := [vi (gI s 231 59), vi x2]) (h1 := xhp s) 5 (fun _ _ _ _ => rfl) (vp_lit rfl) ?_
  refine xW.br (c := (gI s 231 59) ≤ x2) (pc1 := 45) (L1 := [(0, vr 12 230), (1, vi x1), (2, vi x2)]) (st1 := []) (h1 := xhp s) (pc2 := 15) (L2 := [(0, vr 12 230), (1, vi x1), (2, vi x2)]) (st2 := []) (h2 := xhp s) 1 (fun _ _ _ _ => rfl) (fun hc => ?_) (fun hc => ?_)
  · replace g := g.1 hc
    exact xW.retz (v0 := some (vi x1)) (h1 := xhp s) (c := x1 = 0 ∨ x1 = 1) 2 (fun _ _ _ _ => rfl) g.1 g.2
  · replace g := g.2 hc
    refine xW.br (c := ¬ x1 = 0) (pc1 := 33) (L1 := [(0, vr 12 230), (1, vi x1), (2, vi x2)]) (st1 := []) (h1 := xhp s) (pc2 := 19) (L2 := [(0, vr 12 230), (1, vi x1), (2, vi x2)]) (st2 := []) (h2 := xhp s) 2 (fun _ _ _ _ => rfl) (fun hc => ?_) (fun hc => ?_)
    · replace g := g.1 hc
      refine xW.seg (pc1 := 4) (L1 := [(2, vi (x2 + 1)), (1, vi 1), (0, vr 12 230)]) (st1 := []) (h1 := xhp s) 5 (fun _ _ _ _ => rfl) ?_
      exact xW.locs (L := [(0, vr 12 230), (1, vi 1), (2, vi (x2 + 1))]) ⟨rfl, rfl, rfl, trivial⟩ rfl g
    · replace g := g.2 (Decidable.not_not.mp hc)
      refine xW.side (c := vp_in (60 + x2) 640) (pc1 := 28) (L1 := [(0, vr 12 230), (1, vi x1), (2, vi x2)]) (st1 := [vi (gI s 231 ((60 + x2).toNatClampNeg))]) (h1 := xhp s) 6 (fun _ _ _ _ => rfl) g.1 ?_
      replace g := g.2
      refine xW.seg (pc1 := 30) (L1 := [(0, vr 12 230), (1, vi x1), (2, vi x2)]) (st1 := [vi 46, vi (gI s 231 ((60 + x2).toNatClampNeg))]) (h1 := xhp s) 1 (fun _ _ _ _ => rfl) ?_
      suffices J : xW (xX0 xs Ls) p48 38 [(0, vr 12 230), (1, vi x1), (2, vi x2)] [vi (zb (decide ((gI s 231 ((60 + x2).toNatClampNeg)) = 46)))] (xhp s) Φ by
        refine xW.br (c := ¬ (gI s 231 ((60 + x2).toNatClampNeg)) = 46) (pc1 := 37) (L1 := [(0, vr 12 230), (1, vi x1), (2, vi x2)]) (st1 := []) (h1 := xhp s) (pc2 := 33) (L2 := [(0, vr 12 230), (1, vi x1), (2, vi x2)]) (st2 := []) (h2 := xhp s) 1 (fun _ _ _ _ => rfl) (fun hc => ?_) (fun hc => ?_)
        · have hc1 : ¬ (gI s 231 ((60 + x2).toNatClampNeg)) = 46 := hc
          refine xW.seg (pc1 := 38) (L1 := [(0, vr 12 230), (1, vi x1), (2, vi x2)]) (st1 := [vi 0]) (h1 := xhp s) 1 (fun _ _ _ _ => rfl) ?_
          refine xW.to (v := vi (zb (decide ((gI s 231 ((60 + x2).toNatClampNeg)) = 46)))) (zb_f (by simp only [decide_eq_false hc1, Bool.true_or, Bool.or_true, Bool.false_or, Bool.or_false, Bool.true_and, Bool.and_true, Bool.false_and, Bool.and_false, Bool.not_true, Bool.not_false, cond_true, cond_false])) ?_
          exact J
        · have hc1 : (gI s 231 ((60 + x2).toNatClampNeg)) = 46 := (Decidable.not_not.mp hc)
          refine xW.seg (pc1 := 38) (L1 := [(0, vr 12 230), (1, vi x1), (2, vi x2)]) (st1 := [vi 1]) (h1 := xhp s) 2 (fun _ _ _ _ => rfl) ?_
          refine xW.to (v := vi (zb (decide ((gI s 231 ((60 + x2).toNatClampNeg)) = 46)))) (zb_t (by simp only [decide_eq_true hc1, Bool.true_or, Bool.or_true, Bool.false_or, Bool.or_false, Bool.true_and, Bool.and_true, Bool.false_and, Bool.and_false, Bool.not_true, Bool.not_false, cond_true, cond_false])) ?_
          exact J
      refine xW.seg (pc1 := 4) (L1 := [(2, vi (x2 + 1)), (1, vi (zb (decide ((gI s 231 ((60 + x2).toNatClampNeg)) = 46)))), (0, vr 12 230)]) (st1 := []) (h1 := xhp s) 3 (fun _ _ _ _ => rfl) ?_
      exact xW.locs (L := [(0, vr 12 230), (1, vi (zb (decide ((gI s 231 ((60 + x2).toNatClampNeg)) = 46)))), (2, vi (x2 + 1))]) ⟨rfl, rfl, rfl, trivial⟩ rfl g
noncomputable def tm_hasPoint_4 : Nat → xS → Int32 → Int32 → Int32
  | 0, s, _, _ => 0
  | n + 1, s, x1, x2 => (if (gI s 231 59) ≤ x2 then x1 else (if ¬ x1 = 0 then (tm_hasPoint_4 n s 1 (x2 + 1)) else (tm_hasPoint_4 n s (zb (decide ((gI s 231 ((60 + x2).toNatClampNeg)) = 46))) (x2 + 1))))
def tm_hasPoint_4_ok : Nat → xS → Int32 → Int32 → Prop
  | 0, _, _, _ => False
  | n + 1, s, x1, x2 => (((gI s 231 59) ≤ x2 → (x1 = 0 ∨ x1 = 1)) ∧ (¬ ((gI s 231 59) ≤ x2) → ((¬ x1 = 0 → (tm_hasPoint_4_ok n s 1 (x2 + 1))) ∧ (x1 = 0 → ((vp_in (60 + x2) 640) ∧ (tm_hasPoint_4_ok n s (zb (decide ((gI s 231 ((60 + x2).toNatClampNeg)) = 46))) (x2 + 1)))))))
set_option maxRecDepth 100000 in
theorem n48_4 {xs : Nat → Int32} {Ls : Nat} {Φ : Option xV → xH → Prop} : ∀ (n : Nat) (s : xS) (x1 : Int32) (x2 : Int32), tm_hasPoint_4_ok n s x1 x2 → Φ (some (vi (tm_hasPoint_4 n s x1 x2))) (xhp s) → xW (xX0 xs Ls) p48 4 [(0, vr 12 230), (1, vi x1), (2, vi x2)] [] (xhp s) Φ := by
  intro n
  induction n with
  | zero => intro s _ _ gq; exact gq.elim
  | succ n ih =>
    intro s x1 x2 gq h
    unfold tm_hasPoint_4_ok at gq
    unfold tm_hasPoint_4 at h
    exact b48_4 s x1 x2 (⟨fun hc => by rw [if_pos hc] at h; replace gq := gq.1 hc; exact ⟨gq, h⟩, fun hc => by rw [if_neg hc] at h; replace gq := gq.2 hc; exact ⟨fun hc => by rw [if_pos hc] at h; replace gq := gq.1 hc; exact ih _ _ _ gq h, fun hc => by rw [if_neg (fun z => z hc)] at h; replace gq := gq.2 hc; exact ⟨gq.1, by replace gq := gq.2; exact ih _ _ _ gq h⟩⟩⟩)
set_option maxRecDepth 100000 in
theorem b48_0 {xs : Nat → Int32} {Ls : Nat} {Φ : Option xV → xH → Prop} (s : xS) (g : xW (xX0 xs Ls) p48 4 [(0, vr 12 230), (1, vi 0), (2, vi 0)] [] (xhp s) Φ) : xW (xX0 xs Ls) p48 0 [(0, vr 12 230)] [] (xhp s) Φ := by
  refine xW.seg (pc1 := 4) (L1 := [(2, vi 0), (1, vi 0), (0, vr 12 230)]) (st1 := []) (h1 := xhp s) 4 (fun _ _ _ _ => rfl) ?_
  exact xW.locs (L := [(0, vr 12 230), (1, vi 0), (2, vi 0)]) ⟨rfl, rfl, rfl, trivial⟩ rfl g
noncomputable def tm_hasPoint (s : xS) : Int32 := (tm_hasPoint_4 xfu s 0 0)
def tm_hasPoint_ok (s : xS) : Prop := (tm_hasPoint_4_ok xfu s 0 0)
set_option maxRecDepth 100000 in
theorem m48 {xs : Nat → Int32} {Ls : Nat} {Ψ : xO → xH → Prop} (s : xS) (gq : tm_hasPoint_ok s) (h : Ψ (.inl (some (vi (tm_hasPoint s)))) (xhp s)) : xM (xX0 xs Ls) 48 [vr 12 230] (xhp s) Ψ := by
  unfold tm_hasPoint at h
  unfold tm_hasPoint_ok at gq
  exact xM.of (P := p48) rfl rfl rfl (b48_0 s (n48_4 _ _ _ _ gq h))
/-! tm_figures -/
theorem b49_0 {xs : Nat → Int32} {Ls : Nat} {Φ : Option xV → xH → Prop} (s : xS) (g : ((tm_hasPoint_ok s) ∧ Φ (some (vi ((gI s 231 59) - (zb (!decide ((tm_hasPoint s) = 0)))))) (xhp s))) : xW (xX0 xs Ls) p49 0 [(0, vr 12 230)] [] (xhp s) Φ := by
  refine xW.side (c := vp_in 59 640) (pc1 := 7) (L1 := [(0, vr 12 230)]) (st1 := [vi (gI s 231 59)]) (h1 := xhp s) 4 (fun _ _ _ _ => rfl) (vp_lit rfl) ?_
  refine xW.call (y := 48) (as := [vr 12 230]) (h0 := xhp s) (pc0 := 8) (len := 3) (L0 := [(0, vr 12 230)]) (rest := [vi (gI s 231 59)]) 2 (fun _ _ _ _ => rfl) (m48 _ g.1 ?_)
  show xW (xX0 xs Ls) p49 11 [(0, vr 12 230)] [vi (tm_hasPoint s), vi (gI s 231 59)] (xhp s) Φ
  replace g := g.2
  suffices J : xW (xX0 xs Ls) p49 19 [(0, vr 12 230)] [vi (zb (!decide ((tm_hasPoint s) = 0))), vi (gI s 231 59)] (xhp s) Φ by
    refine xW.br (c := (tm_hasPoint s) = 0) (pc1 := 18) (L1 := [(0, vr 12 230)]) (st1 := [vi (gI s 231 59)]) (h1 := xhp s) (pc2 := 14) (L2 := [(0, vr 12 230)]) (st2 := [vi (gI s 231 59)]) (h2 := xhp s) 1 (fun _ _ _ _ => rfl) (fun hc => ?_) (fun hc => ?_)
    · have hc1 : (tm_hasPoint s) = 0 := hc
      refine xW.seg (pc1 := 19) (L1 := [(0, vr 12 230)]) (st1 := [vi 0, vi (gI s 231 59)]) (h1 := xhp s) 1 (fun _ _ _ _ => rfl) ?_
      refine xW.to (v := vi (zb (!decide ((tm_hasPoint s) = 0)))) (zb_f (by simp only [decide_eq_true hc1, Bool.true_or, Bool.or_true, Bool.false_or, Bool.or_false, Bool.true_and, Bool.and_true, Bool.false_and, Bool.and_false, Bool.not_true, Bool.not_false, cond_true, cond_false])) ?_
      exact J
    · have hc1 : ¬ ((tm_hasPoint s) = 0) := hc
      refine xW.seg (pc1 := 19) (L1 := [(0, vr 12 230)]) (st1 := [vi 1, vi (gI s 231 59)]) (h1 := xhp s) 2 (fun _ _ _ _ => rfl) ?_
      refine xW.to (v := vi (zb (!decide ((tm_hasPoint s) = 0)))) (zb_t (by simp only [decide_eq_false hc1, Bool.true_or, Bool.or_true, Bool.false_or, Bool.or_false, Bool.true_and, Bool.and_true, Bool.false_and, Bool.and_false, Bool.not_true, Bool.not_false, cond_true, cond_false])) ?_
      exact J
  exact xW.ret (v0 := some (vi ((gI s 231 59) - (zb (!decide ((tm_hasPoint s) = 0)))))) (h1 := xhp s) 2 (fun _ _ _ _ => rfl) g
noncomputable def tm_figures (s : xS) : Int32 := ((gI s 231 59) - (zb (!decide ((tm_hasPoint s) = 0))))
def tm_figures_ok (s : xS) : Prop := (tm_hasPoint_ok s)
set_option maxRecDepth 100000 in
theorem m49 {xs : Nat → Int32} {Ls : Nat} {Ψ : xO → xH → Prop} (s : xS) (gq : tm_figures_ok s) (h : Ψ (.inl (some (vi (tm_figures s)))) (xhp s)) : xM (xX0 xs Ls) 49 [vr 12 230] (xhp s) Ψ := by
  unfold tm_figures at h
  unfold tm_figures_ok at gq
  exact xM.of (P := p49) rfl rfl rfl (b49_0 s (⟨gq, h⟩))
/-! tm_worth -/
theorem b50_109 {xs : Nat → Int32} {Ls : Nat} {Φ : Option xV → xH → Prop} (s : xS) (x1 : Int32) (x2 : Int32) (x3 : Int32) (x4 : Int32) (g : (((gI s 231 59) ≤ x4 → ((tm_round_ok s (gI s 231 58) ((x2 - 1) + x1) x3 0) ∧ Φ (some (vi ((tm_round s (gI s 231 58) ((x2 - 1) + x1) x3 0).1))) (xhp ((tm_round s (gI s 231 58) ((x2 - 1) + x1) x3 0).2)))) ∧ (¬ ((gI s 231 59) ≤ x4) → ((vp_in (60 + x4) 640) ∧ (((gI s 231 ((60 + x4).toNatClampNeg)) = 46 → xW (xX0 xs Ls) p50 109 [(0, vr 12 230), (1, vi x1), (2, vi x2), (3, vi x3), (4, vi (x4 + 1))] [] (xhp s) Φ) ∧ (¬ ((gI s 231 ((60 + x4).toNatClampNeg)) = 46) → ((vp_in (60 + x4) 640) ∧ ((vp_in x3 256) ∧ xW (xX0 xs Ls) p50 109 [(0, vr 12 230), (1, vi x1), (2, vi x2), (3, vi (x3 + 1)), (4, vi (x4 + 1))] [] (xhp (sI s 242 x3.toNatClampNeg ((gI s 231 ((60 + x4).toNatClampNeg)) - 48))) Φ)))))))) : xW (xX0 xs Ls) p50 109 [(0, vr 12 230), (1, vi x1), (2, vi x2), (3, vi x3), (4, vi x4)] [] (xhp s) Φ := by
  refine xW.side (c := vp_in 59 640) (pc1 := 118) (L1 := [(0, vr 12 230), (1, vi x1), (2, vi x2), (3, vi x3), (4, vi x4)]) (st1 := [vi (gI s 231 59), vi x4]) (h1 := xhp s) 5 (fun _ _ _ _ => rfl) (vp_lit rfl) ?_
  refine xW.br (c := (gI s 231 59) ≤ x4) (pc1 := 164) (L1 := [(0, vr 12 230), (1, vi x1), (2, vi x2), (3, vi x3), (4, vi x4)]) (st1 := []) (h1 := xhp s) (pc2 := 121) (L2 := [(0, vr 12 230), (1, vi x1), (2, vi x2), (3, vi x3), (4, vi x4)]) (st2 := []) (h2 := xhp s) 1 (fun _ _ _ _ => rfl) (fun hc => ?_) (fun hc => ?_)
  · replace g := g.1 hc
    refine xW.side (c := vp_in 58 640) (pc1 := 172) (L1 := [(0, vr 12 230), (1, vi x1), (2, vi x2), (3, vi x3), (4, vi x4)]) (st1 := [vi (gI s 231 58), vr 12 230]) (h1 := xhp s) 5 (fun _ _ _ _ => rfl) (vp_lit rfl) ?_
    refine xW.call (y := 35) (as := [vr 12 230, vi (gI s 231 58), vi ((x2 - 1) + x1), vi x3, vi 0]) (h0 := xhp s) (pc0 := 179) (len := 3) (L0 := [(0, vr 12 230), (1, vi x1), (2, vi x2), (3, vi x3), (4, vi x4)]) (rest := []) 8 (fun _ _ _ _ => rfl) (m35 _ _ _ _ _ g.1 ?_)
    show xW (xX0 xs Ls) p50 182 [(0, vr 12 230), (1, vi x1), (2, vi x2), (3, vi x3), (4, vi x4)] [vi ((tm_round s (gI s 231 58) ((x2 - 1) + x1) x3 0).1)] (xhp ((tm_round s (gI s 231 58) ((x2 - 1) + x1) x3 0).2)) Φ
    replace g := g.2
    exact xW.ret (v0 := some (vi ((tm_round s (gI s 231 58) ((x2 - 1) + x1) x3 0).1))) (h1 := xhp ((tm_round s (gI s 231 58) ((x2 - 1) + x1) x3 0).2)) 1 (fun _ _ _ _ => rfl) g
  · replace g := g.2 hc
    refine xW.side (c := vp_in (60 + x4) 640) (pc1 := 131) (L1 := [(0, vr 12 230), (1, vi x1), (2, vi x2), (3, vi x3), (4, vi x4)]) (st1 := [vi (gI s 231 ((60 + x4).toNatClampNeg))]) (h1 := xhp s) 6 (fun _ _ _ _ => rfl) g.1 ?_
    replace g := g.2
    refine xW.br (c := (gI s 231 ((60 + x4).toNatClampNeg)) = 46) (pc1 := 158) (L1 := [(0, vr 12 230), (1, vi x1), (2, vi x2), (3, vi x3), (4, vi x4)]) (st1 := []) (h1 := xhp s) (pc2 := 136) (L2 := [(0, vr 12 230), (1, vi x1), (2, vi x2), (3, vi x3), (4, vi x4)]) (st2 := []) (h2 := xhp s) 2 (fun _ _ _ _ => rfl) (fun hc => ?_) (fun hc => ?_)
    · replace g := g.1 hc
      refine xW.seg (pc1 := 109) (L1 := [(4, vi (x4 + 1)), (0, vr 12 230), (1, vi x1), (2, vi x2), (3, vi x3)]) (st1 := []) (h1 := xhp s) 2 (fun _ _ _ _ => rfl) ?_
      exact xW.locs (L := [(0, vr 12 230), (1, vi x1), (2, vi x2), (3, vi x3), (4, vi (x4 + 1))]) ⟨rfl, rfl, rfl, rfl, rfl, trivial⟩ rfl g
    · replace g := g.2 hc
      refine xW.side (c := vp_in (60 + x4) 640) (pc1 := 151) (L1 := [(0, vr 12 230), (1, vi x1), (2, vi x2), (3, vi x3), (4, vi x4)]) (st1 := [vi (gI s 231 ((60 + x4).toNatClampNeg)), vi x3, vr 40 242]) (h1 := xhp s) 9 (fun _ _ _ _ => rfl) g.1 ?_
      replace g := g.2
      refine xW.side (c := vp_in x3 256) (pc1 := 155) (L1 := [(0, vr 12 230), (1, vi x1), (2, vi x2), (3, vi x3), (4, vi x4)]) (st1 := []) (h1 := xhp (sI s 242 x3.toNatClampNeg ((gI s 231 ((60 + x4).toNatClampNeg)) - 48))) 3 (fun _ _ _ _ => rfl) g.1 ?_
      replace g := g.2
      refine xW.seg (pc1 := 109) (L1 := [(4, vi (x4 + 1)), (3, vi (x3 + 1)), (0, vr 12 230), (1, vi x1), (2, vi x2)]) (st1 := []) (h1 := xhp (sI s 242 x3.toNatClampNeg ((gI s 231 ((60 + x4).toNatClampNeg)) - 48))) 3 (fun _ _ _ _ => rfl) ?_
      exact xW.locs (L := [(0, vr 12 230), (1, vi x1), (2, vi x2), (3, vi (x3 + 1)), (4, vi (x4 + 1))]) ⟨rfl, rfl, rfl, rfl, rfl, trivial⟩ rfl g
noncomputable def tm_worth_109 : Nat → xS → Int32 → Int32 → Int32 → Int32 → Int32 × xS
  | 0, s, _, _, _, _ => (0, s)
  | n + 1, s, x1, x2, x3, x4 => (if (gI s 231 59) ≤ x4 then (tm_round s (gI s 231 58) ((x2 - 1) + x1) x3 0) else (if (gI s 231 ((60 + x4).toNatClampNeg)) = 46 then (tm_worth_109 n s x1 x2 x3 (x4 + 1)) else (tm_worth_109 n (sI s 242 x3.toNatClampNeg ((gI s 231 ((60 + x4).toNatClampNeg)) - 48)) x1 x2 (x3 + 1) (x4 + 1))))
def tm_worth_109_ok : Nat → xS → Int32 → Int32 → Int32 → Int32 → Prop
  | 0, _, _, _, _, _ => False
  | n + 1, s, x1, x2, x3, x4 => (((gI s 231 59) ≤ x4 → (tm_round_ok s (gI s 231 58) ((x2 - 1) + x1) x3 0)) ∧ (¬ ((gI s 231 59) ≤ x4) → ((vp_in (60 + x4) 640) ∧ (((gI s 231 ((60 + x4).toNatClampNeg)) = 46 → (tm_worth_109_ok n s x1 x2 x3 (x4 + 1))) ∧ (¬ ((gI s 231 ((60 + x4).toNatClampNeg)) = 46) → ((vp_in (60 + x4) 640) ∧ ((vp_in x3 256) ∧ (tm_worth_109_ok n (sI s 242 x3.toNatClampNeg ((gI s 231 ((60 + x4).toNatClampNeg)) - 48)) x1 x2 (x3 + 1) (x4 + 1)))))))))
set_option maxRecDepth 100000 in
theorem n50_109 {xs : Nat → Int32} {Ls : Nat} {Φ : Option xV → xH → Prop} : ∀ (n : Nat) (s : xS) (x1 : Int32) (x2 : Int32) (x3 : Int32) (x4 : Int32), tm_worth_109_ok n s x1 x2 x3 x4 → Φ (some (vi (tm_worth_109 n s x1 x2 x3 x4).1)) (xhp (tm_worth_109 n s x1 x2 x3 x4).2) → xW (xX0 xs Ls) p50 109 [(0, vr 12 230), (1, vi x1), (2, vi x2), (3, vi x3), (4, vi x4)] [] (xhp s) Φ := by
  intro n
  induction n with
  | zero => intro s _ _ _ _ gq; exact gq.elim
  | succ n ih =>
    intro s x1 x2 x3 x4 gq h
    unfold tm_worth_109_ok at gq
    unfold tm_worth_109 at h
    exact b50_109 s x1 x2 x3 x4 (⟨fun hc => by rw [if_pos hc] at h; replace gq := gq.1 hc; exact ⟨gq, (by (try dsimp only at h); exact h)⟩, fun hc => by rw [if_neg hc] at h; replace gq := gq.2 hc; exact ⟨gq.1, by replace gq := gq.2; exact ⟨fun hc => by rw [if_pos hc] at h; replace gq := gq.1 hc; exact ih _ _ _ _ _ gq h, fun hc => by rw [if_neg hc] at h; replace gq := gq.2 hc; exact ⟨gq.1, by replace gq := gq.2; exact ⟨gq.1, by replace gq := gq.2; exact ih _ _ _ _ _ gq h⟩⟩⟩⟩⟩)
set_option maxRecDepth 100000 in
theorem b50_100 {xs : Nat → Int32} {Ls : Nat} {Φ : Option xV → xH → Prop} (s : xS) (x1 : Int32) (x2 : Int32) (g : ((tm_clearRow_ok s) ∧ xW (xX0 xs Ls) p50 109 [(0, vr 12 230), (1, vi x1), (2, vi x2), (3, vi 0), (4, vi 0)] [] (xhp (tm_clearRow s)) Φ)) : xW (xX0 xs Ls) p50 100 [(0, vr 12 230), (1, vi x1), (2, vi x2)] [] (xhp s) Φ := by
  refine xW.call (y := 34) (as := [vr 12 230]) (h0 := xhp s) (pc0 := 101) (len := 3) (L0 := [(0, vr 12 230), (1, vi x1), (2, vi x2)]) (rest := []) 2 (fun _ _ _ _ => rfl) (m34 _ g.1 ?_)
  show xW (xX0 xs Ls) p50 104 [(0, vr 12 230), (1, vi x1), (2, vi x2)] [] (xhp (tm_clearRow s)) Φ
  replace g := g.2
  refine xW.seg (pc1 := 109) (L1 := [(4, vi 0), (3, vi 0), (0, vr 12 230), (1, vi x1), (2, vi x2)]) (st1 := []) (h1 := xhp (tm_clearRow s)) 4 (fun _ _ _ _ => rfl) ?_
  exact xW.locs (L := [(0, vr 12 230), (1, vi x1), (2, vi x2), (3, vi 0), (4, vi 0)]) ⟨rfl, rfl, rfl, rfl, rfl, trivial⟩ rfl g
noncomputable def tm_worth_100_d (s : xS) (x1 : Int32) (x2 : Int32) : Int32 × xS := (tm_worth_109 xfu (tm_clearRow s) x1 x2 0 0)
noncomputable def tm_worth_100 : xS → Int32 → Int32 → Int32 × xS := Classical.choose (⟨tm_worth_100_d, rfl⟩ : ∃ f, f = tm_worth_100_d)
set_option maxRecDepth 100000 in
theorem tm_worth_100_eq : tm_worth_100 = tm_worth_100_d := Classical.choose_spec (⟨tm_worth_100_d, rfl⟩ : ∃ f, f = tm_worth_100_d)
def tm_worth_100_ok (s : xS) (x1 : Int32) (x2 : Int32) : Prop := ((tm_clearRow_ok s) ∧ (tm_worth_109_ok xfu (tm_clearRow s) x1 x2 0 0))
set_option maxRecDepth 100000 in
theorem n50_100 {xs : Nat → Int32} {Ls : Nat} {Φ : Option xV → xH → Prop} (s : xS) (x1 : Int32) (x2 : Int32) (gq : tm_worth_100_ok s x1 x2) (h : Φ (some (vi (tm_worth_100 s x1 x2).1)) (xhp (tm_worth_100 s x1 x2).2)) : xW (xX0 xs Ls) p50 100 [(0, vr 12 230), (1, vi x1), (2, vi x2)] [] (xhp s) Φ := by
  rw [tm_worth_100_eq] at h
  unfold tm_worth_100_d at h
  unfold tm_worth_100_ok at gq
  exact b50_100 s x1 x2 (⟨gq.1, by replace gq := gq.2; exact n50_109 _ _ _ _ _ _ gq h⟩)
set_option maxRecDepth 100000 in
theorem b50_69 {xs : Nat → Int32} {Ls : Nat} {Φ : Option xV → xH → Prop} (s : xS) (x1 : Int32) (x2 : Int32) (g : (((gI s 231 59) ≤ x2 → xW (xX0 xs Ls) p50 100 [(0, vr 12 230), (1, vi x1), (2, vi x2)] [] (xhp s) Φ) ∧ (¬ ((gI s 231 59) ≤ x2) → ((vp_in (60 + x2) 640) ∧ (((gI s 231 ((60 + x2).toNatClampNeg)) = 46 → xW (xX0 xs Ls) p50 100 [(0, vr 12 230), (1, vi x1), (2, vi x2)] [] (xhp s) Φ) ∧ (¬ ((gI s 231 ((60 + x2).toNatClampNeg)) = 46) → xW (xX0 xs Ls) p50 69 [(0, vr 12 230), (1, vi x1), (2, vi (x2 + 1))] [] (xhp s) Φ)))))) : xW (xX0 xs Ls) p50 69 [(0, vr 12 230), (1, vi x1), (2, vi x2)] [] (xhp s) Φ := by
  refine xW.side (c := vp_in 59 640) (pc1 := 77) (L1 := [(0, vr 12 230), (1, vi x1), (2, vi x2)]) (st1 := [vi (gI s 231 59), vi x2]) (h1 := xhp s) 5 (fun _ _ _ _ => rfl) (vp_lit rfl) ?_
  refine xW.br (c := (gI s 231 59) ≤ x2) (pc1 := 100) (L1 := [(0, vr 12 230), (1, vi x1), (2, vi x2)]) (st1 := []) (h1 := xhp s) (pc2 := 80) (L2 := [(0, vr 12 230), (1, vi x1), (2, vi x2)]) (st2 := []) (h2 := xhp s) 1 (fun _ _ _ _ => rfl) (fun hc => ?_) (fun hc => ?_)
  · replace g := g.1 hc
    exact g
  · replace g := g.2 hc
    refine xW.side (c := vp_in (60 + x2) 640) (pc1 := 89) (L1 := [(0, vr 12 230), (1, vi x1), (2, vi x2)]) (st1 := [vi (gI s 231 ((60 + x2).toNatClampNeg))]) (h1 := xhp s) 6 (fun _ _ _ _ => rfl) g.1 ?_
    replace g := g.2
    refine xW.br (c := (gI s 231 ((60 + x2).toNatClampNeg)) = 46) (pc1 := 100) (L1 := [(0, vr 12 230), (1, vi x1), (2, vi x2)]) (st1 := []) (h1 := xhp s) (pc2 := 94) (L2 := [(0, vr 12 230), (1, vi x1), (2, vi x2)]) (st2 := []) (h2 := xhp s) 2 (fun _ _ _ _ => rfl) (fun hc => ?_) (fun hc => ?_)
    · replace g := g.1 hc
      exact g
    · replace g := g.2 hc
      refine xW.seg (pc1 := 69) (L1 := [(2, vi (x2 + 1)), (0, vr 12 230), (1, vi x1)]) (st1 := []) (h1 := xhp s) 2 (fun _ _ _ _ => rfl) ?_
      exact xW.locs (L := [(0, vr 12 230), (1, vi x1), (2, vi (x2 + 1))]) ⟨rfl, rfl, rfl, trivial⟩ rfl g
noncomputable def tm_worth_69 : Nat → xS → Int32 → Int32 → Int32 × xS
  | 0, s, _, _ => (0, s)
  | n + 1, s, x1, x2 => (if (gI s 231 59) ≤ x2 then (tm_worth_100 s x1 x2) else (if (gI s 231 ((60 + x2).toNatClampNeg)) = 46 then (tm_worth_100 s x1 x2) else (tm_worth_69 n s x1 (x2 + 1))))
def tm_worth_69_ok : Nat → xS → Int32 → Int32 → Prop
  | 0, _, _, _ => False
  | n + 1, s, x1, x2 => (((gI s 231 59) ≤ x2 → (tm_worth_100_ok s x1 x2)) ∧ (¬ ((gI s 231 59) ≤ x2) → ((vp_in (60 + x2) 640) ∧ (((gI s 231 ((60 + x2).toNatClampNeg)) = 46 → (tm_worth_100_ok s x1 x2)) ∧ (¬ ((gI s 231 ((60 + x2).toNatClampNeg)) = 46) → (tm_worth_69_ok n s x1 (x2 + 1)))))))
set_option maxRecDepth 100000 in
theorem n50_69 {xs : Nat → Int32} {Ls : Nat} {Φ : Option xV → xH → Prop} : ∀ (n : Nat) (s : xS) (x1 : Int32) (x2 : Int32), tm_worth_69_ok n s x1 x2 → Φ (some (vi (tm_worth_69 n s x1 x2).1)) (xhp (tm_worth_69 n s x1 x2).2) → xW (xX0 xs Ls) p50 69 [(0, vr 12 230), (1, vi x1), (2, vi x2)] [] (xhp s) Φ := by
  intro n
  induction n with
  | zero => intro s _ _ gq; exact gq.elim
  | succ n ih =>
    intro s x1 x2 gq h
    unfold tm_worth_69_ok at gq
    unfold tm_worth_69 at h
    exact b50_69 s x1 x2 (⟨fun hc => by rw [if_pos hc] at h; replace gq := gq.1 hc; exact n50_100 _ _ _ gq h, fun hc => by rw [if_neg hc] at h; replace gq := gq.2 hc; exact ⟨gq.1, by replace gq := gq.2; exact ⟨fun hc => by rw [if_pos hc] at h; replace gq := gq.1 hc; exact n50_100 _ _ _ gq h, fun hc => by rw [if_neg hc] at h; replace gq := gq.2 hc; exact ih _ _ _ gq h⟩⟩⟩)
set_option maxRecDepth 100000 in
theorem b50_66 {xs : Nat → Int32} {Ls : Nat} {Φ : Option xV → xH → Prop} (s : xS) (y0 : Int32) (g : xW (xX0 xs Ls) p50 69 [(0, vr 12 230), (1, vi y0), (2, vi 0)] [] (xhp s) Φ) : xW (xX0 xs Ls) p50 66 [(0, vr 12 230)] [vi y0] (xhp s) Φ := by
  refine xW.seg (pc1 := 69) (L1 := [(2, vi 0), (1, vi y0), (0, vr 12 230)]) (st1 := []) (h1 := xhp s) 3 (fun _ _ _ _ => rfl) ?_
  exact xW.locs (L := [(0, vr 12 230), (1, vi y0), (2, vi 0)]) ⟨rfl, rfl, rfl, trivial⟩ rfl g
noncomputable def tm_worth_66_d (s : xS) (y0 : Int32) : Int32 × xS := (tm_worth_69 xfu s y0 0)
noncomputable def tm_worth_66 : xS → Int32 → Int32 × xS := Classical.choose (⟨tm_worth_66_d, rfl⟩ : ∃ f, f = tm_worth_66_d)
set_option maxRecDepth 100000 in
theorem tm_worth_66_eq : tm_worth_66 = tm_worth_66_d := Classical.choose_spec (⟨tm_worth_66_d, rfl⟩ : ∃ f, f = tm_worth_66_d)
def tm_worth_66_ok (s : xS) (y0 : Int32) : Prop := (tm_worth_69_ok xfu s y0 0)
set_option maxRecDepth 100000 in
theorem n50_66 {xs : Nat → Int32} {Ls : Nat} {Φ : Option xV → xH → Prop} (s : xS) (y0 : Int32) (gq : tm_worth_66_ok s y0) (h : Φ (some (vi (tm_worth_66 s y0).1)) (xhp (tm_worth_66 s y0).2)) : xW (xX0 xs Ls) p50 66 [(0, vr 12 230)] [vi y0] (xhp s) Φ := by
  rw [tm_worth_66_eq] at h
  unfold tm_worth_66_d at h
  unfold tm_worth_66_ok at gq
  exact b50_66 s y0 (n50_69 _ _ _ _ gq h)
set_option maxRecDepth 100000 in
theorem b50_50 {xs : Nat → Int32} {Ls : Nat} {Φ : Option xV → xH → Prop} (s : xS) (x1 : Int32) (g : xW (xX0 xs Ls) p50 66 [(0, vr 12 230)] [vi (if 0 ≤ (gI s 231 74) then x1 else (-x1))] (xhp s) Φ) : xW (xX0 xs Ls) p50 50 [(0, vr 12 230), (1, vi x1)] [] (xhp s) Φ := by
  refine xW.side (c := vp_in 74 640) (pc1 := 57) (L1 := [(0, vr 12 230), (1, vi x1)]) (st1 := [vi (gI s 231 74)]) (h1 := xhp s) 4 (fun _ _ _ _ => rfl) (vp_lit rfl) ?_
  suffices J : xW (xX0 xs Ls) p50 66 [(0, vr 12 230), (1, vi x1)] [vi (if 0 ≤ (gI s 231 74) then x1 else (-x1))] (xhp s) Φ by
    refine xW.br (c := 0 ≤ (gI s 231 74)) (pc1 := 65) (L1 := [(0, vr 12 230), (1, vi x1)]) (st1 := []) (h1 := xhp s) (pc2 := 60) (L2 := [(0, vr 12 230), (1, vi x1)]) (st2 := []) (h2 := xhp s) 1 (fun _ _ _ _ => rfl) (fun hc => ?_) (fun hc => ?_)
    · have hc1 : 0 ≤ (gI s 231 74) := hc
      refine xW.seg (pc1 := 66) (L1 := [(0, vr 12 230), (1, vi x1)]) (st1 := [vi x1]) (h1 := xhp s) 1 (fun _ _ _ _ => rfl) ?_
      refine xW.to (v := vi (if 0 ≤ (gI s 231 74) then x1 else (-x1))) ((congrArg vi (if_pos hc1)).symm) ?_
      exact J
    · have hc1 : ¬ (0 ≤ (gI s 231 74)) := hc
      refine xW.seg (pc1 := 66) (L1 := [(0, vr 12 230), (1, vi x1)]) (st1 := [vi (-x1)]) (h1 := xhp s) 3 (fun _ _ _ _ => rfl) ?_
      refine xW.to (v := vi (if 0 ≤ (gI s 231 74) then x1 else (-x1))) ((congrArg vi (if_neg hc1)).symm) ?_
      exact J
  exact xW.locs (L := [(0, vr 12 230)]) ⟨rfl, trivial⟩ rfl g
noncomputable def tm_worth_50_d (s : xS) (x1 : Int32) : Int32 × xS := (tm_worth_66 s (if 0 ≤ (gI s 231 74) then x1 else (-x1)))
noncomputable def tm_worth_50 : xS → Int32 → Int32 × xS := Classical.choose (⟨tm_worth_50_d, rfl⟩ : ∃ f, f = tm_worth_50_d)
set_option maxRecDepth 100000 in
theorem tm_worth_50_eq : tm_worth_50 = tm_worth_50_d := Classical.choose_spec (⟨tm_worth_50_d, rfl⟩ : ∃ f, f = tm_worth_50_d)
def tm_worth_50_ok (s : xS) (x1 : Int32) : Prop := (tm_worth_66_ok s (if 0 ≤ (gI s 231 74) then x1 else (-x1)))
set_option maxRecDepth 100000 in
theorem n50_50 {xs : Nat → Int32} {Ls : Nat} {Φ : Option xV → xH → Prop} (s : xS) (x1 : Int32) (gq : tm_worth_50_ok s x1) (h : Φ (some (vi (tm_worth_50 s x1).1)) (xhp (tm_worth_50 s x1).2)) : xW (xX0 xs Ls) p50 50 [(0, vr 12 230), (1, vi x1)] [] (xhp s) Φ := by
  rw [tm_worth_50_eq] at h
  unfold tm_worth_50_d at h
  unfold tm_worth_50_ok at gq
  exact b50_50 s x1 (n50_66 _ _ gq h)
set_option maxRecDepth 100000 in
theorem b50_4 {xs : Nat → Int32} {Ls : Nat} {Φ : Option xV → xH → Prop} (s : xS) (x1 : Int32) (x2 : Int32) (g : (((gI s 231 75) ≤ x2 → xW (xX0 xs Ls) p50 50 [(0, vr 12 230), (1, vi x1)] [] (xhp s) Φ) ∧ (¬ ((gI s 231 75) ≤ x2) → ((¬ (gI s 231 73) = 1 → xW (xX0 xs Ls) p50 50 [(0, vr 12 230), (1, vi x1)] [] (xhp s) Φ) ∧ ((gI s 231 73) = 1 → ((vp_in (76 + x2) 640) ∧ xW (xX0 xs Ls) p50 4 [(0, vr 12 230), (1, vi (((10 * x1) + (gI s 231 ((76 + x2).toNatClampNeg))) - 48)), (2, vi (x2 + 1))] [] (xhp s) Φ)))))) : xW (xX0 xs Ls) p50 4 [(0, vr 12 230), (1, vi x1), (2, vi x2)] [] (xhp s) Φ := by
  refine xW.side (c := vp_in 75 640) (pc1 := 12) (L1 := [(0, vr 12 230), (1, vi x1), (2, vi x2)]) (st1 := [vi (gI s 231 75), vi x2]) (h1 := xhp s) 5 (fun _ _ _ _ => rfl) (vp_lit rfl) ?_
  refine xW.br (c := (gI s 231 75) ≤ x2) (pc1 := 50) (L1 := [(0, vr 12 230), (1, vi x1), (2, vi x2)]) (st1 := []) (h1 := xhp s) (pc2 := 15) (L2 := [(0, vr 12 230), (1, vi x1), (2, vi x2)]) (st2 := []) (h2 := xhp s) 1 (fun _ _ _ _ => rfl) (fun hc => ?_) (fun hc => ?_)
  · replace g := g.1 hc
    exact xW.locs (L := [(0, vr 12 230), (1, vi x1)]) ⟨rfl, rfl, trivial⟩ rfl g
  · replace g := g.2 hc
    refine xW.side (c := vp_in 73 640) (pc1 := 22) (L1 := [(0, vr 12 230), (1, vi x1), (2, vi x2)]) (st1 := [vi (gI s 231 73)]) (h1 := xhp s) 4 (fun _ _ _ _ => rfl) (vp_lit rfl) ?_
    refine xW.br (c := ¬ (gI s 231 73) = 1) (pc1 := 50) (L1 := [(0, vr 12 230), (1, vi x1), (2, vi x2)]) (st1 := []) (h1 := xhp s) (pc2 := 26) (L2 := [(0, vr 12 230), (1, vi x1), (2, vi x2)]) (st2 := []) (h2 := xhp s) 2 (fun _ _ _ _ => rfl) (fun hc => ?_) (fun hc => ?_)
    · replace g := g.1 hc
      exact xW.locs (L := [(0, vr 12 230), (1, vi x1)]) ⟨rfl, rfl, trivial⟩ rfl g
    · replace g := g.2 (Decidable.not_not.mp hc)
      refine xW.side (c := vp_in (76 + x2) 640) (pc1 := 39) (L1 := [(0, vr 12 230), (1, vi x1), (2, vi x2)]) (st1 := [vi (gI s 231 ((76 + x2).toNatClampNeg)), vi (10 * x1)]) (h1 := xhp s) 9 (fun _ _ _ _ => rfl) g.1 ?_
      replace g := g.2
      refine xW.seg (pc1 := 4) (L1 := [(2, vi (x2 + 1)), (1, vi (((10 * x1) + (gI s 231 ((76 + x2).toNatClampNeg))) - 48)), (0, vr 12 230)]) (st1 := []) (h1 := xhp s) 6 (fun _ _ _ _ => rfl) ?_
      exact xW.locs (L := [(0, vr 12 230), (1, vi (((10 * x1) + (gI s 231 ((76 + x2).toNatClampNeg))) - 48)), (2, vi (x2 + 1))]) ⟨rfl, rfl, rfl, trivial⟩ rfl g
noncomputable def tm_worth_4 : Nat → xS → Int32 → Int32 → Int32 × xS
  | 0, s, _, _ => (0, s)
  | n + 1, s, x1, x2 => (if (gI s 231 75) ≤ x2 then (tm_worth_50 s x1) else (if ¬ (gI s 231 73) = 1 then (tm_worth_50 s x1) else (tm_worth_4 n s (((10 * x1) + (gI s 231 ((76 + x2).toNatClampNeg))) - 48) (x2 + 1))))
def tm_worth_4_ok : Nat → xS → Int32 → Int32 → Prop
  | 0, _, _, _ => False
  | n + 1, s, x1, x2 => (((gI s 231 75) ≤ x2 → (tm_worth_50_ok s x1)) ∧ (¬ ((gI s 231 75) ≤ x2) → ((¬ (gI s 231 73) = 1 → (tm_worth_50_ok s x1)) ∧ ((gI s 231 73) = 1 → ((vp_in (76 + x2) 640) ∧ (tm_worth_4_ok n s (((10 * x1) + (gI s 231 ((76 + x2).toNatClampNeg))) - 48) (x2 + 1)))))))
set_option maxRecDepth 100000 in
theorem n50_4 {xs : Nat → Int32} {Ls : Nat} {Φ : Option xV → xH → Prop} : ∀ (n : Nat) (s : xS) (x1 : Int32) (x2 : Int32), tm_worth_4_ok n s x1 x2 → Φ (some (vi (tm_worth_4 n s x1 x2).1)) (xhp (tm_worth_4 n s x1 x2).2) → xW (xX0 xs Ls) p50 4 [(0, vr 12 230), (1, vi x1), (2, vi x2)] [] (xhp s) Φ := by
  intro n
  induction n with
  | zero => intro s _ _ gq; exact gq.elim
  | succ n ih =>
    intro s x1 x2 gq h
    unfold tm_worth_4_ok at gq
    unfold tm_worth_4 at h
    exact b50_4 s x1 x2 (⟨fun hc => by rw [if_pos hc] at h; replace gq := gq.1 hc; exact n50_50 _ _ gq h, fun hc => by rw [if_neg hc] at h; replace gq := gq.2 hc; exact ⟨fun hc => by rw [if_pos hc] at h; replace gq := gq.1 hc; exact n50_50 _ _ gq h, fun hc => by rw [if_neg (fun z => z hc)] at h; replace gq := gq.2 hc; exact ⟨gq.1, by replace gq := gq.2; exact ih _ _ _ gq h⟩⟩⟩)
set_option maxRecDepth 100000 in
theorem b50_0 {xs : Nat → Int32} {Ls : Nat} {Φ : Option xV → xH → Prop} (s : xS) (g : xW (xX0 xs Ls) p50 4 [(0, vr 12 230), (1, vi 0), (2, vi 0)] [] (xhp s) Φ) : xW (xX0 xs Ls) p50 0 [(0, vr 12 230)] [] (xhp s) Φ := by
  refine xW.seg (pc1 := 4) (L1 := [(2, vi 0), (1, vi 0), (0, vr 12 230)]) (st1 := []) (h1 := xhp s) 4 (fun _ _ _ _ => rfl) ?_
  exact xW.locs (L := [(0, vr 12 230), (1, vi 0), (2, vi 0)]) ⟨rfl, rfl, rfl, trivial⟩ rfl g
noncomputable def tm_worth_d (s : xS) : Int32 × xS := (tm_worth_4 xfu s 0 0)
noncomputable def tm_worth : xS → Int32 × xS := Classical.choose (⟨tm_worth_d, rfl⟩ : ∃ f, f = tm_worth_d)
set_option maxRecDepth 100000 in
theorem tm_worth_eq : tm_worth = tm_worth_d := Classical.choose_spec (⟨tm_worth_d, rfl⟩ : ∃ f, f = tm_worth_d)
def tm_worth_ok (s : xS) : Prop := (tm_worth_4_ok xfu s 0 0)
set_option maxRecDepth 100000 in
theorem m50 {xs : Nat → Int32} {Ls : Nat} {Ψ : xO → xH → Prop} (s : xS) (gq : tm_worth_ok s) (h : Ψ (.inl (some (vi (tm_worth s).1))) (xhp (tm_worth s).2)) : xM (xX0 xs Ls) 50 [vr 12 230] (xhp s) Ψ := by
  rw [tm_worth_eq] at h
  unfold tm_worth_d at h
  unfold tm_worth_ok at gq
  exact xM.of (P := p50) rfl rfl rfl (b50_0 s (n50_4 _ _ _ _ gq h))
/-! tm_takesBack -/
theorem b51_0 {xs : Nat → Int32} {Ls : Nat} {Φ : Option xV → xH → Prop} (s : xS) (g : ((¬ (gI s 231 73) = 1 → Φ (some (vi (zb (!decide (0 < ((gI s 231 59) - 1)))))) (xhp (sI s 231 59 ((gI s 231 59) - 1)))) ∧ ((gI s 231 73) = 1 → (((gI s 231 75) ≤ 0 → Φ (some (vi 0)) (xhp (sI (sI s 231 73 (zb (!decide ((gI s 231 75) ≤ 0)))) 231 75 0))) ∧ (¬ ((gI s 231 75) ≤ 0) → Φ (some (vi 0)) (xhp (sI (sI s 231 73 (zb (!decide ((gI s 231 75) ≤ 0)))) 231 75 ((gI s 231 75) - 1)))))))) : xW (xX0 xs Ls) p51 0 [(0, vr 12 230)] [] (xhp s) Φ := by
  refine xW.side (c := vp_in 73 640) (pc1 := 7) (L1 := [(0, vr 12 230)]) (st1 := [vi (gI s 231 73)]) (h1 := xhp s) 4 (fun _ _ _ _ => rfl) (vp_lit rfl) ?_
  refine xW.br (c := ¬ (gI s 231 73) = 1) (pc1 := 65) (L1 := [(0, vr 12 230)]) (st1 := []) (h1 := xhp s) (pc2 := 11) (L2 := [(0, vr 12 230)]) (st2 := []) (h2 := xhp s) 2 (fun _ _ _ _ => rfl) (fun hc => ?_) (fun hc => ?_)
  · replace g := g.1 hc
    refine xW.side (c := vp_in 59 640) (pc1 := 73) (L1 := [(0, vr 12 230)]) (st1 := [vi (gI s 231 59), vi 59, vr 40 231]) (h1 := xhp s) 5 (fun _ _ _ _ => rfl) (vp_lit rfl) ?_
    refine xW.side (c := vp_in 59 640) (pc1 := 76) (L1 := [(0, vr 12 230)]) (st1 := []) (h1 := xhp (sI s 231 59 ((gI s 231 59) - 1))) 3 (fun _ _ _ _ => rfl) (vp_lit rfl) ?_
    refine xW.side (c := vp_in 59 640) (pc1 := 83) (L1 := [(0, vr 12 230)]) (st1 := [vi ((gI s 231 59) - 1)]) (h1 := xhp (sI s 231 59 ((gI s 231 59) - 1))) 4 (fun _ _ _ _ => rfl) (vp_lit rfl) ?_
    suffices J : xW (xX0 xs Ls) p51 91 [(0, vr 12 230)] [vi (zb (!decide (0 < ((gI s 231 59) - 1))))] (xhp (sI s 231 59 ((gI s 231 59) - 1))) Φ by
      refine xW.br (c := 0 < ((gI s 231 59) - 1)) (pc1 := 90) (L1 := [(0, vr 12 230)]) (st1 := []) (h1 := xhp (sI s 231 59 ((gI s 231 59) - 1))) (pc2 := 86) (L2 := [(0, vr 12 230)]) (st2 := []) (h2 := xhp (sI s 231 59 ((gI s 231 59) - 1))) 1 (fun _ _ _ _ => rfl) (fun hc => ?_) (fun hc => ?_)
      · have hc1 : 0 < ((gI s 231 59) - 1) := hc
        refine xW.seg (pc1 := 91) (L1 := [(0, vr 12 230)]) (st1 := [vi 0]) (h1 := xhp (sI s 231 59 ((gI s 231 59) - 1))) 1 (fun _ _ _ _ => rfl) ?_
        refine xW.to (v := vi (zb (!decide (0 < ((gI s 231 59) - 1))))) (zb_f (by simp only [decide_eq_true hc1, Bool.true_or, Bool.or_true, Bool.false_or, Bool.or_false, Bool.true_and, Bool.and_true, Bool.false_and, Bool.and_false, Bool.not_true, Bool.not_false, cond_true, cond_false])) ?_
        exact J
      · have hc1 : ¬ (0 < ((gI s 231 59) - 1)) := hc
        refine xW.seg (pc1 := 91) (L1 := [(0, vr 12 230)]) (st1 := [vi 1]) (h1 := xhp (sI s 231 59 ((gI s 231 59) - 1))) 2 (fun _ _ _ _ => rfl) ?_
        refine xW.to (v := vi (zb (!decide (0 < ((gI s 231 59) - 1))))) (zb_t (by simp only [decide_eq_false hc1, Bool.true_or, Bool.or_true, Bool.false_or, Bool.or_false, Bool.true_and, Bool.and_true, Bool.false_and, Bool.and_false, Bool.not_true, Bool.not_false, cond_true, cond_false])) ?_
        exact J
    exact xW.retz (v0 := some (vi (zb (!decide (0 < ((gI s 231 59) - 1)))))) (h1 := xhp (sI s 231 59 ((gI s 231 59) - 1))) (c := (zb (!decide (0 < ((gI s 231 59) - 1)))) = 0 ∨ (zb (!decide (0 < ((gI s 231 59) - 1)))) = 1) 1 (fun _ _ _ _ => rfl) (zb01 _) g
  · replace g := g.2 (Decidable.not_not.mp hc)
    refine xW.side (c := vp_in 75 640) (pc1 := 24) (L1 := [(0, vr 12 230)]) (st1 := [vi (gI s 231 75), vi 73, vr 40 231]) (h1 := xhp s) 7 (fun _ _ _ _ => rfl) (vp_lit rfl) ?_
    suffices J : xW (xX0 xs Ls) p51 32 [(0, vr 12 230)] [vi (zb (!decide ((gI s 231 75) ≤ 0))), vi 73, vr 40 231] (xhp s) Φ by
      refine xW.br (c := (gI s 231 75) ≤ 0) (pc1 := 31) (L1 := [(0, vr 12 230)]) (st1 := [vi 73, vr 40 231]) (h1 := xhp s) (pc2 := 27) (L2 := [(0, vr 12 230)]) (st2 := [vi 73, vr 40 231]) (h2 := xhp s) 1 (fun _ _ _ _ => rfl) (fun hc => ?_) (fun hc => ?_)
      · have hc2 : (gI s 231 75) ≤ 0 := hc
        refine xW.seg (pc1 := 32) (L1 := [(0, vr 12 230)]) (st1 := [vi 0, vi 73, vr 40 231]) (h1 := xhp s) 1 (fun _ _ _ _ => rfl) ?_
        refine xW.to (v := vi (zb (!decide ((gI s 231 75) ≤ 0)))) (zb_f (by simp only [decide_eq_true hc2, Bool.true_or, Bool.or_true, Bool.false_or, Bool.or_false, Bool.true_and, Bool.and_true, Bool.false_and, Bool.and_false, Bool.not_true, Bool.not_false, cond_true, cond_false])) ?_
        exact J
      · have hc2 : ¬ ((gI s 231 75) ≤ 0) := hc
        refine xW.seg (pc1 := 32) (L1 := [(0, vr 12 230)]) (st1 := [vi 1, vi 73, vr 40 231]) (h1 := xhp s) 2 (fun _ _ _ _ => rfl) ?_
        refine xW.to (v := vi (zb (!decide ((gI s 231 75) ≤ 0)))) (zb_t (by simp only [decide_eq_false hc2, Bool.true_or, Bool.or_true, Bool.false_or, Bool.or_false, Bool.true_and, Bool.and_true, Bool.false_and, Bool.and_false, Bool.not_true, Bool.not_false, cond_true, cond_false])) ?_
        exact J
    refine xW.side (c := vp_in 73 640) (pc1 := 33) (L1 := [(0, vr 12 230)]) (st1 := []) (h1 := xhp (sI s 231 73 (zb (!decide ((gI s 231 75) ≤ 0))))) 1 (fun _ _ _ _ => rfl) (vp_lit rfl) ?_
    refine xW.side (c := vp_in 75 640) (pc1 := 46) (L1 := [(0, vr 12 230)]) (st1 := [vi (gI s 231 75), vi 75, vr 40 231]) (h1 := xhp (sI s 231 73 (zb (!decide ((gI s 231 75) ≤ 0))))) 7 (fun _ _ _ _ => rfl) (vp_lit rfl) ?_
    refine xW.br (c := (gI s 231 75) ≤ 0) (pc1 := 61) (L1 := [(0, vr 12 230)]) (st1 := [vi 75, vr 40 231]) (h1 := xhp (sI s 231 73 (zb (!decide ((gI s 231 75) ≤ 0))))) (pc2 := 49) (L2 := [(0, vr 12 230)]) (st2 := [vi 75, vr 40 231]) (h2 := xhp (sI s 231 73 (zb (!decide ((gI s 231 75) ≤ 0))))) 1 (fun _ _ _ _ => rfl) (fun hc => ?_) (fun hc => ?_)
    · replace g := g.1 hc
      refine xW.side (c := vp_in 75 640) (pc1 := 63) (L1 := [(0, vr 12 230)]) (st1 := []) (h1 := xhp (sI (sI s 231 73 (zb (!decide ((gI s 231 75) ≤ 0)))) 231 75 0)) 2 (fun _ _ _ _ => rfl) (vp_lit rfl) ?_
      exact xW.retz (v0 := some (vi 0)) (h1 := xhp (sI (sI s 231 73 (zb (!decide ((gI s 231 75) ≤ 0)))) 231 75 0)) (c := (0 : Int32) = 0 ∨ (0 : Int32) = 1) 2 (fun _ _ _ _ => rfl) (Or.inl rfl) g
    · replace g := g.2 hc
      refine xW.side (c := vp_in 75 640) (pc1 := 56) (L1 := [(0, vr 12 230)]) (st1 := [vi (gI s 231 75), vi 75, vr 40 231]) (h1 := xhp (sI s 231 73 (zb (!decide ((gI s 231 75) ≤ 0))))) 4 (fun _ _ _ _ => rfl) (vp_lit rfl) ?_
      refine xW.side (c := vp_in 75 640) (pc1 := 63) (L1 := [(0, vr 12 230)]) (st1 := []) (h1 := xhp (sI (sI s 231 73 (zb (!decide ((gI s 231 75) ≤ 0)))) 231 75 ((gI s 231 75) - 1))) 4 (fun _ _ _ _ => rfl) (vp_lit rfl) ?_
      exact xW.retz (v0 := some (vi 0)) (h1 := xhp (sI (sI s 231 73 (zb (!decide ((gI s 231 75) ≤ 0)))) 231 75 ((gI s 231 75) - 1))) (c := (0 : Int32) = 0 ∨ (0 : Int32) = 1) 2 (fun _ _ _ _ => rfl) (Or.inl rfl) g
noncomputable def tm_takesBack_d (s : xS) : Bool × xS := (if ¬ (gI s 231 73) = 1 then ((!decide (0 < ((gI s 231 59) - 1))), (sI s 231 59 ((gI s 231 59) - 1))) else (if (gI s 231 75) ≤ 0 then (false, (sI (sI s 231 73 (zb (!decide ((gI s 231 75) ≤ 0)))) 231 75 0)) else (false, (sI (sI s 231 73 (zb (!decide ((gI s 231 75) ≤ 0)))) 231 75 ((gI s 231 75) - 1)))))
noncomputable def tm_takesBack : xS → Bool × xS := Classical.choose (⟨tm_takesBack_d, rfl⟩ : ∃ f, f = tm_takesBack_d)
set_option maxRecDepth 100000 in
theorem tm_takesBack_eq : tm_takesBack = tm_takesBack_d := Classical.choose_spec (⟨tm_takesBack_d, rfl⟩ : ∃ f, f = tm_takesBack_d)
set_option maxRecDepth 100000 in
theorem m51 {xs : Nat → Int32} {Ls : Nat} {Ψ : xO → xH → Prop} (s : xS) (h : Ψ (.inl (some (vi (zb (tm_takesBack s).1)))) (xhp (tm_takesBack s).2)) : xM (xX0 xs Ls) 51 [vr 12 230] (xhp s) Ψ := by
  rw [tm_takesBack_eq] at h
  unfold tm_takesBack_d at h
  exact xM.of (P := p51) rfl rfl rfl (b51_0 s (⟨fun hc => by rw [if_pos hc] at h; exact (by (try dsimp only at h); exact h), fun hc => by rw [if_neg (fun z => z hc)] at h; exact ⟨fun hc => by rw [if_pos hc] at h; exact (by (try dsimp only at h); exact h), fun hc => by rw [if_neg hc] at h; exact (by (try dsimp only at h); exact h)⟩⟩))
/-! tm_edit -/
theorem b52_201 {xs : Nat → Int32} {Ls : Nat} {Φ : Option xV → xH → Prop} (s : xS) (g : Φ none (xhp (sI (sI (sI s 231 73 1) 231 74 1) 231 75 0))) : xW (xX0 xs Ls) p52 201 [(0, vr 12 230)] [] (xhp s) Φ := by
  refine xW.side (c := vp_in 73 640) (pc1 := 209) (L1 := [(0, vr 12 230)]) (st1 := []) (h1 := xhp (sI s 231 73 1)) 5 (fun _ _ _ _ => rfl) (vp_lit rfl) ?_
  refine xW.side (c := vp_in 74 640) (pc1 := 217) (L1 := [(0, vr 12 230)]) (st1 := []) (h1 := xhp (sI (sI s 231 73 1) 231 74 1)) 5 (fun _ _ _ _ => rfl) (vp_lit rfl) ?_
  refine xW.side (c := vp_in 75 640) (pc1 := 225) (L1 := [(0, vr 12 230)]) (st1 := []) (h1 := xhp (sI (sI (sI s 231 73 1) 231 74 1) 231 75 0)) 5 (fun _ _ _ _ => rfl) (vp_lit rfl) ?_
  exact xW.ret (v0 := none) (h1 := xhp (sI (sI (sI s 231 73 1) 231 74 1) 231 75 0)) 2 (fun _ _ _ _ => rfl) g
noncomputable def tm_edit_201_d (s : xS) : xS := (sI (sI (sI s 231 73 1) 231 74 1) 231 75 0)
noncomputable def tm_edit_201 : xS → xS := Classical.choose (⟨tm_edit_201_d, rfl⟩ : ∃ f, f = tm_edit_201_d)
set_option maxRecDepth 100000 in
theorem tm_edit_201_eq : tm_edit_201 = tm_edit_201_d := Classical.choose_spec (⟨tm_edit_201_d, rfl⟩ : ∃ f, f = tm_edit_201_d)
set_option maxRecDepth 100000 in
theorem n52_201 {xs : Nat → Int32} {Ls : Nat} {Φ : Option xV → xH → Prop} (s : xS) (h : Φ none (xhp (tm_edit_201 s))) : xW (xX0 xs Ls) p52 201 [(0, vr 12 230)] [] (xhp s) Φ := by
  rw [tm_edit_201_eq] at h
  unfold tm_edit_201_d at h
  exact b52_201 s (h)
set_option maxRecDepth 100000 in
theorem b52_59 {xs : Nat → Int32} {Ls : Nat} {Φ : Option xV → xH → Prop} (s : xS) (x1 : Int32) (g : ((¬ (gI s 231 73) = 0 → Φ none (xhp s)) ∧ ((gI s 231 73) = 0 → ((tm_figures_ok s) ∧ ((12 ≤ (tm_figures s) → Φ none (xhp s)) ∧ (¬ (12 ≤ (tm_figures s)) → ((vp_in (60 + (gI s 231 59)) 640) ∧ Φ none (xhp (sI (sI s 231 ((60 + (gI s 231 59)).toNatClampNeg) x1) 231 59 ((gI (sI s 231 ((60 + (gI s 231 59)).toNatClampNeg) x1) 231 59) + 1)))))))))) : xW (xX0 xs Ls) p52 59 [(0, vr 12 230), (1, vi x1)] [] (xhp s) Φ := by
  refine xW.side (c := vp_in 73 640) (pc1 := 66) (L1 := [(0, vr 12 230), (1, vi x1)]) (st1 := [vi (gI s 231 73)]) (h1 := xhp s) 4 (fun _ _ _ _ => rfl) (vp_lit rfl) ?_
  refine xW.br (c := ¬ (gI s 231 73) = 0) (pc1 := 260) (L1 := [(0, vr 12 230), (1, vi x1)]) (st1 := []) (h1 := xhp s) (pc2 := 69) (L2 := [(0, vr 12 230), (1, vi x1)]) (st2 := []) (h2 := xhp s) 1 (fun _ _ _ _ => rfl) (fun hc => ?_) (fun hc => ?_)
  · replace g := g.1 hc
    exact xW.ret (v0 := none) (h1 := xhp s) 1 (fun _ _ _ _ => rfl) g
  · replace g := g.2 (Decidable.not_not.mp hc)
    refine xW.call (y := 49) (as := [vr 12 230]) (h0 := xhp s) (pc0 := 70) (len := 3) (L0 := [(0, vr 12 230), (1, vi x1)]) (rest := []) 2 (fun _ _ _ _ => rfl) (m49 _ g.1 ?_)
    show xW (xX0 xs Ls) p52 73 [(0, vr 12 230), (1, vi x1)] [vi (tm_figures s)] (xhp s) Φ
    replace g := g.2
    refine xW.br (c := 12 ≤ (tm_figures s)) (pc1 := 260) (L1 := [(0, vr 12 230), (1, vi x1)]) (st1 := []) (h1 := xhp s) (pc2 := 78) (L2 := [(0, vr 12 230), (1, vi x1)]) (st2 := []) (h2 := xhp s) 2 (fun _ _ _ _ => rfl) (fun hc => ?_) (fun hc => ?_)
    · replace g := g.1 hc
      exact xW.ret (v0 := none) (h1 := xhp s) 1 (fun _ _ _ _ => rfl) g
    · replace g := g.2 hc
      refine xW.side (c := vp_in 59 640) (pc1 := 91) (L1 := [(0, vr 12 230), (1, vi x1)]) (st1 := [vi (gI s 231 59), vi 60, vr 40 231]) (h1 := xhp s) 7 (fun _ _ _ _ => rfl) (vp_lit rfl) ?_
      refine xW.side (c := vp_in (60 + (gI s 231 59)) 640) (pc1 := 94) (L1 := [(0, vr 12 230), (1, vi x1)]) (st1 := []) (h1 := xhp (sI s 231 ((60 + (gI s 231 59)).toNatClampNeg) x1)) 3 (fun _ _ _ _ => rfl) g.1 ?_
      replace g := g.2
      refine xW.side (c := vp_in 59 640) (pc1 := 102) (L1 := [(0, vr 12 230), (1, vi x1)]) (st1 := [vi (gI (sI s 231 ((60 + (gI s 231 59)).toNatClampNeg) x1) 231 59), vi 59, vr 40 231]) (h1 := xhp (sI s 231 ((60 + (gI s 231 59)).toNatClampNeg) x1)) 5 (fun _ _ _ _ => rfl) (vp_lit rfl) ?_
      refine xW.side (c := vp_in 59 640) (pc1 := 105) (L1 := [(0, vr 12 230), (1, vi x1)]) (st1 := []) (h1 := xhp (sI (sI s 231 ((60 + (gI s 231 59)).toNatClampNeg) x1) 231 59 ((gI (sI s 231 ((60 + (gI s 231 59)).toNatClampNeg) x1) 231 59) + 1))) 3 (fun _ _ _ _ => rfl) (vp_lit rfl) ?_
      exact xW.ret (v0 := none) (h1 := xhp (sI (sI s 231 ((60 + (gI s 231 59)).toNatClampNeg) x1) 231 59 ((gI (sI s 231 ((60 + (gI s 231 59)).toNatClampNeg) x1) 231 59) + 1))) 2 (fun _ _ _ _ => rfl) g
noncomputable def tm_edit_59_d (s : xS) (x1 : Int32) : xS := (if ¬ (gI s 231 73) = 0 then s else (if 12 ≤ (tm_figures s) then s else (sI (sI s 231 ((60 + (gI s 231 59)).toNatClampNeg) x1) 231 59 ((gI (sI s 231 ((60 + (gI s 231 59)).toNatClampNeg) x1) 231 59) + 1))))
noncomputable def tm_edit_59 : xS → Int32 → xS := Classical.choose (⟨tm_edit_59_d, rfl⟩ : ∃ f, f = tm_edit_59_d)
set_option maxRecDepth 100000 in
theorem tm_edit_59_eq : tm_edit_59 = tm_edit_59_d := Classical.choose_spec (⟨tm_edit_59_d, rfl⟩ : ∃ f, f = tm_edit_59_d)
def tm_edit_59_ok (s : xS) (x1 : Int32) : Prop := ((gI s 231 73) = 0 → ((tm_figures_ok s) ∧ (¬ (12 ≤ (tm_figures s)) → (vp_in (60 + (gI s 231 59)) 640))))
set_option maxRecDepth 100000 in
theorem n52_59 {xs : Nat → Int32} {Ls : Nat} {Φ : Option xV → xH → Prop} (s : xS) (x1 : Int32) (gq : tm_edit_59_ok s x1) (h : Φ none (xhp (tm_edit_59 s x1))) : xW (xX0 xs Ls) p52 59 [(0, vr 12 230), (1, vi x1)] [] (xhp s) Φ := by
  rw [tm_edit_59_eq] at h
  unfold tm_edit_59_d at h
  unfold tm_edit_59_ok at gq
  exact b52_59 s x1 (⟨fun hc => by rw [if_pos hc] at h; exact h, fun hc => by rw [if_neg (fun z => z hc)] at h; replace gq := gq hc; exact ⟨gq.1, by replace gq := gq.2; exact ⟨fun hc => by rw [if_pos hc] at h; exact h, fun hc => by rw [if_neg hc] at h; replace gq := gq hc; exact ⟨gq, h⟩⟩⟩⟩)
set_option maxRecDepth 100000 in
theorem b52_0 {xs : Nat → Int32} {Ls : Nat} {Φ : Option xV → xH → Prop} (s : xS) (k : Int32) (g : (((tm_isFigure k) = false → ((¬ k = 46 → ((¬ k = 69 → ((vp_in (if (gI s 231 73) = 1 then (74 : Int32) else 58) 640) ∧ ((vp_in (if (gI s 231 73) = 1 then (74 : Int32) else 58) 640) ∧ Φ none (xhp (sI s 231 ((if (gI s 231 73) = 1 then (74 : Int32) else 58).toNatClampNeg) (-(gI s 231 ((if (gI s 231 73) = 1 then (74 : Int32) else 58).toNatClampNeg)))))))) ∧ (k = 69 → ((¬ (gI s 231 73) = 0 → Φ none (xhp s)) ∧ ((gI s 231 73) = 0 → ((tm_figures_ok s) ∧ ((¬ (tm_figures s) = 0 → xW (xX0 xs Ls) p52 201 [(0, vr 12 230)] [] (xhp s) Φ) ∧ ((tm_figures s) = 0 → xW (xX0 xs Ls) p52 201 [(0, vr 12 230)] [] (xhp (sI (sI s 231 60 49) 231 59 1)) Φ)))))))) ∧ (k = 46 → ((¬ (gI s 231 73) = 0 → Φ none (xhp s)) ∧ ((gI s 231 73) = 0 → ((tm_hasPoint_ok s) ∧ ((¬ (tm_hasPoint s) = 0 → Φ none (xhp s)) ∧ ((tm_hasPoint s) = 0 → ((vp_in (60 + (gI s 231 59)) 640) ∧ Φ none (xhp (sI (sI s 231 ((60 + (gI s 231 59)).toNatClampNeg) k) 231 59 ((gI (sI s 231 ((60 + (gI s 231 59)).toNatClampNeg) k) 231 59) + 1)))))))))))) ∧ ((tm_isFigure k) = true → ((¬ (gI s 231 73) = 1 → xW (xX0 xs Ls) p52 59 [(0, vr 12 230), (1, vi k)] [] (xhp s) Φ) ∧ ((gI s 231 73) = 1 → ((2 ≤ (gI s 231 75) → xW (xX0 xs Ls) p52 59 [(0, vr 12 230), (1, vi k)] [] (xhp s) Φ) ∧ (¬ (2 ≤ (gI s 231 75)) → ((vp_in (76 + (gI s 231 75)) 640) ∧ Φ none (xhp (sI (sI s 231 ((76 + (gI s 231 75)).toNatClampNeg) k) 231 75 ((gI (sI s 231 ((76 + (gI s 231 75)).toNatClampNeg) k) 231 75) + 1))))))))))) : xW (xX0 xs Ls) p52 0 [(0, vr 12 230), (1, vi k)] [] (xhp s) Φ := by
  refine xW.call (y := 46) (as := [vi k]) (h0 := xhp s) (pc0 := 1) (len := 3) (L0 := [(0, vr 12 230), (1, vi k)]) (rest := []) 2 (fun _ _ _ _ => rfl) (m46 _ _ ?_)
  show xW (xX0 xs Ls) p52 4 [(0, vr 12 230), (1, vi k)] [vi (zb (tm_isFigure k))] (xhp s) Φ
  refine xW.br (c := (zb (tm_isFigure k)) = 0) (pc1 := 108) (L1 := [(0, vr 12 230), (1, vi k)]) (st1 := []) (h1 := xhp s) (pc2 := 7) (L2 := [(0, vr 12 230), (1, vi k)]) (st2 := []) (h2 := xhp s) 1 (fun _ _ _ _ => rfl) (fun hc => ?_) (fun hc => ?_)
  · replace g := g.1 (zb_eq0.mp hc)
    refine xW.br (c := ¬ k = 46) (pc1 := 161) (L1 := [(0, vr 12 230), (1, vi k)]) (st1 := []) (h1 := xhp s) (pc2 := 114) (L2 := [(0, vr 12 230), (1, vi k)]) (st2 := []) (h2 := xhp s) 3 (fun _ _ _ _ => rfl) (fun hc => ?_) (fun hc => ?_)
    · replace g := g.1 hc
      refine xW.br (c := ¬ k = 69) (pc1 := 228) (L1 := [(0, vr 12 230), (1, vi k)]) (st1 := []) (h1 := xhp s) (pc2 := 167) (L2 := [(0, vr 12 230), (1, vi k)]) (st2 := []) (h2 := xhp s) 3 (fun _ _ _ _ => rfl) (fun hc => ?_) (fun hc => ?_)
      · replace g := g.1 hc
        refine xW.side (c := vp_in 73 640) (pc1 := 235) (L1 := [(0, vr 12 230), (1, vi k)]) (st1 := [vi (gI s 231 73)]) (h1 := xhp s) 4 (fun _ _ _ _ => rfl) (vp_lit rfl) ?_
        refine xW.seg (pc1 := 236) (L1 := [(0, vr 12 230), (1, vi k)]) (st1 := [vi 1, vi (gI s 231 73)]) (h1 := xhp s) 1 (fun _ _ _ _ => rfl) ?_
        suffices J : xW (xX0 xs Ls) p52 246 [(0, vr 12 230), (1, vi k)] [vi (if (gI s 231 73) = 1 then (74 : Int32) else 58)] (xhp s) Φ by
          refine xW.br (c := ¬ (gI s 231 73) = 1) (pc1 := 244) (L1 := [(0, vr 12 230), (1, vi k)]) (st1 := []) (h1 := xhp s) (pc2 := 239) (L2 := [(0, vr 12 230), (1, vi k)]) (st2 := []) (h2 := xhp s) 1 (fun _ _ _ _ => rfl) (fun hc => ?_) (fun hc => ?_)
          · have hc1 : ¬ (gI s 231 73) = 1 := hc
            refine xW.seg (pc1 := 246) (L1 := [(0, vr 12 230), (1, vi k)]) (st1 := [vi 58]) (h1 := xhp s) 1 (fun _ _ _ _ => rfl) ?_
            refine xW.to (v := vi (if (gI s 231 73) = 1 then (74 : Int32) else 58)) ((congrArg vi (if_neg hc1)).symm) ?_
            exact J
          · have hc1 : (gI s 231 73) = 1 := (Decidable.not_not.mp hc)
            refine xW.seg (pc1 := 246) (L1 := [(0, vr 12 230), (1, vi k)]) (st1 := [vi 74]) (h1 := xhp s) 2 (fun _ _ _ _ => rfl) ?_
            refine xW.to (v := vi (if (gI s 231 73) = 1 then (74 : Int32) else 58)) ((congrArg vi (if_pos hc1)).symm) ?_
            exact J
        refine xW.side (c := vp_in (if (gI s 231 73) = 1 then (74 : Int32) else 58) 640) (pc1 := 258) (L1 := [(2, vi (if (gI s 231 73) = 1 then (74 : Int32) else 58)), (0, vr 12 230), (1, vi k)]) (st1 := [vi (gI s 231 ((if (gI s 231 73) = 1 then (74 : Int32) else 58).toNatClampNeg)), vi (if (gI s 231 73) = 1 then (74 : Int32) else 58), vr 40 231]) (h1 := xhp s) 8 (fun _ _ _ _ => rfl) g.1 ?_
        replace g := g.2
        refine xW.side (c := vp_in (if (gI s 231 73) = 1 then (74 : Int32) else 58) 640) (pc1 := 260) (L1 := [(2, vi (if (gI s 231 73) = 1 then (74 : Int32) else 58)), (0, vr 12 230), (1, vi k)]) (st1 := []) (h1 := xhp (sI s 231 ((if (gI s 231 73) = 1 then (74 : Int32) else 58).toNatClampNeg) (-(gI s 231 ((if (gI s 231 73) = 1 then (74 : Int32) else 58).toNatClampNeg))))) 2 (fun _ _ _ _ => rfl) g.1 ?_
        replace g := g.2
        exact xW.ret (v0 := none) (h1 := xhp (sI s 231 ((if (gI s 231 73) = 1 then (74 : Int32) else 58).toNatClampNeg) (-(gI s 231 ((if (gI s 231 73) = 1 then (74 : Int32) else 58).toNatClampNeg))))) 1 (fun _ _ _ _ => rfl) g
      · replace g := g.2 (Decidable.not_not.mp hc)
        refine xW.side (c := vp_in 73 640) (pc1 := 174) (L1 := [(0, vr 12 230), (1, vi k)]) (st1 := [vi (gI s 231 73)]) (h1 := xhp s) 4 (fun _ _ _ _ => rfl) (vp_lit rfl) ?_
        refine xW.br (c := ¬ (gI s 231 73) = 0) (pc1 := 260) (L1 := [(0, vr 12 230), (1, vi k)]) (st1 := []) (h1 := xhp s) (pc2 := 177) (L2 := [(0, vr 12 230), (1, vi k)]) (st2 := []) (h2 := xhp s) 1 (fun _ _ _ _ => rfl) (fun hc => ?_) (fun hc => ?_)
        · replace g := g.1 hc
          exact xW.ret (v0 := none) (h1 := xhp s) 1 (fun _ _ _ _ => rfl) g
        · replace g := g.2 (Decidable.not_not.mp hc)
          refine xW.call (y := 49) (as := [vr 12 230]) (h0 := xhp s) (pc0 := 178) (len := 3) (L0 := [(0, vr 12 230), (1, vi k)]) (rest := []) 2 (fun _ _ _ _ => rfl) (m49 _ g.1 ?_)
          show xW (xX0 xs Ls) p52 181 [(0, vr 12 230), (1, vi k)] [vi (tm_figures s)] (xhp s) Φ
          replace g := g.2
          refine xW.br (c := ¬ (tm_figures s) = 0) (pc1 := 201) (L1 := [(0, vr 12 230), (1, vi k)]) (st1 := []) (h1 := xhp s) (pc2 := 184) (L2 := [(0, vr 12 230), (1, vi k)]) (st2 := []) (h2 := xhp s) 1 (fun _ _ _ _ => rfl) (fun hc => ?_) (fun hc => ?_)
          · replace g := g.1 hc
            exact xW.locs (L := [(0, vr 12 230)]) ⟨rfl, trivial⟩ rfl g
          · replace g := g.2 (Decidable.not_not.mp hc)
            refine xW.side (c := vp_in 60 640) (pc1 := 193) (L1 := [(0, vr 12 230), (1, vi k)]) (st1 := []) (h1 := xhp (sI s 231 60 49)) 5 (fun _ _ _ _ => rfl) (vp_lit rfl) ?_
            refine xW.side (c := vp_in 59 640) (pc1 := 201) (L1 := [(0, vr 12 230), (1, vi k)]) (st1 := []) (h1 := xhp (sI (sI s 231 60 49) 231 59 1)) 5 (fun _ _ _ _ => rfl) (vp_lit rfl) ?_
            exact xW.locs (L := [(0, vr 12 230)]) ⟨rfl, trivial⟩ rfl g
    · replace g := g.2 (Decidable.not_not.mp hc)
      refine xW.side (c := vp_in 73 640) (pc1 := 121) (L1 := [(0, vr 12 230), (1, vi k)]) (st1 := [vi (gI s 231 73)]) (h1 := xhp s) 4 (fun _ _ _ _ => rfl) (vp_lit rfl) ?_
      refine xW.br (c := ¬ (gI s 231 73) = 0) (pc1 := 260) (L1 := [(0, vr 12 230), (1, vi k)]) (st1 := []) (h1 := xhp s) (pc2 := 124) (L2 := [(0, vr 12 230), (1, vi k)]) (st2 := []) (h2 := xhp s) 1 (fun _ _ _ _ => rfl) (fun hc => ?_) (fun hc => ?_)
      · replace g := g.1 hc
        exact xW.ret (v0 := none) (h1 := xhp s) 1 (fun _ _ _ _ => rfl) g
      · replace g := g.2 (Decidable.not_not.mp hc)
        refine xW.call (y := 48) (as := [vr 12 230]) (h0 := xhp s) (pc0 := 125) (len := 3) (L0 := [(0, vr 12 230), (1, vi k)]) (rest := []) 2 (fun _ _ _ _ => rfl) (m48 _ g.1 ?_)
        show xW (xX0 xs Ls) p52 128 [(0, vr 12 230), (1, vi k)] [vi (tm_hasPoint s)] (xhp s) Φ
        replace g := g.2
        refine xW.br (c := ¬ (tm_hasPoint s) = 0) (pc1 := 260) (L1 := [(0, vr 12 230), (1, vi k)]) (st1 := []) (h1 := xhp s) (pc2 := 131) (L2 := [(0, vr 12 230), (1, vi k)]) (st2 := []) (h2 := xhp s) 1 (fun _ _ _ _ => rfl) (fun hc => ?_) (fun hc => ?_)
        · replace g := g.1 hc
          exact xW.ret (v0 := none) (h1 := xhp s) 1 (fun _ _ _ _ => rfl) g
        · replace g := g.2 (Decidable.not_not.mp hc)
          refine xW.side (c := vp_in 59 640) (pc1 := 144) (L1 := [(0, vr 12 230), (1, vi k)]) (st1 := [vi (gI s 231 59), vi 60, vr 40 231]) (h1 := xhp s) 7 (fun _ _ _ _ => rfl) (vp_lit rfl) ?_
          refine xW.side (c := vp_in (60 + (gI s 231 59)) 640) (pc1 := 147) (L1 := [(0, vr 12 230), (1, vi k)]) (st1 := []) (h1 := xhp (sI s 231 ((60 + (gI s 231 59)).toNatClampNeg) k)) 3 (fun _ _ _ _ => rfl) g.1 ?_
          replace g := g.2
          refine xW.side (c := vp_in 59 640) (pc1 := 155) (L1 := [(0, vr 12 230), (1, vi k)]) (st1 := [vi (gI (sI s 231 ((60 + (gI s 231 59)).toNatClampNeg) k) 231 59), vi 59, vr 40 231]) (h1 := xhp (sI s 231 ((60 + (gI s 231 59)).toNatClampNeg) k)) 5 (fun _ _ _ _ => rfl) (vp_lit rfl) ?_
          refine xW.side (c := vp_in 59 640) (pc1 := 158) (L1 := [(0, vr 12 230), (1, vi k)]) (st1 := []) (h1 := xhp (sI (sI s 231 ((60 + (gI s 231 59)).toNatClampNeg) k) 231 59 ((gI (sI s 231 ((60 + (gI s 231 59)).toNatClampNeg) k) 231 59) + 1))) 3 (fun _ _ _ _ => rfl) (vp_lit rfl) ?_
          exact xW.ret (v0 := none) (h1 := xhp (sI (sI s 231 ((60 + (gI s 231 59)).toNatClampNeg) k) 231 59 ((gI (sI s 231 ((60 + (gI s 231 59)).toNatClampNeg) k) 231 59) + 1))) 2 (fun _ _ _ _ => rfl) g
  · replace g := g.2 (zb_ne0.mp hc)
    refine xW.side (c := vp_in 73 640) (pc1 := 14) (L1 := [(0, vr 12 230), (1, vi k)]) (st1 := [vi (gI s 231 73)]) (h1 := xhp s) 4 (fun _ _ _ _ => rfl) (vp_lit rfl) ?_
    refine xW.br (c := ¬ (gI s 231 73) = 1) (pc1 := 59) (L1 := [(0, vr 12 230), (1, vi k)]) (st1 := []) (h1 := xhp s) (pc2 := 18) (L2 := [(0, vr 12 230), (1, vi k)]) (st2 := []) (h2 := xhp s) 2 (fun _ _ _ _ => rfl) (fun hc => ?_) (fun hc => ?_)
    · replace g := g.1 hc
      exact g
    · replace g := g.2 (Decidable.not_not.mp hc)
      refine xW.side (c := vp_in 75 640) (pc1 := 25) (L1 := [(0, vr 12 230), (1, vi k)]) (st1 := [vi (gI s 231 75)]) (h1 := xhp s) 4 (fun _ _ _ _ => rfl) (vp_lit rfl) ?_
      refine xW.br (c := 2 ≤ (gI s 231 75)) (pc1 := 59) (L1 := [(0, vr 12 230), (1, vi k)]) (st1 := []) (h1 := xhp s) (pc2 := 29) (L2 := [(0, vr 12 230), (1, vi k)]) (st2 := []) (h2 := xhp s) 2 (fun _ _ _ _ => rfl) (fun hc => ?_) (fun hc => ?_)
      · replace g := g.1 hc
        exact g
      · replace g := g.2 hc
        refine xW.side (c := vp_in 75 640) (pc1 := 42) (L1 := [(0, vr 12 230), (1, vi k)]) (st1 := [vi (gI s 231 75), vi 76, vr 40 231]) (h1 := xhp s) 7 (fun _ _ _ _ => rfl) (vp_lit rfl) ?_
        refine xW.side (c := vp_in (76 + (gI s 231 75)) 640) (pc1 := 45) (L1 := [(0, vr 12 230), (1, vi k)]) (st1 := []) (h1 := xhp (sI s 231 ((76 + (gI s 231 75)).toNatClampNeg) k)) 3 (fun _ _ _ _ => rfl) g.1 ?_
        replace g := g.2
        refine xW.side (c := vp_in 75 640) (pc1 := 53) (L1 := [(0, vr 12 230), (1, vi k)]) (st1 := [vi (gI (sI s 231 ((76 + (gI s 231 75)).toNatClampNeg) k) 231 75), vi 75, vr 40 231]) (h1 := xhp (sI s 231 ((76 + (gI s 231 75)).toNatClampNeg) k)) 5 (fun _ _ _ _ => rfl) (vp_lit rfl) ?_
        refine xW.side (c := vp_in 75 640) (pc1 := 56) (L1 := [(0, vr 12 230), (1, vi k)]) (st1 := []) (h1 := xhp (sI (sI s 231 ((76 + (gI s 231 75)).toNatClampNeg) k) 231 75 ((gI (sI s 231 ((76 + (gI s 231 75)).toNatClampNeg) k) 231 75) + 1))) 3 (fun _ _ _ _ => rfl) (vp_lit rfl) ?_
        exact xW.ret (v0 := none) (h1 := xhp (sI (sI s 231 ((76 + (gI s 231 75)).toNatClampNeg) k) 231 75 ((gI (sI s 231 ((76 + (gI s 231 75)).toNatClampNeg) k) 231 75) + 1))) 2 (fun _ _ _ _ => rfl) g
noncomputable def tm_edit_d (s : xS) (k : Int32) : xS := (if (tm_isFigure k) = false then (if ¬ k = 46 then (if ¬ k = 69 then (sI s 231 ((if (gI s 231 73) = 1 then (74 : Int32) else 58).toNatClampNeg) (-(gI s 231 ((if (gI s 231 73) = 1 then (74 : Int32) else 58).toNatClampNeg)))) else (if ¬ (gI s 231 73) = 0 then s else (if ¬ (tm_figures s) = 0 then (tm_edit_201 s) else (tm_edit_201 (sI (sI s 231 60 49) 231 59 1))))) else (if ¬ (gI s 231 73) = 0 then s else (if ¬ (tm_hasPoint s) = 0 then s else (sI (sI s 231 ((60 + (gI s 231 59)).toNatClampNeg) k) 231 59 ((gI (sI s 231 ((60 + (gI s 231 59)).toNatClampNeg) k) 231 59) + 1))))) else (if ¬ (gI s 231 73) = 1 then (tm_edit_59 s k) else (if 2 ≤ (gI s 231 75) then (tm_edit_59 s k) else (sI (sI s 231 ((76 + (gI s 231 75)).toNatClampNeg) k) 231 75 ((gI (sI s 231 ((76 + (gI s 231 75)).toNatClampNeg) k) 231 75) + 1)))))
noncomputable def tm_edit : xS → Int32 → xS := Classical.choose (⟨tm_edit_d, rfl⟩ : ∃ f, f = tm_edit_d)
set_option maxRecDepth 100000 in
theorem tm_edit_eq : tm_edit = tm_edit_d := Classical.choose_spec (⟨tm_edit_d, rfl⟩ : ∃ f, f = tm_edit_d)
def tm_edit_ok (s : xS) (k : Int32) : Prop := (((tm_isFigure k) = false → ((¬ k = 46 → ((¬ k = 69 → ((vp_in (if (gI s 231 73) = 1 then (74 : Int32) else 58) 640) ∧ (vp_in (if (gI s 231 73) = 1 then (74 : Int32) else 58) 640))) ∧ (k = 69 → ((gI s 231 73) = 0 → (tm_figures_ok s))))) ∧ (k = 46 → ((gI s 231 73) = 0 → ((tm_hasPoint_ok s) ∧ ((tm_hasPoint s) = 0 → (vp_in (60 + (gI s 231 59)) 640))))))) ∧ ((tm_isFigure k) = true → ((¬ (gI s 231 73) = 1 → (tm_edit_59_ok s k)) ∧ ((gI s 231 73) = 1 → ((2 ≤ (gI s 231 75) → (tm_edit_59_ok s k)) ∧ (¬ (2 ≤ (gI s 231 75)) → (vp_in (76 + (gI s 231 75)) 640)))))))
set_option maxRecDepth 100000 in
theorem m52 {xs : Nat → Int32} {Ls : Nat} {Ψ : xO → xH → Prop} (s : xS) (k : Int32) (gq : tm_edit_ok s k) (h : Ψ (.inl none) (xhp (tm_edit s k))) : xM (xX0 xs Ls) 52 [vr 12 230, vi k] (xhp s) Ψ := by
  rw [tm_edit_eq] at h
  unfold tm_edit_d at h
  unfold tm_edit_ok at gq
  exact xM.of (P := p52) rfl rfl rfl (b52_0 s k (⟨fun hc => by rw [if_pos hc] at h; replace gq := gq.1 hc; exact ⟨fun hc => by rw [if_pos hc] at h; replace gq := gq.1 hc; exact ⟨fun hc => by rw [if_pos hc] at h; replace gq := gq.1 hc; exact ⟨gq.1, by replace gq := gq.2; exact ⟨gq, h⟩⟩, fun hc => by rw [if_neg (fun z => z hc)] at h; replace gq := gq.2 hc; exact ⟨fun hc => by rw [if_pos hc] at h; exact h, fun hc => by rw [if_neg (fun z => z hc)] at h; replace gq := gq hc; exact ⟨gq, ⟨fun hc => by rw [if_pos hc] at h; exact n52_201 _ h, fun hc => by rw [if_neg (fun z => z hc)] at h; exact n52_201 _ h⟩⟩⟩⟩, fun hc => by rw [if_neg (fun z => z hc)] at h; replace gq := gq.2 hc; exact ⟨fun hc => by rw [if_pos hc] at h; exact h, fun hc => by rw [if_neg (fun z => z hc)] at h; replace gq := gq hc; exact ⟨gq.1, by replace gq := gq.2; exact ⟨fun hc => by rw [if_pos hc] at h; exact h, fun hc => by rw [if_neg (fun z => z hc)] at h; replace gq := gq hc; exact ⟨gq, h⟩⟩⟩⟩⟩, fun hc => by rw [if_neg (by rw [hc]; decide)] at h; replace gq := gq.2 hc; exact ⟨fun hc => by rw [if_pos hc] at h; replace gq := gq.1 hc; exact n52_59 _ _ gq h, fun hc => by rw [if_neg (fun z => z hc)] at h; replace gq := gq.2 hc; exact ⟨fun hc => by rw [if_pos hc] at h; replace gq := gq.1 hc; exact n52_59 _ _ gq h, fun hc => by rw [if_neg hc] at h; replace gq := gq.2 hc; exact ⟨gq, h⟩⟩⟩⟩))
/-! tm_end -/
theorem b54_0 {xs : Nat → Int32} {Ls : Nat} {Φ : Option xV → xH → Prop} (s : xS) (g : ((¬ (gI s 231 57) = 1 → Φ none (xhp (sI (sI s 231 56 (gI s 231 56)) 231 57 0))) ∧ ((gI s 231 57) = 1 → Φ none (xhp (sI (sI s 231 56 1) 231 57 0))))) : xW (xX0 xs Ls) p54 0 [(0, vr 12 230)] [] (xhp s) Φ := by
  refine xW.side (c := vp_in 57 640) (pc1 := 13) (L1 := [(0, vr 12 230)]) (st1 := [vi (gI s 231 57), vi 56, vr 40 231]) (h1 := xhp s) 7 (fun _ _ _ _ => rfl) (vp_lit rfl) ?_
  refine xW.br (c := ¬ (gI s 231 57) = 1) (pc1 := 21) (L1 := [(0, vr 12 230)]) (st1 := [vi 56, vr 40 231]) (h1 := xhp s) (pc2 := 17) (L2 := [(0, vr 12 230)]) (st2 := [vi 56, vr 40 231]) (h2 := xhp s) 2 (fun _ _ _ _ => rfl) (fun hc => ?_) (fun hc => ?_)
  · replace g := g.1 hc
    refine xW.side (c := vp_in 56 640) (pc1 := 28) (L1 := [(0, vr 12 230)]) (st1 := [vi (gI s 231 56), vi 56, vr 40 231]) (h1 := xhp s) 4 (fun _ _ _ _ => rfl) (vp_lit rfl) ?_
    refine xW.side (c := vp_in 56 640) (pc1 := 29) (L1 := [(0, vr 12 230)]) (st1 := []) (h1 := xhp (sI s 231 56 (gI s 231 56))) 1 (fun _ _ _ _ => rfl) (vp_lit rfl) ?_
    refine xW.side (c := vp_in 57 640) (pc1 := 37) (L1 := [(0, vr 12 230)]) (st1 := []) (h1 := xhp (sI (sI s 231 56 (gI s 231 56)) 231 57 0)) 5 (fun _ _ _ _ => rfl) (vp_lit rfl) ?_
    exact xW.ret (v0 := none) (h1 := xhp (sI (sI s 231 56 (gI s 231 56)) 231 57 0)) 1 (fun _ _ _ _ => rfl) g
  · replace g := g.2 (Decidable.not_not.mp hc)
    refine xW.side (c := vp_in 56 640) (pc1 := 29) (L1 := [(0, vr 12 230)]) (st1 := []) (h1 := xhp (sI s 231 56 1)) 3 (fun _ _ _ _ => rfl) (vp_lit rfl) ?_
    refine xW.side (c := vp_in 57 640) (pc1 := 37) (L1 := [(0, vr 12 230)]) (st1 := []) (h1 := xhp (sI (sI s 231 56 1) 231 57 0)) 5 (fun _ _ _ _ => rfl) (vp_lit rfl) ?_
    exact xW.ret (v0 := none) (h1 := xhp (sI (sI s 231 56 1) 231 57 0)) 1 (fun _ _ _ _ => rfl) g
noncomputable def tm_end_d (s : xS) : xS := (if ¬ (gI s 231 57) = 1 then (sI (sI s 231 56 (gI s 231 56)) 231 57 0) else (sI (sI s 231 56 1) 231 57 0))
noncomputable def tm_end : xS → xS := Classical.choose (⟨tm_end_d, rfl⟩ : ∃ f, f = tm_end_d)
set_option maxRecDepth 100000 in
theorem tm_end_eq : tm_end = tm_end_d := Classical.choose_spec (⟨tm_end_d, rfl⟩ : ∃ f, f = tm_end_d)
set_option maxRecDepth 100000 in
theorem m54 {xs : Nat → Int32} {Ls : Nat} {Ψ : xO → xH → Prop} (s : xS) (h : Ψ (.inl none) (xhp (tm_end s))) : xM (xX0 xs Ls) 54 [vr 12 230] (xhp s) Ψ := by
  rw [tm_end_eq] at h
  unfold tm_end_d at h
  exact xM.of (P := p54) rfl rfl rfl (b54_0 s (⟨fun hc => by rw [if_pos hc] at h; exact h, fun hc => by rw [if_neg (fun z => z hc)] at h; exact h⟩))
/-! tm_lift -/
theorem b55_0 {xs : Nat → Int32} {Ls : Nat} {Φ : Option xV → xH → Prop} (s : xS) (g : ((tm_move_ok s 12 13) ∧ ((tm_move_ok (tm_move s 12 13) 11 12) ∧ ((tm_move_ok (tm_move (tm_move s 12 13) 11 12) 10 11) ∧ Φ none (xhp (tm_move (tm_move (tm_move s 12 13) 11 12) 10 11)))))) : xW (xX0 xs Ls) p55 0 [(0, vr 12 230)] [] (xhp s) Φ := by
  refine xW.call (y := 33) (as := [vr 12 230, vi 12, vi 13]) (h0 := xhp s) (pc0 := 5) (len := 3) (L0 := [(0, vr 12 230)]) (rest := []) 4 (fun _ _ _ _ => rfl) (m33 _ _ _ g.1 ?_)
  show xW (xX0 xs Ls) p55 8 [(0, vr 12 230)] [] (xhp (tm_move s 12 13)) Φ
  replace g := g.2
  refine xW.call (y := 33) (as := [vr 12 230, vi 11, vi 12]) (h0 := xhp (tm_move s 12 13)) (pc0 := 13) (len := 3) (L0 := [(0, vr 12 230)]) (rest := []) 4 (fun _ _ _ _ => rfl) (m33 _ _ _ g.1 ?_)
  show xW (xX0 xs Ls) p55 16 [(0, vr 12 230)] [] (xhp (tm_move (tm_move s 12 13) 11 12)) Φ
  replace g := g.2
  refine xW.call (y := 33) (as := [vr 12 230, vi 10, vi 11]) (h0 := xhp (tm_move (tm_move s 12 13) 11 12)) (pc0 := 21) (len := 3) (L0 := [(0, vr 12 230)]) (rest := []) 4 (fun _ _ _ _ => rfl) (m33 _ _ _ g.1 ?_)
  show xW (xX0 xs Ls) p55 24 [(0, vr 12 230)] [] (xhp (tm_move (tm_move (tm_move s 12 13) 11 12) 10 11)) Φ
  replace g := g.2
  exact xW.ret (v0 := none) (h1 := xhp (tm_move (tm_move (tm_move s 12 13) 11 12) 10 11)) 1 (fun _ _ _ _ => rfl) g
noncomputable def tm_lift_d (s : xS) : xS := (tm_move (tm_move (tm_move s 12 13) 11 12) 10 11)
noncomputable def tm_lift : xS → xS := Classical.choose (⟨tm_lift_d, rfl⟩ : ∃ f, f = tm_lift_d)
set_option maxRecDepth 100000 in
theorem tm_lift_eq : tm_lift = tm_lift_d := Classical.choose_spec (⟨tm_lift_d, rfl⟩ : ∃ f, f = tm_lift_d)
def tm_lift_ok (s : xS) : Prop := ((tm_move_ok s 12 13) ∧ ((tm_move_ok (tm_move s 12 13) 11 12) ∧ (tm_move_ok (tm_move (tm_move s 12 13) 11 12) 10 11)))
set_option maxRecDepth 100000 in
theorem m55 {xs : Nat → Int32} {Ls : Nat} {Ψ : xO → xH → Prop} (s : xS) (gq : tm_lift_ok s) (h : Ψ (.inl none) (xhp (tm_lift s))) : xM (xX0 xs Ls) 55 [vr 12 230] (xhp s) Ψ := by
  rw [tm_lift_eq] at h
  unfold tm_lift_d at h
  unfold tm_lift_ok at gq
  exact xM.of (P := p55) rfl rfl rfl (b55_0 s (⟨gq.1, by replace gq := gq.2; exact ⟨gq.1, by replace gq := gq.2; exact ⟨gq, h⟩⟩⟩))
/-! tm_push -/
theorem b56_15 {xs : Nat → Int32} {Ls : Nat} {Φ : Option xV → xH → Prop} (s : xS) (g : ((tm_set_ok s 10 (gI s 230 29) (gJ s 230 30) (gI s 230 31)) ∧ Φ none (xhp (tm_set s 10 (gI s 230 29) (gJ s 230 30) (gI s 230 31))))) : xW (xX0 xs Ls) p56 15 [(0, vr 12 230)] [] (xhp s) Φ := by
  refine xW.call (y := 32) (as := [vr 12 230, vi 10, vi (gI s 230 29), vl (gJ s 230 30), vi (gI s 230 31)]) (h0 := xhp s) (pc0 := 30) (len := 3) (L0 := [(0, vr 12 230)]) (rest := []) 9 (fun _ _ _ _ => rfl) (m32 _ _ _ _ _ g.1 ?_)
  show xW (xX0 xs Ls) p56 33 [(0, vr 12 230)] [] (xhp (tm_set s 10 (gI s 230 29) (gJ s 230 30) (gI s 230 31))) Φ
  replace g := g.2
  exact xW.ret (v0 := none) (h1 := xhp (tm_set s 10 (gI s 230 29) (gJ s 230 30) (gI s 230 31))) 1 (fun _ _ _ _ => rfl) g
noncomputable def tm_push_15_d (s : xS) : xS := (tm_set s 10 (gI s 230 29) (gJ s 230 30) (gI s 230 31))
noncomputable def tm_push_15 : xS → xS := Classical.choose (⟨tm_push_15_d, rfl⟩ : ∃ f, f = tm_push_15_d)
set_option maxRecDepth 100000 in
theorem tm_push_15_eq : tm_push_15 = tm_push_15_d := Classical.choose_spec (⟨tm_push_15_d, rfl⟩ : ∃ f, f = tm_push_15_d)
def tm_push_15_ok (s : xS) : Prop := (tm_set_ok s 10 (gI s 230 29) (gJ s 230 30) (gI s 230 31))
set_option maxRecDepth 100000 in
theorem n56_15 {xs : Nat → Int32} {Ls : Nat} {Φ : Option xV → xH → Prop} (s : xS) (gq : tm_push_15_ok s) (h : Φ none (xhp (tm_push_15 s))) : xW (xX0 xs Ls) p56 15 [(0, vr 12 230)] [] (xhp s) Φ := by
  rw [tm_push_15_eq] at h
  unfold tm_push_15_d at h
  unfold tm_push_15_ok at gq
  exact b56_15 s (⟨gq, h⟩)
set_option maxRecDepth 100000 in
theorem b56_0 {xs : Nat → Int32} {Ls : Nat} {Φ : Option xV → xH → Prop} (s : xS) (g : ((¬ (gI s 231 56) = 1 → xW (xX0 xs Ls) p56 15 [(0, vr 12 230)] [] (xhp s) Φ) ∧ ((gI s 231 56) = 1 → ((tm_lift_ok s) ∧ xW (xX0 xs Ls) p56 15 [(0, vr 12 230)] [] (xhp (tm_lift s)) Φ)))) : xW (xX0 xs Ls) p56 0 [(0, vr 12 230)] [] (xhp s) Φ := by
  refine xW.side (c := vp_in 56 640) (pc1 := 7) (L1 := [(0, vr 12 230)]) (st1 := [vi (gI s 231 56)]) (h1 := xhp s) 4 (fun _ _ _ _ => rfl) (vp_lit rfl) ?_
  refine xW.br (c := ¬ (gI s 231 56) = 1) (pc1 := 15) (L1 := [(0, vr 12 230)]) (st1 := []) (h1 := xhp s) (pc2 := 11) (L2 := [(0, vr 12 230)]) (st2 := []) (h2 := xhp s) 2 (fun _ _ _ _ => rfl) (fun hc => ?_) (fun hc => ?_)
  · replace g := g.1 hc
    exact g
  · replace g := g.2 (Decidable.not_not.mp hc)
    refine xW.call (y := 55) (as := [vr 12 230]) (h0 := xhp s) (pc0 := 12) (len := 3) (L0 := [(0, vr 12 230)]) (rest := []) 2 (fun _ _ _ _ => rfl) (m55 _ g.1 ?_)
    show xW (xX0 xs Ls) p56 15 [(0, vr 12 230)] [] (xhp (tm_lift s)) Φ
    replace g := g.2
    exact g
noncomputable def tm_push_d (s : xS) : xS := (if ¬ (gI s 231 56) = 1 then (tm_push_15 s) else (tm_push_15 (tm_lift s)))
noncomputable def tm_push : xS → xS := Classical.choose (⟨tm_push_d, rfl⟩ : ∃ f, f = tm_push_d)
set_option maxRecDepth 100000 in
theorem tm_push_eq : tm_push = tm_push_d := Classical.choose_spec (⟨tm_push_d, rfl⟩ : ∃ f, f = tm_push_d)
def tm_push_ok (s : xS) : Prop := ((¬ (gI s 231 56) = 1 → (tm_push_15_ok s)) ∧ ((gI s 231 56) = 1 → ((tm_lift_ok s) ∧ (tm_push_15_ok (tm_lift s)))))
set_option maxRecDepth 100000 in
theorem m56 {xs : Nat → Int32} {Ls : Nat} {Ψ : xO → xH → Prop} (s : xS) (gq : tm_push_ok s) (h : Ψ (.inl none) (xhp (tm_push s))) : xM (xX0 xs Ls) 56 [vr 12 230] (xhp s) Ψ := by
  rw [tm_push_eq] at h
  unfold tm_push_d at h
  unfold tm_push_ok at gq
  exact xM.of (P := p56) rfl rfl rfl (b56_0 s (⟨fun hc => by rw [if_pos hc] at h; replace gq := gq.1 hc; exact n56_15 _ gq h, fun hc => by rw [if_neg (fun z => z hc)] at h; replace gq := gq.2 hc; exact ⟨gq.1, by replace gq := gq.2; exact n56_15 _ gq h⟩⟩))
/-! tm_recall -/
theorem b57_0 {xs : Nat → Int32} {Ls : Nat} {Φ : Option xV → xH → Prop} (s : xS) (i : Int32) (g : ((vp_in i 640) ∧ ((vp_in i 192) ∧ ((vp_in (23 + i) 640) ∧ Φ none (xhp (sI (sJ (sI s 230 29 (gI s 231 i.toNatClampNeg)) 230 30 (gJ s 232 i.toNatClampNeg)) 230 31 (gI s 231 ((23 + i).toNatClampNeg)))))))) : xW (xX0 xs Ls) p57 0 [(0, vr 12 230), (1, vi i)] [] (xhp s) Φ := by
  refine xW.side (c := vp_in i 640) (pc1 := 7) (L1 := [(0, vr 12 230), (1, vi i)]) (st1 := [vi (gI s 231 i.toNatClampNeg), vr 12 230]) (h1 := xhp s) 5 (fun _ _ _ _ => rfl) g.1 ?_
  replace g := g.2
  refine xW.side (c := vp_in i 192) (pc1 := 17) (L1 := [(0, vr 12 230), (1, vi i)]) (st1 := [vl (gJ s 232 i.toNatClampNeg), vr 12 230]) (h1 := xhp (sI s 230 29 (gI s 231 i.toNatClampNeg))) 6 (fun _ _ _ _ => rfl) g.1 ?_
  replace g := g.2
  refine xW.side (c := vp_in (23 + i) 640) (pc1 := 30) (L1 := [(0, vr 12 230), (1, vi i)]) (st1 := [vi (gI s 231 ((23 + i).toNatClampNeg)), vr 12 230]) (h1 := xhp (sJ (sI s 230 29 (gI s 231 i.toNatClampNeg)) 230 30 (gJ s 232 i.toNatClampNeg))) 8 (fun _ _ _ _ => rfl) g.1 ?_
  replace g := g.2
  exact xW.ret (v0 := none) (h1 := xhp (sI (sJ (sI s 230 29 (gI s 231 i.toNatClampNeg)) 230 30 (gJ s 232 i.toNatClampNeg)) 230 31 (gI s 231 ((23 + i).toNatClampNeg)))) 2 (fun _ _ _ _ => rfl) g
noncomputable def tm_recall_d (s : xS) (i : Int32) : xS := (sI (sJ (sI s 230 29 (gI s 231 i.toNatClampNeg)) 230 30 (gJ s 232 i.toNatClampNeg)) 230 31 (gI s 231 ((23 + i).toNatClampNeg)))
noncomputable def tm_recall : xS → Int32 → xS := Classical.choose (⟨tm_recall_d, rfl⟩ : ∃ f, f = tm_recall_d)
set_option maxRecDepth 100000 in
theorem tm_recall_eq : tm_recall = tm_recall_d := Classical.choose_spec (⟨tm_recall_d, rfl⟩ : ∃ f, f = tm_recall_d)
def tm_recall_ok (s : xS) (i : Int32) : Prop := ((vp_in i 640) ∧ ((vp_in i 192) ∧ (vp_in (23 + i) 640)))
set_option maxRecDepth 100000 in
theorem m57 {xs : Nat → Int32} {Ls : Nat} {Ψ : xO → xH → Prop} (s : xS) (i : Int32) (gq : tm_recall_ok s i) (h : Ψ (.inl none) (xhp (tm_recall s i))) : xM (xX0 xs Ls) 57 [vr 12 230, vi i] (xhp s) Ψ := by
  rw [tm_recall_eq] at h
  unfold tm_recall_d at h
  unfold tm_recall_ok at gq
  exact xM.of (P := p57) rfl rfl rfl (b57_0 s i (⟨gq.1, by replace gq := gq.2; exact ⟨gq.1, by replace gq := gq.2; exact ⟨gq, h⟩⟩⟩))
/-! tm_entryKey -/
theorem b53_142 {xs : Nat → Int32} {Ls : Nat} {Φ : Option xV → xH → Prop} (s : xS) (x2 : Int32) (g : ((tm_set_ok s 10 (gI s 230 29) (gJ s 230 30) (gI s 230 31)) ∧ ((x2 = 0 → Φ (some (vi 0)) (xhp (sI (tm_set s 10 (gI s 230 29) (gJ s 230 30) (gI s 230 31)) 231 55 (gI (tm_set s 10 (gI s 230 29) (gJ s 230 30) (gI s 230 31)) 231 55)))) ∧ (¬ (x2 = 0) → Φ (some (vi 0)) (xhp (sI (tm_set s 10 (gI s 230 29) (gJ s 230 30) (gI s 230 31)) 231 55 2)))))) : xW (xX0 xs Ls) p53 142 [(0, vr 12 230), (2, vi x2)] [] (xhp s) Φ := by
  refine xW.call (y := 32) (as := [vr 12 230, vi 10, vi (gI s 230 29), vl (gJ s 230 30), vi (gI s 230 31)]) (h0 := xhp s) (pc0 := 157) (len := 3) (L0 := [(0, vr 12 230), (2, vi x2)]) (rest := []) 9 (fun _ _ _ _ => rfl) (m32 _ _ _ _ _ g.1 ?_)
  show xW (xX0 xs Ls) p53 160 [(0, vr 12 230), (2, vi x2)] [] (xhp (tm_set s 10 (gI s 230 29) (gJ s 230 30) (gI s 230 31))) Φ
  replace g := g.2
  refine xW.br (c := x2 = 0) (pc1 := 174) (L1 := [(0, vr 12 230), (2, vi x2)]) (st1 := [vi 55, vr 40 231]) (h1 := xhp (tm_set s 10 (gI s 230 29) (gJ s 230 30) (gI s 230 31))) (pc2 := 170) (L2 := [(0, vr 12 230), (2, vi x2)]) (st2 := [vi 55, vr 40 231]) (h2 := xhp (tm_set s 10 (gI s 230 29) (gJ s 230 30) (gI s 230 31))) 5 (fun _ _ _ _ => rfl) (fun hc => ?_) (fun hc => ?_)
  · replace g := g.1 hc
    refine xW.side (c := vp_in 55 640) (pc1 := 181) (L1 := [(0, vr 12 230), (2, vi x2)]) (st1 := [vi (gI (tm_set s 10 (gI s 230 29) (gJ s 230 30) (gI s 230 31)) 231 55), vi 55, vr 40 231]) (h1 := xhp (tm_set s 10 (gI s 230 29) (gJ s 230 30) (gI s 230 31))) 4 (fun _ _ _ _ => rfl) (vp_lit rfl) ?_
    refine xW.side (c := vp_in 55 640) (pc1 := 182) (L1 := [(0, vr 12 230), (2, vi x2)]) (st1 := []) (h1 := xhp (sI (tm_set s 10 (gI s 230 29) (gJ s 230 30) (gI s 230 31)) 231 55 (gI (tm_set s 10 (gI s 230 29) (gJ s 230 30) (gI s 230 31)) 231 55))) 1 (fun _ _ _ _ => rfl) (vp_lit rfl) ?_
    exact xW.ret (v0 := some (vi 0)) (h1 := xhp (sI (tm_set s 10 (gI s 230 29) (gJ s 230 30) (gI s 230 31)) 231 55 (gI (tm_set s 10 (gI s 230 29) (gJ s 230 30) (gI s 230 31)) 231 55))) 2 (fun _ _ _ _ => rfl) g
  · replace g := g.2 hc
    refine xW.side (c := vp_in 55 640) (pc1 := 182) (L1 := [(0, vr 12 230), (2, vi x2)]) (st1 := []) (h1 := xhp (sI (tm_set s 10 (gI s 230 29) (gJ s 230 30) (gI s 230 31)) 231 55 2)) 3 (fun _ _ _ _ => rfl) (vp_lit rfl) ?_
    exact xW.ret (v0 := some (vi 0)) (h1 := xhp (sI (tm_set s 10 (gI s 230 29) (gJ s 230 30) (gI s 230 31)) 231 55 2)) 2 (fun _ _ _ _ => rfl) g
noncomputable def tm_entryKey_142_d (s : xS) (x2 : Int32) : Int32 × xS := (if x2 = 0 then (0, (sI (tm_set s 10 (gI s 230 29) (gJ s 230 30) (gI s 230 31)) 231 55 (gI (tm_set s 10 (gI s 230 29) (gJ s 230 30) (gI s 230 31)) 231 55))) else (0, (sI (tm_set s 10 (gI s 230 29) (gJ s 230 30) (gI s 230 31)) 231 55 2)))
noncomputable def tm_entryKey_142 : xS → Int32 → Int32 × xS := Classical.choose (⟨tm_entryKey_142_d, rfl⟩ : ∃ f, f = tm_entryKey_142_d)
set_option maxRecDepth 100000 in
theorem tm_entryKey_142_eq : tm_entryKey_142 = tm_entryKey_142_d := Classical.choose_spec (⟨tm_entryKey_142_d, rfl⟩ : ∃ f, f = tm_entryKey_142_d)
def tm_entryKey_142_ok (s : xS) (x2 : Int32) : Prop := (tm_set_ok s 10 (gI s 230 29) (gJ s 230 30) (gI s 230 31))
set_option maxRecDepth 100000 in
theorem n53_142 {xs : Nat → Int32} {Ls : Nat} {Φ : Option xV → xH → Prop} (s : xS) (x2 : Int32) (gq : tm_entryKey_142_ok s x2) (h : Φ (some (vi (tm_entryKey_142 s x2).1)) (xhp (tm_entryKey_142 s x2).2)) : xW (xX0 xs Ls) p53 142 [(0, vr 12 230), (2, vi x2)] [] (xhp s) Φ := by
  rw [tm_entryKey_142_eq] at h
  unfold tm_entryKey_142_d at h
  unfold tm_entryKey_142_ok at gq
  exact b53_142 s x2 (⟨gq, ⟨fun hc => by rw [if_pos hc] at h; exact (by (try dsimp only at h); exact h), fun hc => by rw [if_neg hc] at h; exact (by (try dsimp only at h); exact h)⟩⟩)
set_option maxRecDepth 100000 in
theorem b53_113 {xs : Nat → Int32} {Ls : Nat} {Φ : Option xV → xH → Prop} (s : xS) (x2 : Int32) (g : ((tm_worth_ok s) ∧ (((tm_worth s).1 ≤ 0 → ((x2 = 0 → xW (xX0 xs Ls) p53 142 [(0, vr 12 230), (2, vi x2)] [] (xhp ((tm_worth s).2)) Φ) ∧ (¬ (x2 = 0) → ((¬ (gI ((tm_worth s).2) 230 4) = 0 → xW (xX0 xs Ls) p53 142 [(0, vr 12 230), (2, vi x2)] [] (xhp ((tm_worth s).2)) Φ) ∧ ((gI ((tm_worth s).2) 230 4) = 0 → ((tm_push_ok ((tm_worth s).2)) ∧ Φ (some (vi 0)) (xhp (tm_push ((tm_worth s).2))))))))) ∧ (¬ ((tm_worth s).1 ≤ 0) → Φ (some (vi ((tm_worth s).1))) (xhp ((tm_worth s).2)))))) : xW (xX0 xs Ls) p53 113 [(0, vr 12 230), (2, vi x2)] [] (xhp s) Φ := by
  refine xW.call (y := 50) (as := [vr 12 230]) (h0 := xhp s) (pc0 := 114) (len := 3) (L0 := [(0, vr 12 230), (2, vi x2)]) (rest := []) 2 (fun _ _ _ _ => rfl) (m50 _ g.1 ?_)
  show xW (xX0 xs Ls) p53 117 [(0, vr 12 230), (2, vi x2)] [vi ((tm_worth s).1)] (xhp ((tm_worth s).2)) Φ
  replace g := g.2
  refine xW.br (c := (tm_worth s).1 ≤ 0) (pc1 := 124) (L1 := [(3, vi ((tm_worth s).1)), (0, vr 12 230), (2, vi x2)]) (st1 := []) (h1 := xhp ((tm_worth s).2)) (pc2 := 122) (L2 := [(3, vi ((tm_worth s).1)), (0, vr 12 230), (2, vi x2)]) (st2 := []) (h2 := xhp ((tm_worth s).2)) 3 (fun _ _ _ _ => rfl) (fun hc => ?_) (fun hc => ?_)
  · replace g := g.1 hc
    refine xW.br (c := x2 = 0) (pc1 := 142) (L1 := [(3, vi ((tm_worth s).1)), (0, vr 12 230), (2, vi x2)]) (st1 := []) (h1 := xhp ((tm_worth s).2)) (pc2 := 128) (L2 := [(3, vi ((tm_worth s).1)), (0, vr 12 230), (2, vi x2)]) (st2 := []) (h2 := xhp ((tm_worth s).2)) 2 (fun _ _ _ _ => rfl) (fun hc => ?_) (fun hc => ?_)
    · replace g := g.1 hc
      exact xW.locs (L := [(0, vr 12 230), (2, vi x2)]) ⟨rfl, rfl, trivial⟩ rfl g
    · replace g := g.2 hc
      refine xW.br (c := ¬ (gI ((tm_worth s).2) 230 4) = 0) (pc1 := 142) (L1 := [(3, vi ((tm_worth s).1)), (0, vr 12 230), (2, vi x2)]) (st1 := []) (h1 := xhp ((tm_worth s).2)) (pc2 := 135) (L2 := [(3, vi ((tm_worth s).1)), (0, vr 12 230), (2, vi x2)]) (st2 := []) (h2 := xhp ((tm_worth s).2)) 3 (fun _ _ _ _ => rfl) (fun hc => ?_) (fun hc => ?_)
      · replace g := g.1 hc
        exact xW.locs (L := [(0, vr 12 230), (2, vi x2)]) ⟨rfl, rfl, trivial⟩ rfl g
      · replace g := g.2 (Decidable.not_not.mp hc)
        refine xW.call (y := 56) (as := [vr 12 230]) (h0 := xhp ((tm_worth s).2)) (pc0 := 136) (len := 3) (L0 := [(3, vi ((tm_worth s).1)), (0, vr 12 230), (2, vi x2)]) (rest := []) 2 (fun _ _ _ _ => rfl) (m56 _ g.1 ?_)
        show xW (xX0 xs Ls) p53 139 [(3, vi ((tm_worth s).1)), (0, vr 12 230), (2, vi x2)] [] (xhp (tm_push ((tm_worth s).2))) Φ
        replace g := g.2
        exact xW.ret (v0 := some (vi 0)) (h1 := xhp (tm_push ((tm_worth s).2))) 3 (fun _ _ _ _ => rfl) g
  · replace g := g.2 hc
    exact xW.ret (v0 := some (vi ((tm_worth s).1))) (h1 := xhp ((tm_worth s).2)) 2 (fun _ _ _ _ => rfl) g
noncomputable def tm_entryKey_113_d (s : xS) (x2 : Int32) : Int32 × xS := (if (tm_worth s).1 ≤ 0 then (if x2 = 0 then (tm_entryKey_142 ((tm_worth s).2) x2) else (if ¬ (gI ((tm_worth s).2) 230 4) = 0 then (tm_entryKey_142 ((tm_worth s).2) x2) else (0, (tm_push ((tm_worth s).2))))) else (tm_worth s))
noncomputable def tm_entryKey_113 : xS → Int32 → Int32 × xS := Classical.choose (⟨tm_entryKey_113_d, rfl⟩ : ∃ f, f = tm_entryKey_113_d)
set_option maxRecDepth 100000 in
theorem tm_entryKey_113_eq : tm_entryKey_113 = tm_entryKey_113_d := Classical.choose_spec (⟨tm_entryKey_113_d, rfl⟩ : ∃ f, f = tm_entryKey_113_d)
def tm_entryKey_113_ok (s : xS) (x2 : Int32) : Prop := ((tm_worth_ok s) ∧ ((tm_worth s).1 ≤ 0 → ((x2 = 0 → (tm_entryKey_142_ok ((tm_worth s).2) x2)) ∧ (¬ (x2 = 0) → ((¬ (gI ((tm_worth s).2) 230 4) = 0 → (tm_entryKey_142_ok ((tm_worth s).2) x2)) ∧ ((gI ((tm_worth s).2) 230 4) = 0 → (tm_push_ok ((tm_worth s).2))))))))
set_option maxRecDepth 100000 in
theorem n53_113 {xs : Nat → Int32} {Ls : Nat} {Φ : Option xV → xH → Prop} (s : xS) (x2 : Int32) (gq : tm_entryKey_113_ok s x2) (h : Φ (some (vi (tm_entryKey_113 s x2).1)) (xhp (tm_entryKey_113 s x2).2)) : xW (xX0 xs Ls) p53 113 [(0, vr 12 230), (2, vi x2)] [] (xhp s) Φ := by
  rw [tm_entryKey_113_eq] at h
  unfold tm_entryKey_113_d at h
  unfold tm_entryKey_113_ok at gq
  exact b53_113 s x2 (⟨gq.1, by replace gq := gq.2; exact ⟨fun hc => by rw [if_pos hc] at h; replace gq := gq hc; exact ⟨fun hc => by rw [if_pos hc] at h; replace gq := gq.1 hc; exact n53_142 _ _ gq h, fun hc => by rw [if_neg hc] at h; replace gq := gq.2 hc; exact ⟨fun hc => by rw [if_pos hc] at h; replace gq := gq.1 hc; exact n53_142 _ _ gq h, fun hc => by rw [if_neg (fun z => z hc)] at h; replace gq := gq.2 hc; exact ⟨gq, (by (try dsimp only at h); exact h)⟩⟩⟩, fun hc => by rw [if_neg hc] at h; exact (by (try dsimp only at h); exact h)⟩⟩)
set_option maxRecDepth 100000 in
theorem b53_68 {xs : Nat → Int32} {Ls : Nat} {Φ : Option xV → xH → Prop} (s : xS) (x1 : Int32) (x2 : Int32) (g : ((¬ x1 = 66 → ((tm_edit_ok s x1) ∧ xW (xX0 xs Ls) p53 113 [(0, vr 12 230), (2, vi x2)] [] (xhp (tm_edit s x1)) Φ)) ∧ (x1 = 66 → (((tm_takesBack s).1 = false → xW (xX0 xs Ls) p53 113 [(0, vr 12 230), (2, vi x2)] [] (xhp ((tm_takesBack s).2)) Φ) ∧ ((tm_takesBack s).1 = true → ((tm_set_ok (sI (sI ((tm_takesBack s).2) 231 57 0) 231 56 0) 10 0 0 0) ∧ Φ (some (vi 0)) (xhp (tm_set (sI (sI ((tm_takesBack s).2) 231 57 0) 231 56 0) 10 0 0 0)))))))) : xW (xX0 xs Ls) p53 68 [(0, vr 12 230), (1, vi x1), (2, vi x2)] [] (xhp s) Φ := by
  refine xW.br (c := ¬ x1 = 66) (pc1 := 108) (L1 := [(0, vr 12 230), (1, vi x1), (2, vi x2)]) (st1 := []) (h1 := xhp s) (pc2 := 74) (L2 := [(0, vr 12 230), (1, vi x1), (2, vi x2)]) (st2 := []) (h2 := xhp s) 3 (fun _ _ _ _ => rfl) (fun hc => ?_) (fun hc => ?_)
  · replace g := g.1 hc
    refine xW.call (y := 52) (as := [vr 12 230, vi x1]) (h0 := xhp s) (pc0 := 110) (len := 3) (L0 := [(0, vr 12 230), (1, vi x1), (2, vi x2)]) (rest := []) 3 (fun _ _ _ _ => rfl) (m52 _ _ g.1 ?_)
    show xW (xX0 xs Ls) p53 113 [(0, vr 12 230), (1, vi x1), (2, vi x2)] [] (xhp (tm_edit s x1)) Φ
    replace g := g.2
    exact xW.locs (L := [(0, vr 12 230), (2, vi x2)]) ⟨rfl, rfl, trivial⟩ rfl g
  · replace g := g.2 (Decidable.not_not.mp hc)
    refine xW.call (y := 51) (as := [vr 12 230]) (h0 := xhp s) (pc0 := 75) (len := 3) (L0 := [(0, vr 12 230), (1, vi x1), (2, vi x2)]) (rest := []) 2 (fun _ _ _ _ => rfl) (m51 _ ?_)
    show xW (xX0 xs Ls) p53 78 [(0, vr 12 230), (1, vi x1), (2, vi x2)] [vi (zb ((tm_takesBack s).1))] (xhp ((tm_takesBack s).2)) Φ
    refine xW.br (c := (zb ((tm_takesBack s).1)) = 0) (pc1 := 113) (L1 := [(0, vr 12 230), (1, vi x1), (2, vi x2)]) (st1 := []) (h1 := xhp ((tm_takesBack s).2)) (pc2 := 81) (L2 := [(0, vr 12 230), (1, vi x1), (2, vi x2)]) (st2 := []) (h2 := xhp ((tm_takesBack s).2)) 1 (fun _ _ _ _ => rfl) (fun hc => ?_) (fun hc => ?_)
    · replace g := g.1 (zb_eq0.mp hc)
      exact xW.locs (L := [(0, vr 12 230), (2, vi x2)]) ⟨rfl, rfl, trivial⟩ rfl g
    · replace g := g.2 (zb_ne0.mp hc)
      refine xW.side (c := vp_in 57 640) (pc1 := 89) (L1 := [(0, vr 12 230), (1, vi x1), (2, vi x2)]) (st1 := []) (h1 := xhp (sI ((tm_takesBack s).2) 231 57 0)) 5 (fun _ _ _ _ => rfl) (vp_lit rfl) ?_
      refine xW.side (c := vp_in 56 640) (pc1 := 97) (L1 := [(0, vr 12 230), (1, vi x1), (2, vi x2)]) (st1 := []) (h1 := xhp (sI (sI ((tm_takesBack s).2) 231 57 0) 231 56 0)) 5 (fun _ _ _ _ => rfl) (vp_lit rfl) ?_
      refine xW.call (y := 32) (as := [vr 12 230, vi 10, vi 0, vl 0, vi 0]) (h0 := xhp (sI (sI ((tm_takesBack s).2) 231 57 0) 231 56 0)) (pc0 := 103) (len := 3) (L0 := [(0, vr 12 230), (1, vi x1), (2, vi x2)]) (rest := []) 6 (fun _ _ _ _ => rfl) (m32 _ _ _ _ _ g.1 ?_)
      show xW (xX0 xs Ls) p53 106 [(0, vr 12 230), (1, vi x1), (2, vi x2)] [] (xhp (tm_set (sI (sI ((tm_takesBack s).2) 231 57 0) 231 56 0) 10 0 0 0)) Φ
      replace g := g.2
      exact xW.ret (v0 := some (vi 0)) (h1 := xhp (tm_set (sI (sI ((tm_takesBack s).2) 231 57 0) 231 56 0) 10 0 0 0)) 2 (fun _ _ _ _ => rfl) g
noncomputable def tm_entryKey_68_d (s : xS) (x1 : Int32) (x2 : Int32) : Int32 × xS := (if ¬ x1 = 66 then (tm_entryKey_113 (tm_edit s x1) x2) else (if (tm_takesBack s).1 = false then (tm_entryKey_113 ((tm_takesBack s).2) x2) else (0, (tm_set (sI (sI ((tm_takesBack s).2) 231 57 0) 231 56 0) 10 0 0 0))))
noncomputable def tm_entryKey_68 : xS → Int32 → Int32 → Int32 × xS := Classical.choose (⟨tm_entryKey_68_d, rfl⟩ : ∃ f, f = tm_entryKey_68_d)
set_option maxRecDepth 100000 in
theorem tm_entryKey_68_eq : tm_entryKey_68 = tm_entryKey_68_d := Classical.choose_spec (⟨tm_entryKey_68_d, rfl⟩ : ∃ f, f = tm_entryKey_68_d)
def tm_entryKey_68_ok (s : xS) (x1 : Int32) (x2 : Int32) : Prop := ((¬ x1 = 66 → ((tm_edit_ok s x1) ∧ (tm_entryKey_113_ok (tm_edit s x1) x2))) ∧ (x1 = 66 → (((tm_takesBack s).1 = false → (tm_entryKey_113_ok ((tm_takesBack s).2) x2)) ∧ ((tm_takesBack s).1 = true → (tm_set_ok (sI (sI ((tm_takesBack s).2) 231 57 0) 231 56 0) 10 0 0 0)))))
set_option maxRecDepth 100000 in
theorem n53_68 {xs : Nat → Int32} {Ls : Nat} {Φ : Option xV → xH → Prop} (s : xS) (x1 : Int32) (x2 : Int32) (gq : tm_entryKey_68_ok s x1 x2) (h : Φ (some (vi (tm_entryKey_68 s x1 x2).1)) (xhp (tm_entryKey_68 s x1 x2).2)) : xW (xX0 xs Ls) p53 68 [(0, vr 12 230), (1, vi x1), (2, vi x2)] [] (xhp s) Φ := by
  rw [tm_entryKey_68_eq] at h
  unfold tm_entryKey_68_d at h
  unfold tm_entryKey_68_ok at gq
  exact b53_68 s x1 x2 (⟨fun hc => by rw [if_pos hc] at h; replace gq := gq.1 hc; exact ⟨gq.1, by replace gq := gq.2; exact n53_113 _ _ gq h⟩, fun hc => by rw [if_neg (fun z => z hc)] at h; replace gq := gq.2 hc; exact ⟨fun hc => by rw [if_pos hc] at h; replace gq := gq.1 hc; exact n53_113 _ _ gq h, fun hc => by rw [if_neg (by rw [hc]; decide)] at h; replace gq := gq.2 hc; exact ⟨gq, (by (try dsimp only at h); exact h)⟩⟩⟩)
set_option maxRecDepth 100000 in
theorem b53_0 {xs : Nat → Int32} {Ls : Nat} {Φ : Option xV → xH → Prop} (s : xS) (k : Int32) (g : (((decide ((gI s 231 57) = 0)) = false → xW (xX0 xs Ls) p53 68 [(0, vr 12 230), (1, vi k), (2, vi (zb (decide ((gI s 231 57) = 0))))] [] (xhp s) Φ) ∧ ((decide ((gI s 231 57) = 0)) = true → xW (xX0 xs Ls) p53 68 [(0, vr 12 230), (1, vi k), (2, vi (zb (decide ((gI s 231 57) = 0))))] [] (xhp (sI (sI (sI (sI (sI (sI s 231 57 1) 231 58 1) 231 59 0) 231 73 0) 231 74 1) 231 75 0)) Φ))) : xW (xX0 xs Ls) p53 0 [(0, vr 12 230), (1, vi k)] [] (xhp s) Φ := by
  refine xW.side (c := vp_in 57 640) (pc1 := 7) (L1 := [(0, vr 12 230), (1, vi k)]) (st1 := [vi (gI s 231 57)]) (h1 := xhp s) 4 (fun _ _ _ _ => rfl) (vp_lit rfl) ?_
  suffices J : xW (xX0 xs Ls) p53 15 [(0, vr 12 230), (1, vi k)] [vi (zb (decide ((gI s 231 57) = 0)))] (xhp s) Φ by
    refine xW.br (c := ¬ (gI s 231 57) = 0) (pc1 := 14) (L1 := [(0, vr 12 230), (1, vi k)]) (st1 := []) (h1 := xhp s) (pc2 := 10) (L2 := [(0, vr 12 230), (1, vi k)]) (st2 := []) (h2 := xhp s) 1 (fun _ _ _ _ => rfl) (fun hc => ?_) (fun hc => ?_)
    · have hc1 : ¬ (gI s 231 57) = 0 := hc
      refine xW.seg (pc1 := 15) (L1 := [(0, vr 12 230), (1, vi k)]) (st1 := [vi 0]) (h1 := xhp s) 1 (fun _ _ _ _ => rfl) ?_
      refine xW.to (v := vi (zb (decide ((gI s 231 57) = 0)))) (zb_f (by simp only [decide_eq_false hc1, Bool.true_or, Bool.or_true, Bool.false_or, Bool.or_false, Bool.true_and, Bool.and_true, Bool.false_and, Bool.and_false, Bool.not_true, Bool.not_false, cond_true, cond_false])) ?_
      exact J
    · have hc1 : (gI s 231 57) = 0 := (Decidable.not_not.mp hc)
      refine xW.seg (pc1 := 15) (L1 := [(0, vr 12 230), (1, vi k)]) (st1 := [vi 1]) (h1 := xhp s) 2 (fun _ _ _ _ => rfl) ?_
      refine xW.to (v := vi (zb (decide ((gI s 231 57) = 0)))) (zb_t (by simp only [decide_eq_true hc1, Bool.true_or, Bool.or_true, Bool.false_or, Bool.or_false, Bool.true_and, Bool.and_true, Bool.false_and, Bool.and_false, Bool.not_true, Bool.not_false, cond_true, cond_false])) ?_
      exact J
  refine xW.br (c := (zb (decide ((gI s 231 57) = 0))) = 0) (pc1 := 68) (L1 := [(2, vi (zb (decide ((gI s 231 57) = 0)))), (0, vr 12 230), (1, vi k)]) (st1 := []) (h1 := xhp s) (pc2 := 20) (L2 := [(2, vi (zb (decide ((gI s 231 57) = 0)))), (0, vr 12 230), (1, vi k)]) (st2 := []) (h2 := xhp s) 3 (fun _ _ _ _ => rfl) (fun hc => ?_) (fun hc => ?_)
  · replace g := g.1 (zb_eq0.mp hc)
    exact xW.locs (L := [(0, vr 12 230), (1, vi k), (2, vi (zb (decide ((gI s 231 57) = 0))))]) ⟨rfl, rfl, rfl, trivial⟩ rfl g
  · replace g := g.2 (zb_ne0.mp hc)
    refine xW.side (c := vp_in 57 640) (pc1 := 28) (L1 := [(2, vi (zb (decide ((gI s 231 57) = 0)))), (0, vr 12 230), (1, vi k)]) (st1 := []) (h1 := xhp (sI s 231 57 1)) 5 (fun _ _ _ _ => rfl) (vp_lit rfl) ?_
    refine xW.side (c := vp_in 58 640) (pc1 := 36) (L1 := [(2, vi (zb (decide ((gI s 231 57) = 0)))), (0, vr 12 230), (1, vi k)]) (st1 := []) (h1 := xhp (sI (sI s 231 57 1) 231 58 1)) 5 (fun _ _ _ _ => rfl) (vp_lit rfl) ?_
    refine xW.side (c := vp_in 59 640) (pc1 := 44) (L1 := [(2, vi (zb (decide ((gI s 231 57) = 0)))), (0, vr 12 230), (1, vi k)]) (st1 := []) (h1 := xhp (sI (sI (sI s 231 57 1) 231 58 1) 231 59 0)) 5 (fun _ _ _ _ => rfl) (vp_lit rfl) ?_
    refine xW.side (c := vp_in 73 640) (pc1 := 52) (L1 := [(2, vi (zb (decide ((gI s 231 57) = 0)))), (0, vr 12 230), (1, vi k)]) (st1 := []) (h1 := xhp (sI (sI (sI (sI s 231 57 1) 231 58 1) 231 59 0) 231 73 0)) 5 (fun _ _ _ _ => rfl) (vp_lit rfl) ?_
    refine xW.side (c := vp_in 74 640) (pc1 := 60) (L1 := [(2, vi (zb (decide ((gI s 231 57) = 0)))), (0, vr 12 230), (1, vi k)]) (st1 := []) (h1 := xhp (sI (sI (sI (sI (sI s 231 57 1) 231 58 1) 231 59 0) 231 73 0) 231 74 1)) 5 (fun _ _ _ _ => rfl) (vp_lit rfl) ?_
    refine xW.side (c := vp_in 75 640) (pc1 := 68) (L1 := [(2, vi (zb (decide ((gI s 231 57) = 0)))), (0, vr 12 230), (1, vi k)]) (st1 := []) (h1 := xhp (sI (sI (sI (sI (sI (sI s 231 57 1) 231 58 1) 231 59 0) 231 73 0) 231 74 1) 231 75 0)) 5 (fun _ _ _ _ => rfl) (vp_lit rfl) ?_
    exact xW.locs (L := [(0, vr 12 230), (1, vi k), (2, vi (zb (decide ((gI s 231 57) = 0))))]) ⟨rfl, rfl, rfl, trivial⟩ rfl g
noncomputable def tm_entryKey_d (s : xS) (k : Int32) : Int32 × xS := (if (decide ((gI s 231 57) = 0)) = false then (tm_entryKey_68 s k (zb (decide ((gI s 231 57) = 0)))) else (tm_entryKey_68 (sI (sI (sI (sI (sI (sI s 231 57 1) 231 58 1) 231 59 0) 231 73 0) 231 74 1) 231 75 0) k (zb (decide ((gI s 231 57) = 0)))))
noncomputable def tm_entryKey : xS → Int32 → Int32 × xS := Classical.choose (⟨tm_entryKey_d, rfl⟩ : ∃ f, f = tm_entryKey_d)
set_option maxRecDepth 100000 in
theorem tm_entryKey_eq : tm_entryKey = tm_entryKey_d := Classical.choose_spec (⟨tm_entryKey_d, rfl⟩ : ∃ f, f = tm_entryKey_d)
def tm_entryKey_ok (s : xS) (k : Int32) : Prop := (((decide ((gI s 231 57) = 0)) = false → (tm_entryKey_68_ok s k (zb (decide ((gI s 231 57) = 0))))) ∧ ((decide ((gI s 231 57) = 0)) = true → (tm_entryKey_68_ok (sI (sI (sI (sI (sI (sI s 231 57 1) 231 58 1) 231 59 0) 231 73 0) 231 74 1) 231 75 0) k (zb (decide ((gI s 231 57) = 0))))))
set_option maxRecDepth 100000 in
theorem m53 {xs : Nat → Int32} {Ls : Nat} {Ψ : xO → xH → Prop} (s : xS) (k : Int32) (gq : tm_entryKey_ok s k) (h : Ψ (.inl (some (vi (tm_entryKey s k).1))) (xhp (tm_entryKey s k).2)) : xM (xX0 xs Ls) 53 [vr 12 230, vi k] (xhp s) Ψ := by
  rw [tm_entryKey_eq] at h
  unfold tm_entryKey_d at h
  unfold tm_entryKey_ok at gq
  exact xM.of (P := p53) rfl rfl rfl (b53_0 s k (⟨fun hc => by rw [if_pos hc] at h; replace gq := gq.1 hc; exact n53_68 _ _ _ gq h, fun hc => by rw [if_neg (by rw [hc]; decide)] at h; replace gq := gq.2 hc; exact n53_68 _ _ _ gq h⟩))
/-! tm_single -/
theorem b58_0 {xs : Nat → Int32} {Ls : Nat} {Φ : Option xV → xH → Prop} (s : xS) (k : Int32) (g : ((¬ k = 81 → ((¬ k = 83 → ((tm_divide_ok s 1 100000000000 0 (gI s 231 10) (gJ s 232 10) (gI s 231 33)) ∧ Φ (some (vi ((tm_divide s 1 100000000000 0 (gI s 231 10) (gJ s 232 10) (gI s 231 33)).1))) (xhp ((tm_divide s 1 100000000000 0 (gI s 231 10) (gJ s 232 10) (gI s 231 33)).2)))) ∧ (k = 83 → ((tm_work_ok s 42 10 10) ∧ Φ (some (vi ((tm_work s 42 10 10).1))) (xhp ((tm_work s 42 10 10).2)))))) ∧ (k = 81 → ((tm_root_ok s (gI s 231 10) (gJ s 232 10) (gI s 231 33)) ∧ Φ (some (vi ((tm_root s (gI s 231 10) (gJ s 232 10) (gI s 231 33)).1))) (xhp ((tm_root s (gI s 231 10) (gJ s 232 10) (gI s 231 33)).2)))))) : xW (xX0 xs Ls) p58 0 [(0, vr 12 230), (1, vi k)] [] (xhp s) Φ := by
  refine xW.br (c := ¬ k = 81) (pc1 := 32) (L1 := [(0, vr 12 230), (1, vi k)]) (st1 := []) (h1 := xhp s) (pc2 := 6) (L2 := [(0, vr 12 230), (1, vi k)]) (st2 := []) (h2 := xhp s) 3 (fun _ _ _ _ => rfl) (fun hc => ?_) (fun hc => ?_)
  · replace g := g.1 hc
    refine xW.br (c := ¬ k = 83) (pc1 := 51) (L1 := [(0, vr 12 230), (1, vi k)]) (st1 := []) (h1 := xhp s) (pc2 := 38) (L2 := [(0, vr 12 230), (1, vi k)]) (st2 := []) (h2 := xhp s) 3 (fun _ _ _ _ => rfl) (fun hc => ?_) (fun hc => ?_)
    · replace g := g.1 hc
      refine xW.side (c := vp_in 10 640) (pc1 := 64) (L1 := [(0, vr 12 230), (1, vi k)]) (st1 := [vi (gI s 231 10), vi 0, vl 100000000000, vi 1, vr 12 230]) (h1 := xhp s) 8 (fun _ _ _ _ => rfl) (vp_lit rfl) ?_
      refine xW.side (c := vp_in 10 192) (pc1 := 71) (L1 := [(0, vr 12 230), (1, vi k)]) (st1 := [vl (gJ s 232 10), vi (gI s 231 10), vi 0, vl 100000000000, vi 1, vr 12 230]) (h1 := xhp s) 4 (fun _ _ _ _ => rfl) (vp_lit rfl) ?_
      refine xW.side (c := vp_in 33 640) (pc1 := 78) (L1 := [(0, vr 12 230), (1, vi k)]) (st1 := [vi (gI s 231 33), vl (gJ s 232 10), vi (gI s 231 10), vi 0, vl 100000000000, vi 1, vr 12 230]) (h1 := xhp s) 4 (fun _ _ _ _ => rfl) (vp_lit rfl) ?_
      refine xW.call (y := 40) (as := [vr 12 230, vi 1, vl 100000000000, vi 0, vi (gI s 231 10), vl (gJ s 232 10), vi (gI s 231 33)]) (h0 := xhp s) (pc0 := 78) (len := 3) (L0 := [(0, vr 12 230), (1, vi k)]) (rest := []) 1 (fun _ _ _ _ => rfl) (m40 _ _ _ _ _ _ _ g.1 ?_)
      show xW (xX0 xs Ls) p58 81 [(0, vr 12 230), (1, vi k)] [vi ((tm_divide s 1 100000000000 0 (gI s 231 10) (gJ s 232 10) (gI s 231 33)).1)] (xhp ((tm_divide s 1 100000000000 0 (gI s 231 10) (gJ s 232 10) (gI s 231 33)).2)) Φ
      replace g := g.2
      exact xW.ret (v0 := some (vi ((tm_divide s 1 100000000000 0 (gI s 231 10) (gJ s 232 10) (gI s 231 33)).1))) (h1 := xhp ((tm_divide s 1 100000000000 0 (gI s 231 10) (gJ s 232 10) (gI s 231 33)).2)) 1 (fun _ _ _ _ => rfl) g
    · replace g := g.2 (Decidable.not_not.mp hc)
      refine xW.call (y := 42) (as := [vr 12 230, vi 42, vi 10, vi 10]) (h0 := xhp s) (pc0 := 45) (len := 3) (L0 := [(0, vr 12 230), (1, vi k)]) (rest := []) 5 (fun _ _ _ _ => rfl) (m42 _ _ _ _ g.1 ?_)
      show xW (xX0 xs Ls) p58 48 [(0, vr 12 230), (1, vi k)] [vi ((tm_work s 42 10 10).1)] (xhp ((tm_work s 42 10 10).2)) Φ
      replace g := g.2
      exact xW.ret (v0 := some (vi ((tm_work s 42 10 10).1))) (h1 := xhp ((tm_work s 42 10 10).2)) 2 (fun _ _ _ _ => rfl) g
  · replace g := g.2 (Decidable.not_not.mp hc)
    refine xW.side (c := vp_in 10 640) (pc1 := 14) (L1 := [(0, vr 12 230), (1, vi k)]) (st1 := [vi (gI s 231 10), vr 12 230]) (h1 := xhp s) 5 (fun _ _ _ _ => rfl) (vp_lit rfl) ?_
    refine xW.side (c := vp_in 10 192) (pc1 := 21) (L1 := [(0, vr 12 230), (1, vi k)]) (st1 := [vl (gJ s 232 10), vi (gI s 231 10), vr 12 230]) (h1 := xhp s) 4 (fun _ _ _ _ => rfl) (vp_lit rfl) ?_
    refine xW.side (c := vp_in 33 640) (pc1 := 28) (L1 := [(0, vr 12 230), (1, vi k)]) (st1 := [vi (gI s 231 33), vl (gJ s 232 10), vi (gI s 231 10), vr 12 230]) (h1 := xhp s) 4 (fun _ _ _ _ => rfl) (vp_lit rfl) ?_
    refine xW.call (y := 41) (as := [vr 12 230, vi (gI s 231 10), vl (gJ s 232 10), vi (gI s 231 33)]) (h0 := xhp s) (pc0 := 28) (len := 3) (L0 := [(0, vr 12 230), (1, vi k)]) (rest := []) 1 (fun _ _ _ _ => rfl) (m41 _ _ _ _ g.1 ?_)
    show xW (xX0 xs Ls) p58 31 [(0, vr 12 230), (1, vi k)] [vi ((tm_root s (gI s 231 10) (gJ s 232 10) (gI s 231 33)).1)] (xhp ((tm_root s (gI s 231 10) (gJ s 232 10) (gI s 231 33)).2)) Φ
    replace g := g.2
    exact xW.ret (v0 := some (vi ((tm_root s (gI s 231 10) (gJ s 232 10) (gI s 231 33)).1))) (h1 := xhp ((tm_root s (gI s 231 10) (gJ s 232 10) (gI s 231 33)).2)) 1 (fun _ _ _ _ => rfl) g
noncomputable def tm_single_d (s : xS) (k : Int32) : Int32 × xS := (if ¬ k = 81 then (if ¬ k = 83 then (tm_divide s 1 100000000000 0 (gI s 231 10) (gJ s 232 10) (gI s 231 33)) else (tm_work s 42 10 10)) else (tm_root s (gI s 231 10) (gJ s 232 10) (gI s 231 33)))
noncomputable def tm_single : xS → Int32 → Int32 × xS := Classical.choose (⟨tm_single_d, rfl⟩ : ∃ f, f = tm_single_d)
set_option maxRecDepth 100000 in
theorem tm_single_eq : tm_single = tm_single_d := Classical.choose_spec (⟨tm_single_d, rfl⟩ : ∃ f, f = tm_single_d)
def tm_single_ok (s : xS) (k : Int32) : Prop := ((¬ k = 81 → ((¬ k = 83 → (tm_divide_ok s 1 100000000000 0 (gI s 231 10) (gJ s 232 10) (gI s 231 33))) ∧ (k = 83 → (tm_work_ok s 42 10 10)))) ∧ (k = 81 → (tm_root_ok s (gI s 231 10) (gJ s 232 10) (gI s 231 33))))
set_option maxRecDepth 100000 in
theorem m58 {xs : Nat → Int32} {Ls : Nat} {Ψ : xO → xH → Prop} (s : xS) (k : Int32) (gq : tm_single_ok s k) (h : Ψ (.inl (some (vi (tm_single s k).1))) (xhp (tm_single s k).2)) : xM (xX0 xs Ls) 58 [vr 12 230, vi k] (xhp s) Ψ := by
  rw [tm_single_eq] at h
  unfold tm_single_d at h
  unfold tm_single_ok at gq
  exact xM.of (P := p58) rfl rfl rfl (b58_0 s k (⟨fun hc => by rw [if_pos hc] at h; replace gq := gq.1 hc; exact ⟨fun hc => by rw [if_pos hc] at h; replace gq := gq.1 hc; exact ⟨gq, (by (try dsimp only at h); exact h)⟩, fun hc => by rw [if_neg (fun z => z hc)] at h; replace gq := gq.2 hc; exact ⟨gq, (by (try dsimp only at h); exact h)⟩⟩, fun hc => by rw [if_neg (fun z => z hc)] at h; replace gq := gq.2 hc; exact ⟨gq, (by (try dsimp only at h); exact h)⟩⟩))
/-! tm_isOperation -/
theorem b59_0 {xs : Nat → Int32} {Ls : Nat} {Φ : Option xV → xH → Prop} (s : xS) (k : Int32) (g : Φ (some (vi (zb ((decide (k = 43)) || ((decide (k = 45)) || ((decide (k = 42)) || (decide (k = 47)))))))) (xhp s)) : xW (xX0 xs Ls) p59 0 [(0, vi k)] [] (xhp s) Φ := by
  refine xW.seg (pc1 := 3) (L1 := [(0, vi k)]) (st1 := [vi 43, vi k]) (h1 := xhp s) 2 (fun _ _ _ _ => rfl) ?_
  suffices J : xW (xX0 xs Ls) p59 29 [(0, vi k)] [vi (zb ((decide (k = 43)) || ((decide (k = 45)) || ((decide (k = 42)) || (decide (k = 47))))))] (xhp s) Φ by
    refine xW.br (c := k = 43) (pc1 := 24) (L1 := [(0, vi k)]) (st1 := []) (h1 := xhp s) (pc2 := 6) (L2 := [(0, vi k)]) (st2 := []) (h2 := xhp s) 1 (fun _ _ _ _ => rfl) (fun hc => ?_) (fun hc => ?_)
    · have hc1 : k = 43 := hc
      refine xW.seg (pc1 := 29) (L1 := [(0, vi k)]) (st1 := [vi 1]) (h1 := xhp s) 2 (fun _ _ _ _ => rfl) ?_
      refine xW.to (v := vi (zb ((decide (k = 43)) || ((decide (k = 45)) || ((decide (k = 42)) || (decide (k = 47))))))) (zb_t (by simp only [decide_eq_true hc1, Bool.true_or, Bool.or_true, Bool.false_or, Bool.or_false, Bool.true_and, Bool.and_true, Bool.false_and, Bool.and_false, Bool.not_true, Bool.not_false, cond_true, cond_false])) ?_
      exact J
    · have hc1 : ¬ (k = 43) := hc
      refine xW.br (c := k = 45) (pc1 := 24) (L1 := [(0, vi k)]) (st1 := []) (h1 := xhp s) (pc2 := 12) (L2 := [(0, vi k)]) (st2 := []) (h2 := xhp s) 3 (fun _ _ _ _ => rfl) (fun hc => ?_) (fun hc => ?_)
      · have hc2 : k = 45 := hc
        refine xW.seg (pc1 := 29) (L1 := [(0, vi k)]) (st1 := [vi 1]) (h1 := xhp s) 2 (fun _ _ _ _ => rfl) ?_
        refine xW.to (v := vi (zb ((decide (k = 43)) || ((decide (k = 45)) || ((decide (k = 42)) || (decide (k = 47))))))) (zb_t (by simp only [decide_eq_false hc1, decide_eq_true hc2, Bool.true_or, Bool.or_true, Bool.false_or, Bool.or_false, Bool.true_and, Bool.and_true, Bool.false_and, Bool.and_false, Bool.not_true, Bool.not_false, cond_true, cond_false])) ?_
        exact J
      · have hc2 : ¬ (k = 45) := hc
        refine xW.br (c := k = 42) (pc1 := 24) (L1 := [(0, vi k)]) (st1 := []) (h1 := xhp s) (pc2 := 18) (L2 := [(0, vi k)]) (st2 := []) (h2 := xhp s) 3 (fun _ _ _ _ => rfl) (fun hc => ?_) (fun hc => ?_)
        · have hc3 : k = 42 := hc
          refine xW.seg (pc1 := 29) (L1 := [(0, vi k)]) (st1 := [vi 1]) (h1 := xhp s) 2 (fun _ _ _ _ => rfl) ?_
          refine xW.to (v := vi (zb ((decide (k = 43)) || ((decide (k = 45)) || ((decide (k = 42)) || (decide (k = 47))))))) (zb_t (by simp only [decide_eq_false hc1, decide_eq_false hc2, decide_eq_true hc3, Bool.true_or, Bool.or_true, Bool.false_or, Bool.or_false, Bool.true_and, Bool.and_true, Bool.false_and, Bool.and_false, Bool.not_true, Bool.not_false, cond_true, cond_false])) ?_
          exact J
        · have hc3 : ¬ (k = 42) := hc
          refine xW.br (c := ¬ k = 47) (pc1 := 28) (L1 := [(0, vi k)]) (st1 := []) (h1 := xhp s) (pc2 := 24) (L2 := [(0, vi k)]) (st2 := []) (h2 := xhp s) 3 (fun _ _ _ _ => rfl) (fun hc => ?_) (fun hc => ?_)
          · have hc4 : ¬ k = 47 := hc
            refine xW.seg (pc1 := 29) (L1 := [(0, vi k)]) (st1 := [vi 0]) (h1 := xhp s) 1 (fun _ _ _ _ => rfl) ?_
            refine xW.to (v := vi (zb ((decide (k = 43)) || ((decide (k = 45)) || ((decide (k = 42)) || (decide (k = 47))))))) (zb_f (by simp only [decide_eq_false hc1, decide_eq_false hc2, decide_eq_false hc3, decide_eq_false hc4, Bool.true_or, Bool.or_true, Bool.false_or, Bool.or_false, Bool.true_and, Bool.and_true, Bool.false_and, Bool.and_false, Bool.not_true, Bool.not_false, cond_true, cond_false])) ?_
            exact J
          · have hc4 : k = 47 := (Decidable.not_not.mp hc)
            refine xW.seg (pc1 := 29) (L1 := [(0, vi k)]) (st1 := [vi 1]) (h1 := xhp s) 2 (fun _ _ _ _ => rfl) ?_
            refine xW.to (v := vi (zb ((decide (k = 43)) || ((decide (k = 45)) || ((decide (k = 42)) || (decide (k = 47))))))) (zb_t (by simp only [decide_eq_false hc1, decide_eq_false hc2, decide_eq_false hc3, decide_eq_true hc4, Bool.true_or, Bool.or_true, Bool.false_or, Bool.or_false, Bool.true_and, Bool.and_true, Bool.false_and, Bool.and_false, Bool.not_true, Bool.not_false, cond_true, cond_false])) ?_
            exact J
  exact xW.retz (v0 := some (vi (zb ((decide (k = 43)) || ((decide (k = 45)) || ((decide (k = 42)) || (decide (k = 47)))))))) (h1 := xhp s) (c := (zb ((decide (k = 43)) || ((decide (k = 45)) || ((decide (k = 42)) || (decide (k = 47)))))) = 0 ∨ (zb ((decide (k = 43)) || ((decide (k = 45)) || ((decide (k = 42)) || (decide (k = 47)))))) = 1) 1 (fun _ _ _ _ => rfl) (zb01 _) g
noncomputable def tm_isOperation (k : Int32) : Bool := ((decide (k = 43)) || ((decide (k = 45)) || ((decide (k = 42)) || (decide (k = 47)))))
set_option maxRecDepth 100000 in
theorem m59 {xs : Nat → Int32} {Ls : Nat} {Ψ : xO → xH → Prop} (s : xS) (k : Int32) (h : Ψ (.inl (some (vi (zb (tm_isOperation k))))) (xhp s)) : xM (xX0 xs Ls) 59 [vi k] (xhp s) Ψ := by
  unfold tm_isOperation at h
  exact xM.of (P := p59) rfl rfl rfl (b59_0 s k (h))
/-! tm_isCommon -/
theorem b60_0 {xs : Nat → Int32} {Ls : Nat} {Φ : Option xV → xH → Prop} (s : xS) (k : Int32) (g : Φ (some (vi (zb ((decide (k = 81)) || ((decide (k = 83)) || ((decide (k = 73)) || ((decide (k = 78)) || ((decide (k = 67)) || ((decide (k = 66)) || ((!decide (k < 97)) && (!decide (116 < k)))))))))))) (xhp s)) : xW (xX0 xs Ls) p60 0 [(0, vi k)] [] (xhp s) Φ := by
  refine xW.seg (pc1 := 3) (L1 := [(0, vi k)]) (st1 := [vi 81, vi k]) (h1 := xhp s) 2 (fun _ _ _ _ => rfl) ?_
  suffices J : xW (xX0 xs Ls) p60 53 [(0, vi k)] [vi (zb ((decide (k = 81)) || ((decide (k = 83)) || ((decide (k = 73)) || ((decide (k = 78)) || ((decide (k = 67)) || ((decide (k = 66)) || ((!decide (k < 97)) && (!decide (116 < k))))))))))] (xhp s) Φ by
    refine xW.br (c := k = 81) (pc1 := 48) (L1 := [(0, vi k)]) (st1 := []) (h1 := xhp s) (pc2 := 6) (L2 := [(0, vi k)]) (st2 := []) (h2 := xhp s) 1 (fun _ _ _ _ => rfl) (fun hc => ?_) (fun hc => ?_)
    · have hc1 : k = 81 := hc
      refine xW.seg (pc1 := 53) (L1 := [(0, vi k)]) (st1 := [vi 1]) (h1 := xhp s) 2 (fun _ _ _ _ => rfl) ?_
      refine xW.to (v := vi (zb ((decide (k = 81)) || ((decide (k = 83)) || ((decide (k = 73)) || ((decide (k = 78)) || ((decide (k = 67)) || ((decide (k = 66)) || ((!decide (k < 97)) && (!decide (116 < k))))))))))) (zb_t (by simp only [decide_eq_true hc1, Bool.true_or, Bool.or_true, Bool.false_or, Bool.or_false, Bool.true_and, Bool.and_true, Bool.false_and, Bool.and_false, Bool.not_true, Bool.not_false, cond_true, cond_false])) ?_
      exact J
    · have hc1 : ¬ (k = 81) := hc
      refine xW.br (c := k = 83) (pc1 := 48) (L1 := [(0, vi k)]) (st1 := []) (h1 := xhp s) (pc2 := 12) (L2 := [(0, vi k)]) (st2 := []) (h2 := xhp s) 3 (fun _ _ _ _ => rfl) (fun hc => ?_) (fun hc => ?_)
      · have hc2 : k = 83 := hc
        refine xW.seg (pc1 := 53) (L1 := [(0, vi k)]) (st1 := [vi 1]) (h1 := xhp s) 2 (fun _ _ _ _ => rfl) ?_
        refine xW.to (v := vi (zb ((decide (k = 81)) || ((decide (k = 83)) || ((decide (k = 73)) || ((decide (k = 78)) || ((decide (k = 67)) || ((decide (k = 66)) || ((!decide (k < 97)) && (!decide (116 < k))))))))))) (zb_t (by simp only [decide_eq_false hc1, decide_eq_true hc2, Bool.true_or, Bool.or_true, Bool.false_or, Bool.or_false, Bool.true_and, Bool.and_true, Bool.false_and, Bool.and_false, Bool.not_true, Bool.not_false, cond_true, cond_false])) ?_
        exact J
      · have hc2 : ¬ (k = 83) := hc
        refine xW.br (c := k = 73) (pc1 := 48) (L1 := [(0, vi k)]) (st1 := []) (h1 := xhp s) (pc2 := 18) (L2 := [(0, vi k)]) (st2 := []) (h2 := xhp s) 3 (fun _ _ _ _ => rfl) (fun hc => ?_) (fun hc => ?_)
        · have hc3 : k = 73 := hc
          refine xW.seg (pc1 := 53) (L1 := [(0, vi k)]) (st1 := [vi 1]) (h1 := xhp s) 2 (fun _ _ _ _ => rfl) ?_
          refine xW.to (v := vi (zb ((decide (k = 81)) || ((decide (k = 83)) || ((decide (k = 73)) || ((decide (k = 78)) || ((decide (k = 67)) || ((decide (k = 66)) || ((!decide (k < 97)) && (!decide (116 < k))))))))))) (zb_t (by simp only [decide_eq_false hc1, decide_eq_false hc2, decide_eq_true hc3, Bool.true_or, Bool.or_true, Bool.false_or, Bool.or_false, Bool.true_and, Bool.and_true, Bool.false_and, Bool.and_false, Bool.not_true, Bool.not_false, cond_true, cond_false])) ?_
          exact J
        · have hc3 : ¬ (k = 73) := hc
          refine xW.br (c := k = 78) (pc1 := 48) (L1 := [(0, vi k)]) (st1 := []) (h1 := xhp s) (pc2 := 24) (L2 := [(0, vi k)]) (st2 := []) (h2 := xhp s) 3 (fun _ _ _ _ => rfl) (fun hc => ?_) (fun hc => ?_)
          · have hc4 : k = 78 := hc
            refine xW.seg (pc1 := 53) (L1 := [(0, vi k)]) (st1 := [vi 1]) (h1 := xhp s) 2 (fun _ _ _ _ => rfl) ?_
            refine xW.to (v := vi (zb ((decide (k = 81)) || ((decide (k = 83)) || ((decide (k = 73)) || ((decide (k = 78)) || ((decide (k = 67)) || ((decide (k = 66)) || ((!decide (k < 97)) && (!decide (116 < k))))))))))) (zb_t (by simp only [decide_eq_false hc1, decide_eq_false hc2, decide_eq_false hc3, decide_eq_true hc4, Bool.true_or, Bool.or_true, Bool.false_or, Bool.or_false, Bool.true_and, Bool.and_true, Bool.false_and, Bool.and_false, Bool.not_true, Bool.not_false, cond_true, cond_false])) ?_
            exact J
          · have hc4 : ¬ (k = 78) := hc
            refine xW.br (c := k = 67) (pc1 := 48) (L1 := [(0, vi k)]) (st1 := []) (h1 := xhp s) (pc2 := 30) (L2 := [(0, vi k)]) (st2 := []) (h2 := xhp s) 3 (fun _ _ _ _ => rfl) (fun hc => ?_) (fun hc => ?_)
            · have hc5 : k = 67 := hc
              refine xW.seg (pc1 := 53) (L1 := [(0, vi k)]) (st1 := [vi 1]) (h1 := xhp s) 2 (fun _ _ _ _ => rfl) ?_
              refine xW.to (v := vi (zb ((decide (k = 81)) || ((decide (k = 83)) || ((decide (k = 73)) || ((decide (k = 78)) || ((decide (k = 67)) || ((decide (k = 66)) || ((!decide (k < 97)) && (!decide (116 < k))))))))))) (zb_t (by simp only [decide_eq_false hc1, decide_eq_false hc2, decide_eq_false hc3, decide_eq_false hc4, decide_eq_true hc5, Bool.true_or, Bool.or_true, Bool.false_or, Bool.or_false, Bool.true_and, Bool.and_true, Bool.false_and, Bool.and_false, Bool.not_true, Bool.not_false, cond_true, cond_false])) ?_
              exact J
            · have hc5 : ¬ (k = 67) := hc
              refine xW.br (c := k = 66) (pc1 := 48) (L1 := [(0, vi k)]) (st1 := []) (h1 := xhp s) (pc2 := 36) (L2 := [(0, vi k)]) (st2 := []) (h2 := xhp s) 3 (fun _ _ _ _ => rfl) (fun hc => ?_) (fun hc => ?_)
              · have hc6 : k = 66 := hc
                refine xW.seg (pc1 := 53) (L1 := [(0, vi k)]) (st1 := [vi 1]) (h1 := xhp s) 2 (fun _ _ _ _ => rfl) ?_
                refine xW.to (v := vi (zb ((decide (k = 81)) || ((decide (k = 83)) || ((decide (k = 73)) || ((decide (k = 78)) || ((decide (k = 67)) || ((decide (k = 66)) || ((!decide (k < 97)) && (!decide (116 < k))))))))))) (zb_t (by simp only [decide_eq_false hc1, decide_eq_false hc2, decide_eq_false hc3, decide_eq_false hc4, decide_eq_false hc5, decide_eq_true hc6, Bool.true_or, Bool.or_true, Bool.false_or, Bool.or_false, Bool.true_and, Bool.and_true, Bool.false_and, Bool.and_false, Bool.not_true, Bool.not_false, cond_true, cond_false])) ?_
                exact J
              · have hc6 : ¬ (k = 66) := hc
                refine xW.br (c := k < 97) (pc1 := 52) (L1 := [(0, vi k)]) (st1 := []) (h1 := xhp s) (pc2 := 42) (L2 := [(0, vi k)]) (st2 := []) (h2 := xhp s) 3 (fun _ _ _ _ => rfl) (fun hc => ?_) (fun hc => ?_)
                · have hc7 : k < 97 := hc
                  refine xW.seg (pc1 := 53) (L1 := [(0, vi k)]) (st1 := [vi 0]) (h1 := xhp s) 1 (fun _ _ _ _ => rfl) ?_
                  refine xW.to (v := vi (zb ((decide (k = 81)) || ((decide (k = 83)) || ((decide (k = 73)) || ((decide (k = 78)) || ((decide (k = 67)) || ((decide (k = 66)) || ((!decide (k < 97)) && (!decide (116 < k))))))))))) (zb_f (by simp only [decide_eq_false hc1, decide_eq_false hc2, decide_eq_false hc3, decide_eq_false hc4, decide_eq_false hc5, decide_eq_false hc6, decide_eq_true hc7, Bool.true_or, Bool.or_true, Bool.false_or, Bool.or_false, Bool.true_and, Bool.and_true, Bool.false_and, Bool.and_false, Bool.not_true, Bool.not_false, cond_true, cond_false])) ?_
                  exact J
                · have hc7 : ¬ (k < 97) := hc
                  refine xW.br (c := 116 < k) (pc1 := 52) (L1 := [(0, vi k)]) (st1 := []) (h1 := xhp s) (pc2 := 48) (L2 := [(0, vi k)]) (st2 := []) (h2 := xhp s) 3 (fun _ _ _ _ => rfl) (fun hc => ?_) (fun hc => ?_)
                  · have hc8 : 116 < k := hc
                    refine xW.seg (pc1 := 53) (L1 := [(0, vi k)]) (st1 := [vi 0]) (h1 := xhp s) 1 (fun _ _ _ _ => rfl) ?_
                    refine xW.to (v := vi (zb ((decide (k = 81)) || ((decide (k = 83)) || ((decide (k = 73)) || ((decide (k = 78)) || ((decide (k = 67)) || ((decide (k = 66)) || ((!decide (k < 97)) && (!decide (116 < k))))))))))) (zb_f (by simp only [decide_eq_false hc1, decide_eq_false hc2, decide_eq_false hc3, decide_eq_false hc4, decide_eq_false hc5, decide_eq_false hc6, decide_eq_false hc7, decide_eq_true hc8, Bool.true_or, Bool.or_true, Bool.false_or, Bool.or_false, Bool.true_and, Bool.and_true, Bool.false_and, Bool.and_false, Bool.not_true, Bool.not_false, cond_true, cond_false])) ?_
                    exact J
                  · have hc8 : ¬ (116 < k) := hc
                    refine xW.seg (pc1 := 53) (L1 := [(0, vi k)]) (st1 := [vi 1]) (h1 := xhp s) 2 (fun _ _ _ _ => rfl) ?_
                    refine xW.to (v := vi (zb ((decide (k = 81)) || ((decide (k = 83)) || ((decide (k = 73)) || ((decide (k = 78)) || ((decide (k = 67)) || ((decide (k = 66)) || ((!decide (k < 97)) && (!decide (116 < k))))))))))) (zb_t (by simp only [decide_eq_false hc1, decide_eq_false hc2, decide_eq_false hc3, decide_eq_false hc4, decide_eq_false hc5, decide_eq_false hc6, decide_eq_false hc7, decide_eq_false hc8, Bool.true_or, Bool.or_true, Bool.false_or, Bool.or_false, Bool.true_and, Bool.and_true, Bool.false_and, Bool.and_false, Bool.not_true, Bool.not_false, cond_true, cond_false])) ?_
                    exact J
  exact xW.retz (v0 := some (vi (zb ((decide (k = 81)) || ((decide (k = 83)) || ((decide (k = 73)) || ((decide (k = 78)) || ((decide (k = 67)) || ((decide (k = 66)) || ((!decide (k < 97)) && (!decide (116 < k)))))))))))) (h1 := xhp s) (c := (zb ((decide (k = 81)) || ((decide (k = 83)) || ((decide (k = 73)) || ((decide (k = 78)) || ((decide (k = 67)) || ((decide (k = 66)) || ((!decide (k < 97)) && (!decide (116 < k)))))))))) = 0 ∨ (zb ((decide (k = 81)) || ((decide (k = 83)) || ((decide (k = 73)) || ((decide (k = 78)) || ((decide (k = 67)) || ((decide (k = 66)) || ((!decide (k < 97)) && (!decide (116 < k)))))))))) = 1) 1 (fun _ _ _ _ => rfl) (zb01 _) g
noncomputable def tm_isCommon (k : Int32) : Bool := ((decide (k = 81)) || ((decide (k = 83)) || ((decide (k = 73)) || ((decide (k = 78)) || ((decide (k = 67)) || ((decide (k = 66)) || ((!decide (k < 97)) && (!decide (116 < k)))))))))
set_option maxRecDepth 100000 in
theorem m60 {xs : Nat → Int32} {Ls : Nat} {Ψ : xO → xH → Prop} (s : xS) (k : Int32) (h : Ψ (.inl (some (vi (zb (tm_isCommon k))))) (xhp s)) : xM (xX0 xs Ls) 60 [vi k] (xhp s) Ψ := by
  unfold tm_isCommon at h
  exact xM.of (P := p60) rfl rfl rfl (b60_0 s k (h))
/-! tm_common -/
theorem b62_203 {xs : Nat → Int32} {Ls : Nat} {Φ : Option xV → xH → Prop} (s : xS) (x1 : Int32) (g : ((¬ (gI s 230 4) = 0 → Φ (some (vi 0)) (xhp (sI s 231 55 2))) ∧ ((gI s 230 4) = 0 → Φ (some (vi 0)) (xhp (sI s 231 56 (zb ((!decide (x1 = 67)) && (!decide (x1 = 66))))))))) : xW (xX0 xs Ls) p62 203 [(0, vr 12 230), (1, vi x1)] [] (xhp s) Φ := by
  refine xW.br (c := ¬ (gI s 230 4) = 0) (pc1 := 237) (L1 := [(0, vr 12 230), (1, vi x1)]) (st1 := []) (h1 := xhp s) (pc2 := 210) (L2 := [(0, vr 12 230), (1, vi x1)]) (st2 := []) (h2 := xhp s) 3 (fun _ _ _ _ => rfl) (fun hc => ?_) (fun hc => ?_)
  · replace g := g.1 hc
    refine xW.side (c := vp_in 55 640) (pc1 := 245) (L1 := [(0, vr 12 230), (1, vi x1)]) (st1 := []) (h1 := xhp (sI s 231 55 2)) 5 (fun _ _ _ _ => rfl) (vp_lit rfl) ?_
    exact xW.ret (v0 := some (vi 0)) (h1 := xhp (sI s 231 55 2)) 2 (fun _ _ _ _ => rfl) g
  · replace g := g.2 (Decidable.not_not.mp hc)
    refine xW.seg (pc1 := 219) (L1 := [(0, vr 12 230), (1, vi x1)]) (st1 := [vi 67, vi x1, vi 56, vr 40 231]) (h1 := xhp s) 5 (fun _ _ _ _ => rfl) ?_
    suffices J : xW (xX0 xs Ls) p62 233 [(0, vr 12 230), (1, vi x1)] [vi (zb ((!decide (x1 = 67)) && (!decide (x1 = 66)))), vi 56, vr 40 231] (xhp s) Φ by
      refine xW.br (c := x1 = 67) (pc1 := 228) (L1 := [(0, vr 12 230), (1, vi x1)]) (st1 := [vi 56, vr 40 231]) (h1 := xhp s) (pc2 := 222) (L2 := [(0, vr 12 230), (1, vi x1)]) (st2 := [vi 56, vr 40 231]) (h2 := xhp s) 1 (fun _ _ _ _ => rfl) (fun hc => ?_) (fun hc => ?_)
      · have hc1 : x1 = 67 := hc
        refine xW.seg (pc1 := 233) (L1 := [(0, vr 12 230), (1, vi x1)]) (st1 := [vi 0, vi 56, vr 40 231]) (h1 := xhp s) 2 (fun _ _ _ _ => rfl) ?_
        refine xW.to (v := vi (zb ((!decide (x1 = 67)) && (!decide (x1 = 66))))) (zb_f (by simp only [decide_eq_true hc1, Bool.true_or, Bool.or_true, Bool.false_or, Bool.or_false, Bool.true_and, Bool.and_true, Bool.false_and, Bool.and_false, Bool.not_true, Bool.not_false, cond_true, cond_false])) ?_
        exact J
      · have hc1 : ¬ (x1 = 67) := hc
        refine xW.br (c := ¬ x1 = 66) (pc1 := 232) (L1 := [(0, vr 12 230), (1, vi x1)]) (st1 := [vi 56, vr 40 231]) (h1 := xhp s) (pc2 := 228) (L2 := [(0, vr 12 230), (1, vi x1)]) (st2 := [vi 56, vr 40 231]) (h2 := xhp s) 3 (fun _ _ _ _ => rfl) (fun hc => ?_) (fun hc => ?_)
        · have hc2 : ¬ x1 = 66 := hc
          refine xW.seg (pc1 := 233) (L1 := [(0, vr 12 230), (1, vi x1)]) (st1 := [vi 1, vi 56, vr 40 231]) (h1 := xhp s) 1 (fun _ _ _ _ => rfl) ?_
          refine xW.to (v := vi (zb ((!decide (x1 = 67)) && (!decide (x1 = 66))))) (zb_t (by simp only [decide_eq_false hc1, decide_eq_false hc2, Bool.true_or, Bool.or_true, Bool.false_or, Bool.or_false, Bool.true_and, Bool.and_true, Bool.false_and, Bool.and_false, Bool.not_true, Bool.not_false, cond_true, cond_false])) ?_
          exact J
        · have hc2 : x1 = 66 := (Decidable.not_not.mp hc)
          refine xW.seg (pc1 := 233) (L1 := [(0, vr 12 230), (1, vi x1)]) (st1 := [vi 0, vi 56, vr 40 231]) (h1 := xhp s) 2 (fun _ _ _ _ => rfl) ?_
          refine xW.to (v := vi (zb ((!decide (x1 = 67)) && (!decide (x1 = 66))))) (zb_f (by simp only [decide_eq_false hc1, decide_eq_true hc2, Bool.true_or, Bool.or_true, Bool.false_or, Bool.or_false, Bool.true_and, Bool.and_true, Bool.false_and, Bool.and_false, Bool.not_true, Bool.not_false, cond_true, cond_false])) ?_
          exact J
    refine xW.side (c := vp_in 56 640) (pc1 := 234) (L1 := [(0, vr 12 230), (1, vi x1)]) (st1 := []) (h1 := xhp (sI s 231 56 (zb ((!decide (x1 = 67)) && (!decide (x1 = 66)))))) 1 (fun _ _ _ _ => rfl) (vp_lit rfl) ?_
    exact xW.ret (v0 := some (vi 0)) (h1 := xhp (sI s 231 56 (zb ((!decide (x1 = 67)) && (!decide (x1 = 66)))))) 3 (fun _ _ _ _ => rfl) g
noncomputable def tm_common_203_d (s : xS) (x1 : Int32) : Int32 × xS := (if ¬ (gI s 230 4) = 0 then (0, (sI s 231 55 2)) else (0, (sI s 231 56 (zb ((!decide (x1 = 67)) && (!decide (x1 = 66)))))))
noncomputable def tm_common_203 : xS → Int32 → Int32 × xS := Classical.choose (⟨tm_common_203_d, rfl⟩ : ∃ f, f = tm_common_203_d)
set_option maxRecDepth 100000 in
theorem tm_common_203_eq : tm_common_203 = tm_common_203_d := Classical.choose_spec (⟨tm_common_203_d, rfl⟩ : ∃ f, f = tm_common_203_d)
set_option maxRecDepth 100000 in
theorem n62_203 {xs : Nat → Int32} {Ls : Nat} {Φ : Option xV → xH → Prop} (s : xS) (x1 : Int32) (h : Φ (some (vi (tm_common_203 s x1).1)) (xhp (tm_common_203 s x1).2)) : xW (xX0 xs Ls) p62 203 [(0, vr 12 230), (1, vi x1)] [] (xhp s) Φ := by
  rw [tm_common_203_eq] at h
  unfold tm_common_203_d at h
  exact b62_203 s x1 (⟨fun hc => by rw [if_pos hc] at h; exact (by (try dsimp only at h); exact h), fun hc => by rw [if_neg (fun z => z hc)] at h; exact (by (try dsimp only at h); exact h)⟩)
set_option maxRecDepth 100000 in
theorem b62_149 {xs : Nat → Int32} {Ls : Nat} {Φ : Option xV → xH → Prop} (s : xS) (x1 : Int32) (g : ((tm_set_ok s 10 (gI s 230 29) (gJ s 230 30) (gI s 230 31)) ∧ xW (xX0 xs Ls) p62 203 [(0, vr 12 230), (1, vi x1)] [] (xhp (tm_set s 10 (gI s 230 29) (gJ s 230 30) (gI s 230 31))) Φ)) : xW (xX0 xs Ls) p62 149 [(0, vr 12 230), (1, vi x1)] [] (xhp s) Φ := by
  refine xW.call (y := 32) (as := [vr 12 230, vi 10, vi (gI s 230 29), vl (gJ s 230 30), vi (gI s 230 31)]) (h0 := xhp s) (pc0 := 164) (len := 3) (L0 := [(0, vr 12 230), (1, vi x1)]) (rest := []) 9 (fun _ _ _ _ => rfl) (m32 _ _ _ _ _ g.1 ?_)
  show xW (xX0 xs Ls) p62 167 [(0, vr 12 230), (1, vi x1)] [] (xhp (tm_set s 10 (gI s 230 29) (gJ s 230 30) (gI s 230 31))) Φ
  replace g := g.2
  refine xW.seg (pc1 := 203) (L1 := [(0, vr 12 230), (1, vi x1)]) (st1 := []) (h1 := xhp (tm_set s 10 (gI s 230 29) (gJ s 230 30) (gI s 230 31))) 1 (fun _ _ _ _ => rfl) ?_
  exact g
noncomputable def tm_common_149_d (s : xS) (x1 : Int32) : Int32 × xS := (tm_common_203 (tm_set s 10 (gI s 230 29) (gJ s 230 30) (gI s 230 31)) x1)
noncomputable def tm_common_149 : xS → Int32 → Int32 × xS := Classical.choose (⟨tm_common_149_d, rfl⟩ : ∃ f, f = tm_common_149_d)
set_option maxRecDepth 100000 in
theorem tm_common_149_eq : tm_common_149 = tm_common_149_d := Classical.choose_spec (⟨tm_common_149_d, rfl⟩ : ∃ f, f = tm_common_149_d)
def tm_common_149_ok (s : xS) (x1 : Int32) : Prop := (tm_set_ok s 10 (gI s 230 29) (gJ s 230 30) (gI s 230 31))
set_option maxRecDepth 100000 in
theorem n62_149 {xs : Nat → Int32} {Ls : Nat} {Φ : Option xV → xH → Prop} (s : xS) (x1 : Int32) (gq : tm_common_149_ok s x1) (h : Φ (some (vi (tm_common_149 s x1).1)) (xhp (tm_common_149 s x1).2)) : xW (xX0 xs Ls) p62 149 [(0, vr 12 230), (1, vi x1)] [] (xhp s) Φ := by
  rw [tm_common_149_eq] at h
  unfold tm_common_149_d at h
  unfold tm_common_149_ok at gq
  exact b62_149 s x1 (⟨gq, n62_203 _ _ h⟩)
set_option maxRecDepth 100000 in
theorem b62_122 {xs : Nat → Int32} {Ls : Nat} {Φ : Option xV → xH → Prop} (s : xS) (x1 : Int32) (g : ((tm_single_ok s x1) ∧ (((tm_single s x1).1 ≤ 0 → ((¬ (gI ((tm_single s x1).2) 230 4) = 0 → xW (xX0 xs Ls) p62 149 [(0, vr 12 230), (1, vi x1)] [] (xhp ((tm_single s x1).2)) Φ) ∧ ((gI ((tm_single s x1).2) 230 4) = 0 → ((tm_move_ok ((tm_single s x1).2) 10 14) ∧ xW (xX0 xs Ls) p62 149 [(0, vr 12 230), (1, vi x1)] [] (xhp (tm_move ((tm_single s x1).2) 10 14)) Φ)))) ∧ (¬ ((tm_single s x1).1 ≤ 0) → Φ (some (vi ((tm_single s x1).1))) (xhp ((tm_single s x1).2)))))) : xW (xX0 xs Ls) p62 122 [(0, vr 12 230), (1, vi x1)] [] (xhp s) Φ := by
  refine xW.call (y := 58) (as := [vr 12 230, vi x1]) (h0 := xhp s) (pc0 := 124) (len := 3) (L0 := [(0, vr 12 230), (1, vi x1)]) (rest := []) 3 (fun _ _ _ _ => rfl) (m58 _ _ g.1 ?_)
  show xW (xX0 xs Ls) p62 127 [(0, vr 12 230), (1, vi x1)] [vi ((tm_single s x1).1)] (xhp ((tm_single s x1).2)) Φ
  replace g := g.2
  refine xW.br (c := (tm_single s x1).1 ≤ 0) (pc1 := 134) (L1 := [(2, vi ((tm_single s x1).1)), (0, vr 12 230), (1, vi x1)]) (st1 := []) (h1 := xhp ((tm_single s x1).2)) (pc2 := 132) (L2 := [(2, vi ((tm_single s x1).1)), (0, vr 12 230), (1, vi x1)]) (st2 := []) (h2 := xhp ((tm_single s x1).2)) 3 (fun _ _ _ _ => rfl) (fun hc => ?_) (fun hc => ?_)
  · replace g := g.1 hc
    refine xW.br (c := ¬ (gI ((tm_single s x1).2) 230 4) = 0) (pc1 := 149) (L1 := [(2, vi ((tm_single s x1).1)), (0, vr 12 230), (1, vi x1)]) (st1 := []) (h1 := xhp ((tm_single s x1).2)) (pc2 := 141) (L2 := [(2, vi ((tm_single s x1).1)), (0, vr 12 230), (1, vi x1)]) (st2 := []) (h2 := xhp ((tm_single s x1).2)) 3 (fun _ _ _ _ => rfl) (fun hc => ?_) (fun hc => ?_)
    · replace g := g.1 hc
      exact xW.locs (L := [(0, vr 12 230), (1, vi x1)]) ⟨rfl, rfl, trivial⟩ rfl g
    · replace g := g.2 (Decidable.not_not.mp hc)
      refine xW.call (y := 33) (as := [vr 12 230, vi 10, vi 14]) (h0 := xhp ((tm_single s x1).2)) (pc0 := 146) (len := 3) (L0 := [(2, vi ((tm_single s x1).1)), (0, vr 12 230), (1, vi x1)]) (rest := []) 4 (fun _ _ _ _ => rfl) (m33 _ _ _ g.1 ?_)
      show xW (xX0 xs Ls) p62 149 [(2, vi ((tm_single s x1).1)), (0, vr 12 230), (1, vi x1)] [] (xhp (tm_move ((tm_single s x1).2) 10 14)) Φ
      replace g := g.2
      exact xW.locs (L := [(0, vr 12 230), (1, vi x1)]) ⟨rfl, rfl, trivial⟩ rfl g
  · replace g := g.2 hc
    exact xW.ret (v0 := some (vi ((tm_single s x1).1))) (h1 := xhp ((tm_single s x1).2)) 2 (fun _ _ _ _ => rfl) g
noncomputable def tm_common_122_d (s : xS) (x1 : Int32) : Int32 × xS := (if (tm_single s x1).1 ≤ 0 then (if ¬ (gI ((tm_single s x1).2) 230 4) = 0 then (tm_common_149 ((tm_single s x1).2) x1) else (tm_common_149 (tm_move ((tm_single s x1).2) 10 14) x1)) else (tm_single s x1))
noncomputable def tm_common_122 : xS → Int32 → Int32 × xS := Classical.choose (⟨tm_common_122_d, rfl⟩ : ∃ f, f = tm_common_122_d)
set_option maxRecDepth 100000 in
theorem tm_common_122_eq : tm_common_122 = tm_common_122_d := Classical.choose_spec (⟨tm_common_122_d, rfl⟩ : ∃ f, f = tm_common_122_d)
def tm_common_122_ok (s : xS) (x1 : Int32) : Prop := ((tm_single_ok s x1) ∧ ((tm_single s x1).1 ≤ 0 → ((¬ (gI ((tm_single s x1).2) 230 4) = 0 → (tm_common_149_ok ((tm_single s x1).2) x1)) ∧ ((gI ((tm_single s x1).2) 230 4) = 0 → ((tm_move_ok ((tm_single s x1).2) 10 14) ∧ (tm_common_149_ok (tm_move ((tm_single s x1).2) 10 14) x1))))))
set_option maxRecDepth 100000 in
theorem n62_122 {xs : Nat → Int32} {Ls : Nat} {Φ : Option xV → xH → Prop} (s : xS) (x1 : Int32) (gq : tm_common_122_ok s x1) (h : Φ (some (vi (tm_common_122 s x1).1)) (xhp (tm_common_122 s x1).2)) : xW (xX0 xs Ls) p62 122 [(0, vr 12 230), (1, vi x1)] [] (xhp s) Φ := by
  rw [tm_common_122_eq] at h
  unfold tm_common_122_d at h
  unfold tm_common_122_ok at gq
  exact b62_122 s x1 (⟨gq.1, by replace gq := gq.2; exact ⟨fun hc => by rw [if_pos hc] at h; replace gq := gq hc; exact ⟨fun hc => by rw [if_pos hc] at h; replace gq := gq.1 hc; exact n62_149 _ _ gq h, fun hc => by rw [if_neg (fun z => z hc)] at h; replace gq := gq.2 hc; exact ⟨gq.1, by replace gq := gq.2; exact n62_149 _ _ gq h⟩⟩, fun hc => by rw [if_neg hc] at h; exact (by (try dsimp only at h); exact h)⟩⟩)
set_option maxRecDepth 100000 in
theorem b62_104 {xs : Nat → Int32} {Ls : Nat} {Φ : Option xV → xH → Prop} (s : xS) (x1 : Int32) (g : ((x1 = 81 → xW (xX0 xs Ls) p62 122 [(0, vr 12 230), (1, vi x1)] [] (xhp s) Φ) ∧ (¬ (x1 = 81) → ((x1 = 83 → xW (xX0 xs Ls) p62 122 [(0, vr 12 230), (1, vi x1)] [] (xhp s) Φ) ∧ (¬ (x1 = 83) → ((¬ x1 = 73 → ((¬ x1 = 78 → ((tm_set_ok s 10 0 0 0) ∧ xW (xX0 xs Ls) p62 203 [(0, vr 12 230), (1, vi x1)] [] (xhp (tm_set s 10 0 0 0)) Φ)) ∧ (x1 = 78 → xW (xX0 xs Ls) p62 203 [(0, vr 12 230), (1, vi x1)] [] (xhp (sI s 231 10 (-(gI s 231 10)))) Φ))) ∧ (x1 = 73 → xW (xX0 xs Ls) p62 122 [(0, vr 12 230), (1, vi x1)] [] (xhp s) Φ))))))) : xW (xX0 xs Ls) p62 104 [(0, vr 12 230), (1, vi x1)] [] (xhp s) Φ := by
  refine xW.br (c := x1 = 81) (pc1 := 122) (L1 := [(0, vr 12 230), (1, vi x1)]) (st1 := []) (h1 := xhp s) (pc2 := 110) (L2 := [(0, vr 12 230), (1, vi x1)]) (st2 := []) (h2 := xhp s) 3 (fun _ _ _ _ => rfl) (fun hc => ?_) (fun hc => ?_)
  · replace g := g.1 hc
    exact g
  · replace g := g.2 hc
    refine xW.br (c := x1 = 83) (pc1 := 122) (L1 := [(0, vr 12 230), (1, vi x1)]) (st1 := []) (h1 := xhp s) (pc2 := 116) (L2 := [(0, vr 12 230), (1, vi x1)]) (st2 := []) (h2 := xhp s) 3 (fun _ _ _ _ => rfl) (fun hc => ?_) (fun hc => ?_)
    · replace g := g.1 hc
      exact g
    · replace g := g.2 hc
      refine xW.br (c := ¬ x1 = 73) (pc1 := 170) (L1 := [(0, vr 12 230), (1, vi x1)]) (st1 := []) (h1 := xhp s) (pc2 := 122) (L2 := [(0, vr 12 230), (1, vi x1)]) (st2 := []) (h2 := xhp s) 3 (fun _ _ _ _ => rfl) (fun hc => ?_) (fun hc => ?_)
      · replace g := g.1 hc
        refine xW.br (c := ¬ x1 = 78) (pc1 := 194) (L1 := [(0, vr 12 230), (1, vi x1)]) (st1 := []) (h1 := xhp s) (pc2 := 176) (L2 := [(0, vr 12 230), (1, vi x1)]) (st2 := []) (h2 := xhp s) 3 (fun _ _ _ _ => rfl) (fun hc => ?_) (fun hc => ?_)
        · replace g := g.1 hc
          refine xW.call (y := 32) (as := [vr 12 230, vi 10, vi 0, vl 0, vi 0]) (h0 := xhp s) (pc0 := 200) (len := 3) (L0 := [(0, vr 12 230), (1, vi x1)]) (rest := []) 6 (fun _ _ _ _ => rfl) (m32 _ _ _ _ _ g.1 ?_)
          show xW (xX0 xs Ls) p62 203 [(0, vr 12 230), (1, vi x1)] [] (xhp (tm_set s 10 0 0 0)) Φ
          replace g := g.2
          exact g
        · replace g := g.2 (Decidable.not_not.mp hc)
          refine xW.side (c := vp_in 10 640) (pc1 := 189) (L1 := [(0, vr 12 230), (1, vi x1)]) (st1 := [vi (gI s 231 10), vi 10, vr 40 231]) (h1 := xhp s) 7 (fun _ _ _ _ => rfl) (vp_lit rfl) ?_
          refine xW.side (c := vp_in 10 640) (pc1 := 191) (L1 := [(0, vr 12 230), (1, vi x1)]) (st1 := []) (h1 := xhp (sI s 231 10 (-(gI s 231 10)))) 2 (fun _ _ _ _ => rfl) (vp_lit rfl) ?_
          refine xW.seg (pc1 := 203) (L1 := [(0, vr 12 230), (1, vi x1)]) (st1 := []) (h1 := xhp (sI s 231 10 (-(gI s 231 10)))) 1 (fun _ _ _ _ => rfl) ?_
          exact g
      · replace g := g.2 (Decidable.not_not.mp hc)
        exact g
noncomputable def tm_common_104_d (s : xS) (x1 : Int32) : Int32 × xS := (if x1 = 81 then (tm_common_122 s x1) else (if x1 = 83 then (tm_common_122 s x1) else (if ¬ x1 = 73 then (if ¬ x1 = 78 then (tm_common_203 (tm_set s 10 0 0 0) x1) else (tm_common_203 (sI s 231 10 (-(gI s 231 10))) x1)) else (tm_common_122 s x1))))
noncomputable def tm_common_104 : xS → Int32 → Int32 × xS := Classical.choose (⟨tm_common_104_d, rfl⟩ : ∃ f, f = tm_common_104_d)
set_option maxRecDepth 100000 in
theorem tm_common_104_eq : tm_common_104 = tm_common_104_d := Classical.choose_spec (⟨tm_common_104_d, rfl⟩ : ∃ f, f = tm_common_104_d)
def tm_common_104_ok (s : xS) (x1 : Int32) : Prop := ((x1 = 81 → (tm_common_122_ok s x1)) ∧ (¬ (x1 = 81) → ((x1 = 83 → (tm_common_122_ok s x1)) ∧ (¬ (x1 = 83) → ((¬ x1 = 73 → (¬ x1 = 78 → (tm_set_ok s 10 0 0 0))) ∧ (x1 = 73 → (tm_common_122_ok s x1)))))))
set_option maxRecDepth 100000 in
theorem n62_104 {xs : Nat → Int32} {Ls : Nat} {Φ : Option xV → xH → Prop} (s : xS) (x1 : Int32) (gq : tm_common_104_ok s x1) (h : Φ (some (vi (tm_common_104 s x1).1)) (xhp (tm_common_104 s x1).2)) : xW (xX0 xs Ls) p62 104 [(0, vr 12 230), (1, vi x1)] [] (xhp s) Φ := by
  rw [tm_common_104_eq] at h
  unfold tm_common_104_d at h
  unfold tm_common_104_ok at gq
  exact b62_104 s x1 (⟨fun hc => by rw [if_pos hc] at h; replace gq := gq.1 hc; exact n62_122 _ _ gq h, fun hc => by rw [if_neg hc] at h; replace gq := gq.2 hc; exact ⟨fun hc => by rw [if_pos hc] at h; replace gq := gq.1 hc; exact n62_122 _ _ gq h, fun hc => by rw [if_neg hc] at h; replace gq := gq.2 hc; exact ⟨fun hc => by rw [if_pos hc] at h; replace gq := gq.1 hc; exact ⟨fun hc => by rw [if_pos hc] at h; replace gq := gq hc; exact ⟨gq, n62_203 _ _ h⟩, fun hc => by rw [if_neg (fun z => z hc)] at h; exact n62_203 _ _ h⟩, fun hc => by rw [if_neg (fun z => z hc)] at h; replace gq := gq.2 hc; exact n62_122 _ _ gq h⟩⟩⟩)
set_option maxRecDepth 100000 in
theorem b62_49 {xs : Nat → Int32} {Ls : Nat} {Φ : Option xV → xH → Prop} (s : xS) (x1 : Int32) (g : ((x1 < 97 → xW (xX0 xs Ls) p62 104 [(0, vr 12 230), (1, vi x1)] [] (xhp s) Φ) ∧ (¬ (x1 < 97) → ((106 < x1 → xW (xX0 xs Ls) p62 104 [(0, vr 12 230), (1, vi x1)] [] (xhp s) Φ) ∧ (¬ (106 < x1) → ((tm_recall_ok s (x1 - 97)) ∧ ((¬ (gI (tm_recall s (x1 - 97)) 230 4) = 0 → ((tm_set_ok (tm_recall s (x1 - 97)) 10 (gI (tm_recall s (x1 - 97)) 230 29) (gJ (tm_recall s (x1 - 97)) 230 30) (gI (tm_recall s (x1 - 97)) 230 31)) ∧ xW (xX0 xs Ls) p62 203 [(0, vr 12 230), (1, vi x1)] [] (xhp (tm_set (tm_recall s (x1 - 97)) 10 (gI (tm_recall s (x1 - 97)) 230 29) (gJ (tm_recall s (x1 - 97)) 230 30) (gI (tm_recall s (x1 - 97)) 230 31))) Φ)) ∧ ((gI (tm_recall s (x1 - 97)) 230 4) = 0 → ((tm_push_ok (tm_recall s (x1 - 97))) ∧ xW (xX0 xs Ls) p62 203 [(0, vr 12 230), (1, vi x1)] [] (xhp (tm_push (tm_recall s (x1 - 97)))) Φ))))))))) : xW (xX0 xs Ls) p62 49 [(0, vr 12 230), (1, vi x1)] [] (xhp s) Φ := by
  refine xW.br (c := x1 < 97) (pc1 := 104) (L1 := [(0, vr 12 230), (1, vi x1)]) (st1 := []) (h1 := xhp s) (pc2 := 55) (L2 := [(0, vr 12 230), (1, vi x1)]) (st2 := []) (h2 := xhp s) 3 (fun _ _ _ _ => rfl) (fun hc => ?_) (fun hc => ?_)
  · replace g := g.1 hc
    exact g
  · replace g := g.2 hc
    refine xW.br (c := 106 < x1) (pc1 := 104) (L1 := [(0, vr 12 230), (1, vi x1)]) (st1 := []) (h1 := xhp s) (pc2 := 61) (L2 := [(0, vr 12 230), (1, vi x1)]) (st2 := []) (h2 := xhp s) 3 (fun _ _ _ _ => rfl) (fun hc => ?_) (fun hc => ?_)
    · replace g := g.1 hc
      exact g
    · replace g := g.2 hc
      refine xW.call (y := 57) (as := [vr 12 230, vi (x1 - 97)]) (h0 := xhp s) (pc0 := 66) (len := 3) (L0 := [(0, vr 12 230), (1, vi x1)]) (rest := []) 5 (fun _ _ _ _ => rfl) (m57 _ _ g.1 ?_)
      show xW (xX0 xs Ls) p62 69 [(0, vr 12 230), (1, vi x1)] [] (xhp (tm_recall s (x1 - 97))) Φ
      replace g := g.2
      refine xW.br (c := ¬ (gI (tm_recall s (x1 - 97)) 230 4) = 0) (pc1 := 83) (L1 := [(0, vr 12 230), (1, vi x1)]) (st1 := []) (h1 := xhp (tm_recall s (x1 - 97))) (pc2 := 76) (L2 := [(0, vr 12 230), (1, vi x1)]) (st2 := []) (h2 := xhp (tm_recall s (x1 - 97))) 3 (fun _ _ _ _ => rfl) (fun hc => ?_) (fun hc => ?_)
      · replace g := g.1 hc
        refine xW.call (y := 32) (as := [vr 12 230, vi 10, vi (gI (tm_recall s (x1 - 97)) 230 29), vl (gJ (tm_recall s (x1 - 97)) 230 30), vi (gI (tm_recall s (x1 - 97)) 230 31)]) (h0 := xhp (tm_recall s (x1 - 97))) (pc0 := 98) (len := 3) (L0 := [(0, vr 12 230), (1, vi x1)]) (rest := []) 9 (fun _ _ _ _ => rfl) (m32 _ _ _ _ _ g.1 ?_)
        show xW (xX0 xs Ls) p62 101 [(0, vr 12 230), (1, vi x1)] [] (xhp (tm_set (tm_recall s (x1 - 97)) 10 (gI (tm_recall s (x1 - 97)) 230 29) (gJ (tm_recall s (x1 - 97)) 230 30) (gI (tm_recall s (x1 - 97)) 230 31))) Φ
        replace g := g.2
        refine xW.seg (pc1 := 203) (L1 := [(0, vr 12 230), (1, vi x1)]) (st1 := []) (h1 := xhp (tm_set (tm_recall s (x1 - 97)) 10 (gI (tm_recall s (x1 - 97)) 230 29) (gJ (tm_recall s (x1 - 97)) 230 30) (gI (tm_recall s (x1 - 97)) 230 31))) 1 (fun _ _ _ _ => rfl) ?_
        exact g
      · replace g := g.2 (Decidable.not_not.mp hc)
        refine xW.call (y := 56) (as := [vr 12 230]) (h0 := xhp (tm_recall s (x1 - 97))) (pc0 := 77) (len := 3) (L0 := [(0, vr 12 230), (1, vi x1)]) (rest := []) 2 (fun _ _ _ _ => rfl) (m56 _ g.1 ?_)
        show xW (xX0 xs Ls) p62 80 [(0, vr 12 230), (1, vi x1)] [] (xhp (tm_push (tm_recall s (x1 - 97)))) Φ
        replace g := g.2
        refine xW.seg (pc1 := 203) (L1 := [(0, vr 12 230), (1, vi x1)]) (st1 := []) (h1 := xhp (tm_push (tm_recall s (x1 - 97)))) 1 (fun _ _ _ _ => rfl) ?_
        exact g
noncomputable def tm_common_49_d (s : xS) (x1 : Int32) : Int32 × xS := (if x1 < 97 then (tm_common_104 s x1) else (if 106 < x1 then (tm_common_104 s x1) else (if ¬ (gI (tm_recall s (x1 - 97)) 230 4) = 0 then (tm_common_203 (tm_set (tm_recall s (x1 - 97)) 10 (gI (tm_recall s (x1 - 97)) 230 29) (gJ (tm_recall s (x1 - 97)) 230 30) (gI (tm_recall s (x1 - 97)) 230 31)) x1) else (tm_common_203 (tm_push (tm_recall s (x1 - 97))) x1))))
noncomputable def tm_common_49 : xS → Int32 → Int32 × xS := Classical.choose (⟨tm_common_49_d, rfl⟩ : ∃ f, f = tm_common_49_d)
set_option maxRecDepth 100000 in
theorem tm_common_49_eq : tm_common_49 = tm_common_49_d := Classical.choose_spec (⟨tm_common_49_d, rfl⟩ : ∃ f, f = tm_common_49_d)
def tm_common_49_ok (s : xS) (x1 : Int32) : Prop := ((x1 < 97 → (tm_common_104_ok s x1)) ∧ (¬ (x1 < 97) → ((106 < x1 → (tm_common_104_ok s x1)) ∧ (¬ (106 < x1) → ((tm_recall_ok s (x1 - 97)) ∧ ((¬ (gI (tm_recall s (x1 - 97)) 230 4) = 0 → (tm_set_ok (tm_recall s (x1 - 97)) 10 (gI (tm_recall s (x1 - 97)) 230 29) (gJ (tm_recall s (x1 - 97)) 230 30) (gI (tm_recall s (x1 - 97)) 230 31))) ∧ ((gI (tm_recall s (x1 - 97)) 230 4) = 0 → (tm_push_ok (tm_recall s (x1 - 97))))))))))
set_option maxRecDepth 100000 in
theorem n62_49 {xs : Nat → Int32} {Ls : Nat} {Φ : Option xV → xH → Prop} (s : xS) (x1 : Int32) (gq : tm_common_49_ok s x1) (h : Φ (some (vi (tm_common_49 s x1).1)) (xhp (tm_common_49 s x1).2)) : xW (xX0 xs Ls) p62 49 [(0, vr 12 230), (1, vi x1)] [] (xhp s) Φ := by
  rw [tm_common_49_eq] at h
  unfold tm_common_49_d at h
  unfold tm_common_49_ok at gq
  exact b62_49 s x1 (⟨fun hc => by rw [if_pos hc] at h; replace gq := gq.1 hc; exact n62_104 _ _ gq h, fun hc => by rw [if_neg hc] at h; replace gq := gq.2 hc; exact ⟨fun hc => by rw [if_pos hc] at h; replace gq := gq.1 hc; exact n62_104 _ _ gq h, fun hc => by rw [if_neg hc] at h; replace gq := gq.2 hc; exact ⟨gq.1, by replace gq := gq.2; exact ⟨fun hc => by rw [if_pos hc] at h; replace gq := gq.1 hc; exact ⟨gq, n62_203 _ _ h⟩, fun hc => by rw [if_neg (fun z => z hc)] at h; replace gq := gq.2 hc; exact ⟨gq, n62_203 _ _ h⟩⟩⟩⟩⟩)
set_option maxRecDepth 100000 in
theorem b62_0 {xs : Nat → Int32} {Ls : Nat} {Φ : Option xV → xH → Prop} (s : xS) (k : Int32) (g : ((k < 107 → xW (xX0 xs Ls) p62 49 [(0, vr 12 230), (1, vi k)] [] (xhp s) Φ) ∧ (¬ (k < 107) → ((116 < k → xW (xX0 xs Ls) p62 49 [(0, vr 12 230), (1, vi k)] [] (xhp s) Φ) ∧ (¬ (116 < k) → ((tm_move_ok s 10 (k - 107)) ∧ ((¬ (gI (tm_move s 10 (k - 107)) 230 4) = 0 → Φ (some (vi 0)) (xhp (sI (tm_move s 10 (k - 107)) 231 56 (gI (tm_move s 10 (k - 107)) 231 56)))) ∧ ((gI (tm_move s 10 (k - 107)) 230 4) = 0 → Φ (some (vi 0)) (xhp (sI (tm_move s 10 (k - 107)) 231 56 1)))))))))) : xW (xX0 xs Ls) p62 0 [(0, vr 12 230), (1, vi k)] [] (xhp s) Φ := by
  refine xW.br (c := k < 107) (pc1 := 49) (L1 := [(0, vr 12 230), (1, vi k)]) (st1 := []) (h1 := xhp s) (pc2 := 6) (L2 := [(0, vr 12 230), (1, vi k)]) (st2 := []) (h2 := xhp s) 3 (fun _ _ _ _ => rfl) (fun hc => ?_) (fun hc => ?_)
  · replace g := g.1 hc
    exact g
  · replace g := g.2 hc
    refine xW.br (c := 116 < k) (pc1 := 49) (L1 := [(0, vr 12 230), (1, vi k)]) (st1 := []) (h1 := xhp s) (pc2 := 12) (L2 := [(0, vr 12 230), (1, vi k)]) (st2 := []) (h2 := xhp s) 3 (fun _ _ _ _ => rfl) (fun hc => ?_) (fun hc => ?_)
    · replace g := g.1 hc
      exact g
    · replace g := g.2 hc
      refine xW.call (y := 33) (as := [vr 12 230, vi 10, vi (k - 107)]) (h0 := xhp s) (pc0 := 19) (len := 3) (L0 := [(0, vr 12 230), (1, vi k)]) (rest := []) 6 (fun _ _ _ _ => rfl) (m33 _ _ _ g.1 ?_)
      show xW (xX0 xs Ls) p62 22 [(0, vr 12 230), (1, vi k)] [] (xhp (tm_move s 10 (k - 107))) Φ
      replace g := g.2
      refine xW.br (c := ¬ (gI (tm_move s 10 (k - 107)) 230 4) = 0) (pc1 := 39) (L1 := [(0, vr 12 230), (1, vi k)]) (st1 := [vi 56, vr 40 231]) (h1 := xhp (tm_move s 10 (k - 107))) (pc2 := 35) (L2 := [(0, vr 12 230), (1, vi k)]) (st2 := [vi 56, vr 40 231]) (h2 := xhp (tm_move s 10 (k - 107))) 6 (fun _ _ _ _ => rfl) (fun hc => ?_) (fun hc => ?_)
      · replace g := g.1 hc
        refine xW.side (c := vp_in 56 640) (pc1 := 46) (L1 := [(0, vr 12 230), (1, vi k)]) (st1 := [vi (gI (tm_move s 10 (k - 107)) 231 56), vi 56, vr 40 231]) (h1 := xhp (tm_move s 10 (k - 107))) 4 (fun _ _ _ _ => rfl) (vp_lit rfl) ?_
        refine xW.side (c := vp_in 56 640) (pc1 := 47) (L1 := [(0, vr 12 230), (1, vi k)]) (st1 := []) (h1 := xhp (sI (tm_move s 10 (k - 107)) 231 56 (gI (tm_move s 10 (k - 107)) 231 56))) 1 (fun _ _ _ _ => rfl) (vp_lit rfl) ?_
        exact xW.ret (v0 := some (vi 0)) (h1 := xhp (sI (tm_move s 10 (k - 107)) 231 56 (gI (tm_move s 10 (k - 107)) 231 56))) 2 (fun _ _ _ _ => rfl) g
      · replace g := g.2 (Decidable.not_not.mp hc)
        refine xW.side (c := vp_in 56 640) (pc1 := 47) (L1 := [(0, vr 12 230), (1, vi k)]) (st1 := []) (h1 := xhp (sI (tm_move s 10 (k - 107)) 231 56 1)) 3 (fun _ _ _ _ => rfl) (vp_lit rfl) ?_
        exact xW.ret (v0 := some (vi 0)) (h1 := xhp (sI (tm_move s 10 (k - 107)) 231 56 1)) 2 (fun _ _ _ _ => rfl) g
noncomputable def tm_common_d (s : xS) (k : Int32) : Int32 × xS := (if k < 107 then (tm_common_49 s k) else (if 116 < k then (tm_common_49 s k) else (if ¬ (gI (tm_move s 10 (k - 107)) 230 4) = 0 then (0, (sI (tm_move s 10 (k - 107)) 231 56 (gI (tm_move s 10 (k - 107)) 231 56))) else (0, (sI (tm_move s 10 (k - 107)) 231 56 1)))))
noncomputable def tm_common : xS → Int32 → Int32 × xS := Classical.choose (⟨tm_common_d, rfl⟩ : ∃ f, f = tm_common_d)
set_option maxRecDepth 100000 in
theorem tm_common_eq : tm_common = tm_common_d := Classical.choose_spec (⟨tm_common_d, rfl⟩ : ∃ f, f = tm_common_d)
def tm_common_ok (s : xS) (k : Int32) : Prop := ((k < 107 → (tm_common_49_ok s k)) ∧ (¬ (k < 107) → ((116 < k → (tm_common_49_ok s k)) ∧ (¬ (116 < k) → (tm_move_ok s 10 (k - 107))))))
set_option maxRecDepth 100000 in
theorem m62 {xs : Nat → Int32} {Ls : Nat} {Ψ : xO → xH → Prop} (s : xS) (k : Int32) (gq : tm_common_ok s k) (h : Ψ (.inl (some (vi (tm_common s k).1))) (xhp (tm_common s k).2)) : xM (xX0 xs Ls) 62 [vr 12 230, vi k] (xhp s) Ψ := by
  rw [tm_common_eq] at h
  unfold tm_common_d at h
  unfold tm_common_ok at gq
  exact xM.of (P := p62) rfl rfl rfl (b62_0 s k (⟨fun hc => by rw [if_pos hc] at h; replace gq := gq.1 hc; exact n62_49 _ _ gq h, fun hc => by rw [if_neg hc] at h; replace gq := gq.2 hc; exact ⟨fun hc => by rw [if_pos hc] at h; replace gq := gq.1 hc; exact n62_49 _ _ gq h, fun hc => by rw [if_neg hc] at h; replace gq := gq.2 hc; exact ⟨gq, ⟨fun hc => by rw [if_pos hc] at h; exact (by (try dsimp only at h); exact h), fun hc => by rw [if_neg (fun z => z hc)] at h; exact (by (try dsimp only at h); exact h)⟩⟩⟩⟩))
/-! tm_stackKey -/
theorem b63_182 {xs : Nat → Int32} {Ls : Nat} {Φ : Option xV → xH → Prop} (s : xS) (x1 : Int32) (g : Φ (some (vi 0)) (xhp (sI s 231 56 (zb (!decide (x1 = 61)))))) : xW (xX0 xs Ls) p63 182 [(0, vr 12 230), (1, vi x1)] [] (xhp s) Φ := by
  refine xW.seg (pc1 := 191) (L1 := [(0, vr 12 230), (1, vi x1)]) (st1 := [vi 61, vi x1, vi 56, vr 40 231]) (h1 := xhp s) 5 (fun _ _ _ _ => rfl) ?_
  suffices J : xW (xX0 xs Ls) p63 199 [(0, vr 12 230), (1, vi x1)] [vi (zb (!decide (x1 = 61))), vi 56, vr 40 231] (xhp s) Φ by
    refine xW.br (c := ¬ x1 = 61) (pc1 := 198) (L1 := [(0, vr 12 230), (1, vi x1)]) (st1 := [vi 56, vr 40 231]) (h1 := xhp s) (pc2 := 194) (L2 := [(0, vr 12 230), (1, vi x1)]) (st2 := [vi 56, vr 40 231]) (h2 := xhp s) 1 (fun _ _ _ _ => rfl) (fun hc => ?_) (fun hc => ?_)
    · have hc1 : ¬ x1 = 61 := hc
      refine xW.seg (pc1 := 199) (L1 := [(0, vr 12 230), (1, vi x1)]) (st1 := [vi 1, vi 56, vr 40 231]) (h1 := xhp s) 1 (fun _ _ _ _ => rfl) ?_
      refine xW.to (v := vi (zb (!decide (x1 = 61)))) (zb_t (by simp only [decide_eq_false hc1, Bool.true_or, Bool.or_true, Bool.false_or, Bool.or_false, Bool.true_and, Bool.and_true, Bool.false_and, Bool.and_false, Bool.not_true, Bool.not_false, cond_true, cond_false])) ?_
      exact J
    · have hc1 : x1 = 61 := (Decidable.not_not.mp hc)
      refine xW.seg (pc1 := 199) (L1 := [(0, vr 12 230), (1, vi x1)]) (st1 := [vi 0, vi 56, vr 40 231]) (h1 := xhp s) 2 (fun _ _ _ _ => rfl) ?_
      refine xW.to (v := vi (zb (!decide (x1 = 61)))) (zb_f (by simp only [decide_eq_true hc1, Bool.true_or, Bool.or_true, Bool.false_or, Bool.or_false, Bool.true_and, Bool.and_true, Bool.false_and, Bool.and_false, Bool.not_true, Bool.not_false, cond_true, cond_false])) ?_
      exact J
  refine xW.side (c := vp_in 56 640) (pc1 := 200) (L1 := [(0, vr 12 230), (1, vi x1)]) (st1 := []) (h1 := xhp (sI s 231 56 (zb (!decide (x1 = 61))))) 1 (fun _ _ _ _ => rfl) (vp_lit rfl) ?_
  exact xW.ret (v0 := some (vi 0)) (h1 := xhp (sI s 231 56 (zb (!decide (x1 = 61))))) 2 (fun _ _ _ _ => rfl) g
noncomputable def tm_stackKey_182_d (s : xS) (x1 : Int32) : Int32 × xS := (0, (sI s 231 56 (zb (!decide (x1 = 61)))))
noncomputable def tm_stackKey_182 : xS → Int32 → Int32 × xS := Classical.choose (⟨tm_stackKey_182_d, rfl⟩ : ∃ f, f = tm_stackKey_182_d)
set_option maxRecDepth 100000 in
theorem tm_stackKey_182_eq : tm_stackKey_182 = tm_stackKey_182_d := Classical.choose_spec (⟨tm_stackKey_182_d, rfl⟩ : ∃ f, f = tm_stackKey_182_d)
set_option maxRecDepth 100000 in
theorem n63_182 {xs : Nat → Int32} {Ls : Nat} {Φ : Option xV → xH → Prop} (s : xS) (x1 : Int32) (h : Φ (some (vi (tm_stackKey_182 s x1).1)) (xhp (tm_stackKey_182 s x1).2)) : xW (xX0 xs Ls) p63 182 [(0, vr 12 230), (1, vi x1)] [] (xhp s) Φ := by
  rw [tm_stackKey_182_eq] at h
  unfold tm_stackKey_182_d at h
  exact b63_182 s x1 ((by (try dsimp only at h); exact h))
set_option maxRecDepth 100000 in
theorem b63_129 {xs : Nat → Int32} {Ls : Nat} {Φ : Option xV → xH → Prop} (s : xS) (x1 : Int32) (g : ((tm_set_ok s (if x1 = 68 then (13 : Int32) else 11) (gI s 230 29) (gJ s 230 30) (gI s 230 31)) ∧ xW (xX0 xs Ls) p63 182 [(0, vr 12 230), (1, vi x1)] [] (xhp (tm_set s (if x1 = 68 then (13 : Int32) else 11) (gI s 230 29) (gJ s 230 30) (gI s 230 31))) Φ)) : xW (xX0 xs Ls) p63 129 [(0, vr 12 230), (1, vi x1)] [] (xhp s) Φ := by
  refine xW.seg (pc1 := 133) (L1 := [(0, vr 12 230), (1, vi x1)]) (st1 := [vi 68, vi x1, vr 12 230]) (h1 := xhp s) 3 (fun _ _ _ _ => rfl) ?_
  suffices J : xW (xX0 xs Ls) p63 143 [(0, vr 12 230), (1, vi x1)] [vi (if x1 = 68 then (13 : Int32) else 11), vr 12 230] (xhp s) Φ by
    refine xW.br (c := ¬ x1 = 68) (pc1 := 141) (L1 := [(0, vr 12 230), (1, vi x1)]) (st1 := [vr 12 230]) (h1 := xhp s) (pc2 := 136) (L2 := [(0, vr 12 230), (1, vi x1)]) (st2 := [vr 12 230]) (h2 := xhp s) 1 (fun _ _ _ _ => rfl) (fun hc => ?_) (fun hc => ?_)
    · have hc1 : ¬ x1 = 68 := hc
      refine xW.seg (pc1 := 143) (L1 := [(0, vr 12 230), (1, vi x1)]) (st1 := [vi 11, vr 12 230]) (h1 := xhp s) 1 (fun _ _ _ _ => rfl) ?_
      refine xW.to (v := vi (if x1 = 68 then (13 : Int32) else 11)) ((congrArg vi (if_neg hc1)).symm) ?_
      exact J
    · have hc1 : x1 = 68 := (Decidable.not_not.mp hc)
      refine xW.seg (pc1 := 143) (L1 := [(0, vr 12 230), (1, vi x1)]) (st1 := [vi 13, vr 12 230]) (h1 := xhp s) 2 (fun _ _ _ _ => rfl) ?_
      refine xW.to (v := vi (if x1 = 68 then (13 : Int32) else 11)) ((congrArg vi (if_pos hc1)).symm) ?_
      exact J
  refine xW.call (y := 32) (as := [vr 12 230, vi (if x1 = 68 then (13 : Int32) else 11), vi (gI s 230 29), vl (gJ s 230 30), vi (gI s 230 31)]) (h0 := xhp s) (pc0 := 155) (len := 3) (L0 := [(0, vr 12 230), (1, vi x1)]) (rest := []) 7 (fun _ _ _ _ => rfl) (m32 _ _ _ _ _ g.1 ?_)
  show xW (xX0 xs Ls) p63 158 [(0, vr 12 230), (1, vi x1)] [] (xhp (tm_set s (if x1 = 68 then (13 : Int32) else 11) (gI s 230 29) (gJ s 230 30) (gI s 230 31))) Φ
  replace g := g.2
  refine xW.seg (pc1 := 182) (L1 := [(0, vr 12 230), (1, vi x1)]) (st1 := []) (h1 := xhp (tm_set s (if x1 = 68 then (13 : Int32) else 11) (gI s 230 29) (gJ s 230 30) (gI s 230 31))) 1 (fun _ _ _ _ => rfl) ?_
  exact g
noncomputable def tm_stackKey_129_d (s : xS) (x1 : Int32) : Int32 × xS := (tm_stackKey_182 (tm_set s (if x1 = 68 then (13 : Int32) else 11) (gI s 230 29) (gJ s 230 30) (gI s 230 31)) x1)
noncomputable def tm_stackKey_129 : xS → Int32 → Int32 × xS := Classical.choose (⟨tm_stackKey_129_d, rfl⟩ : ∃ f, f = tm_stackKey_129_d)
set_option maxRecDepth 100000 in
theorem tm_stackKey_129_eq : tm_stackKey_129 = tm_stackKey_129_d := Classical.choose_spec (⟨tm_stackKey_129_d, rfl⟩ : ∃ f, f = tm_stackKey_129_d)
def tm_stackKey_129_ok (s : xS) (x1 : Int32) : Prop := (tm_set_ok s (if x1 = 68 then (13 : Int32) else 11) (gI s 230 29) (gJ s 230 30) (gI s 230 31))
set_option maxRecDepth 100000 in
theorem n63_129 {xs : Nat → Int32} {Ls : Nat} {Φ : Option xV → xH → Prop} (s : xS) (x1 : Int32) (gq : tm_stackKey_129_ok s x1) (h : Φ (some (vi (tm_stackKey_129 s x1).1)) (xhp (tm_stackKey_129 s x1).2)) : xW (xX0 xs Ls) p63 129 [(0, vr 12 230), (1, vi x1)] [] (xhp s) Φ := by
  rw [tm_stackKey_129_eq] at h
  unfold tm_stackKey_129_d at h
  unfold tm_stackKey_129_ok at gq
  exact b63_129 s x1 (⟨gq, n63_182 _ _ h⟩)
set_option maxRecDepth 100000 in
theorem b63_93 {xs : Nat → Int32} {Ls : Nat} {Φ : Option xV → xH → Prop} (s : xS) (x1 : Int32) (g : ((tm_recall_ok s 10) ∧ ((tm_move_ok (tm_recall s 10) 11 10) ∧ ((¬ x1 = 68 → xW (xX0 xs Ls) p63 129 [(0, vr 12 230), (1, vi x1)] [] (xhp (tm_move (tm_recall s 10) 11 10)) Φ) ∧ (x1 = 68 → ((tm_move_ok (tm_move (tm_recall s 10) 11 10) 12 11) ∧ ((tm_move_ok (tm_move (tm_move (tm_recall s 10) 11 10) 12 11) 13 12) ∧ xW (xX0 xs Ls) p63 129 [(0, vr 12 230), (1, vi x1)] [] (xhp (tm_move (tm_move (tm_move (tm_recall s 10) 11 10) 12 11) 13 12)) Φ))))))) : xW (xX0 xs Ls) p63 93 [(0, vr 12 230), (1, vi x1)] [] (xhp s) Φ := by
  refine xW.call (y := 57) (as := [vr 12 230, vi 10]) (h0 := xhp s) (pc0 := 96) (len := 3) (L0 := [(0, vr 12 230), (1, vi x1)]) (rest := []) 3 (fun _ _ _ _ => rfl) (m57 _ _ g.1 ?_)
  show xW (xX0 xs Ls) p63 99 [(0, vr 12 230), (1, vi x1)] [] (xhp (tm_recall s 10)) Φ
  replace g := g.2
  refine xW.call (y := 33) (as := [vr 12 230, vi 11, vi 10]) (h0 := xhp (tm_recall s 10)) (pc0 := 104) (len := 3) (L0 := [(0, vr 12 230), (1, vi x1)]) (rest := []) 4 (fun _ _ _ _ => rfl) (m33 _ _ _ g.1 ?_)
  show xW (xX0 xs Ls) p63 107 [(0, vr 12 230), (1, vi x1)] [] (xhp (tm_move (tm_recall s 10) 11 10)) Φ
  replace g := g.2
  refine xW.br (c := ¬ x1 = 68) (pc1 := 129) (L1 := [(0, vr 12 230), (1, vi x1)]) (st1 := []) (h1 := xhp (tm_move (tm_recall s 10) 11 10)) (pc2 := 113) (L2 := [(0, vr 12 230), (1, vi x1)]) (st2 := []) (h2 := xhp (tm_move (tm_recall s 10) 11 10)) 3 (fun _ _ _ _ => rfl) (fun hc => ?_) (fun hc => ?_)
  · replace g := g.1 hc
    exact g
  · replace g := g.2 (Decidable.not_not.mp hc)
    refine xW.call (y := 33) (as := [vr 12 230, vi 12, vi 11]) (h0 := xhp (tm_move (tm_recall s 10) 11 10)) (pc0 := 118) (len := 3) (L0 := [(0, vr 12 230), (1, vi x1)]) (rest := []) 4 (fun _ _ _ _ => rfl) (m33 _ _ _ g.1 ?_)
    show xW (xX0 xs Ls) p63 121 [(0, vr 12 230), (1, vi x1)] [] (xhp (tm_move (tm_move (tm_recall s 10) 11 10) 12 11)) Φ
    replace g := g.2
    refine xW.call (y := 33) (as := [vr 12 230, vi 13, vi 12]) (h0 := xhp (tm_move (tm_move (tm_recall s 10) 11 10) 12 11)) (pc0 := 126) (len := 3) (L0 := [(0, vr 12 230), (1, vi x1)]) (rest := []) 4 (fun _ _ _ _ => rfl) (m33 _ _ _ g.1 ?_)
    show xW (xX0 xs Ls) p63 129 [(0, vr 12 230), (1, vi x1)] [] (xhp (tm_move (tm_move (tm_move (tm_recall s 10) 11 10) 12 11) 13 12)) Φ
    replace g := g.2
    exact g
noncomputable def tm_stackKey_93_d (s : xS) (x1 : Int32) : Int32 × xS := (if ¬ x1 = 68 then (tm_stackKey_129 (tm_move (tm_recall s 10) 11 10) x1) else (tm_stackKey_129 (tm_move (tm_move (tm_move (tm_recall s 10) 11 10) 12 11) 13 12) x1))
noncomputable def tm_stackKey_93 : xS → Int32 → Int32 × xS := Classical.choose (⟨tm_stackKey_93_d, rfl⟩ : ∃ f, f = tm_stackKey_93_d)
set_option maxRecDepth 100000 in
theorem tm_stackKey_93_eq : tm_stackKey_93 = tm_stackKey_93_d := Classical.choose_spec (⟨tm_stackKey_93_d, rfl⟩ : ∃ f, f = tm_stackKey_93_d)
def tm_stackKey_93_ok (s : xS) (x1 : Int32) : Prop := ((tm_recall_ok s 10) ∧ ((tm_move_ok (tm_recall s 10) 11 10) ∧ ((¬ x1 = 68 → (tm_stackKey_129_ok (tm_move (tm_recall s 10) 11 10) x1)) ∧ (x1 = 68 → ((tm_move_ok (tm_move (tm_recall s 10) 11 10) 12 11) ∧ ((tm_move_ok (tm_move (tm_move (tm_recall s 10) 11 10) 12 11) 13 12) ∧ (tm_stackKey_129_ok (tm_move (tm_move (tm_move (tm_recall s 10) 11 10) 12 11) 13 12) x1)))))))
set_option maxRecDepth 100000 in
theorem n63_93 {xs : Nat → Int32} {Ls : Nat} {Φ : Option xV → xH → Prop} (s : xS) (x1 : Int32) (gq : tm_stackKey_93_ok s x1) (h : Φ (some (vi (tm_stackKey_93 s x1).1)) (xhp (tm_stackKey_93 s x1).2)) : xW (xX0 xs Ls) p63 93 [(0, vr 12 230), (1, vi x1)] [] (xhp s) Φ := by
  rw [tm_stackKey_93_eq] at h
  unfold tm_stackKey_93_d at h
  unfold tm_stackKey_93_ok at gq
  exact b63_93 s x1 (⟨gq.1, by replace gq := gq.2; exact ⟨gq.1, by replace gq := gq.2; exact ⟨fun hc => by rw [if_pos hc] at h; replace gq := gq.1 hc; exact n63_129 _ _ gq h, fun hc => by rw [if_neg (fun z => z hc)] at h; replace gq := gq.2 hc; exact ⟨gq.1, by replace gq := gq.2; exact ⟨gq.1, by replace gq := gq.2; exact n63_129 _ _ gq h⟩⟩⟩⟩⟩)
set_option maxRecDepth 100000 in
theorem b63_0 {xs : Nat → Int32} {Ls : Nat} {Φ : Option xV → xH → Prop} (s : xS) (k : Int32) (g : (((tm_isOperation k) = false → ((¬ k = 61 → ((k = 87 → xW (xX0 xs Ls) p63 93 [(0, vr 12 230), (1, vi k)] [] (xhp s) Φ) ∧ (¬ (k = 87) → ((¬ k = 68 → ((¬ k = 76 → Φ (some (vi 1)) (xhp s)) ∧ (k = 76 → ((tm_recall_ok s 14) ∧ ((tm_push_ok (tm_recall s 14)) ∧ xW (xX0 xs Ls) p63 182 [(0, vr 12 230), (1, vi k)] [] (xhp (tm_push (tm_recall s 14))) Φ))))) ∧ (k = 68 → xW (xX0 xs Ls) p63 93 [(0, vr 12 230), (1, vi k)] [] (xhp s) Φ))))) ∧ (k = 61 → ((tm_lift_ok s) ∧ xW (xX0 xs Ls) p63 182 [(0, vr 12 230), (1, vi k)] [] (xhp (tm_lift s)) Φ)))) ∧ ((tm_isOperation k) = true → ((tm_work_ok s k 11 10) ∧ (((tm_work s k 11 10).1 ≤ 0 → ((tm_move_ok ((tm_work s k 11 10).2) 10 14) ∧ ((tm_set_ok (tm_move ((tm_work s k 11 10).2) 10 14) 10 (gI (tm_move ((tm_work s k 11 10).2) 10 14) 230 29) (gJ (tm_move ((tm_work s k 11 10).2) 10 14) 230 30) (gI (tm_move ((tm_work s k 11 10).2) 10 14) 230 31)) ∧ ((tm_move_ok (tm_set (tm_move ((tm_work s k 11 10).2) 10 14) 10 (gI (tm_move ((tm_work s k 11 10).2) 10 14) 230 29) (gJ (tm_move ((tm_work s k 11 10).2) 10 14) 230 30) (gI (tm_move ((tm_work s k 11 10).2) 10 14) 230 31)) 12 11) ∧ ((tm_move_ok (tm_move (tm_set (tm_move ((tm_work s k 11 10).2) 10 14) 10 (gI (tm_move ((tm_work s k 11 10).2) 10 14) 230 29) (gJ (tm_move ((tm_work s k 11 10).2) 10 14) 230 30) (gI (tm_move ((tm_work s k 11 10).2) 10 14) 230 31)) 12 11) 13 12) ∧ xW (xX0 xs Ls) p63 182 [(0, vr 12 230), (1, vi k)] [] (xhp (tm_move (tm_move (tm_set (tm_move ((tm_work s k 11 10).2) 10 14) 10 (gI (tm_move ((tm_work s k 11 10).2) 10 14) 230 29) (gJ (tm_move ((tm_work s k 11 10).2) 10 14) 230 30) (gI (tm_move ((tm_work s k 11 10).2) 10 14) 230 31)) 12 11) 13 12)) Φ))))) ∧ (¬ ((tm_work s k 11 10).1 ≤ 0) → Φ (some (vi ((tm_work s k 11 10).1))) (xhp ((tm_work s k 11 10).2)))))))) : xW (xX0 xs Ls) p63 0 [(0, vr 12 230), (1, vi k)] [] (xhp s) Φ := by
  refine xW.call (y := 59) (as := [vi k]) (h0 := xhp s) (pc0 := 1) (len := 3) (L0 := [(0, vr 12 230), (1, vi k)]) (rest := []) 2 (fun _ _ _ _ => rfl) (m59 _ _ ?_)
  show xW (xX0 xs Ls) p63 4 [(0, vr 12 230), (1, vi k)] [vi (zb (tm_isOperation k))] (xhp s) Φ
  refine xW.br (c := (zb (tm_isOperation k)) = 0) (pc1 := 68) (L1 := [(0, vr 12 230), (1, vi k)]) (st1 := []) (h1 := xhp s) (pc2 := 7) (L2 := [(0, vr 12 230), (1, vi k)]) (st2 := []) (h2 := xhp s) 1 (fun _ _ _ _ => rfl) (fun hc => ?_) (fun hc => ?_)
  · replace g := g.1 (zb_eq0.mp hc)
    refine xW.br (c := ¬ k = 61) (pc1 := 81) (L1 := [(0, vr 12 230), (1, vi k)]) (st1 := []) (h1 := xhp s) (pc2 := 74) (L2 := [(0, vr 12 230), (1, vi k)]) (st2 := []) (h2 := xhp s) 3 (fun _ _ _ _ => rfl) (fun hc => ?_) (fun hc => ?_)
    · replace g := g.1 hc
      refine xW.br (c := k = 87) (pc1 := 93) (L1 := [(0, vr 12 230), (1, vi k)]) (st1 := []) (h1 := xhp s) (pc2 := 87) (L2 := [(0, vr 12 230), (1, vi k)]) (st2 := []) (h2 := xhp s) 3 (fun _ _ _ _ => rfl) (fun hc => ?_) (fun hc => ?_)
      · replace g := g.1 hc
        exact g
      · replace g := g.2 hc
        refine xW.br (c := ¬ k = 68) (pc1 := 161) (L1 := [(0, vr 12 230), (1, vi k)]) (st1 := []) (h1 := xhp s) (pc2 := 93) (L2 := [(0, vr 12 230), (1, vi k)]) (st2 := []) (h2 := xhp s) 3 (fun _ _ _ _ => rfl) (fun hc => ?_) (fun hc => ?_)
        · replace g := g.1 hc
          refine xW.br (c := ¬ k = 76) (pc1 := 180) (L1 := [(0, vr 12 230), (1, vi k)]) (st1 := []) (h1 := xhp s) (pc2 := 167) (L2 := [(0, vr 12 230), (1, vi k)]) (st2 := []) (h2 := xhp s) 3 (fun _ _ _ _ => rfl) (fun hc => ?_) (fun hc => ?_)
          · replace g := g.1 hc
            exact xW.ret (v0 := some (vi 1)) (h1 := xhp s) 2 (fun _ _ _ _ => rfl) g
          · replace g := g.2 (Decidable.not_not.mp hc)
            refine xW.call (y := 57) (as := [vr 12 230, vi 14]) (h0 := xhp s) (pc0 := 170) (len := 3) (L0 := [(0, vr 12 230), (1, vi k)]) (rest := []) 3 (fun _ _ _ _ => rfl) (m57 _ _ g.1 ?_)
            show xW (xX0 xs Ls) p63 173 [(0, vr 12 230), (1, vi k)] [] (xhp (tm_recall s 14)) Φ
            replace g := g.2
            refine xW.call (y := 56) (as := [vr 12 230]) (h0 := xhp (tm_recall s 14)) (pc0 := 174) (len := 3) (L0 := [(0, vr 12 230), (1, vi k)]) (rest := []) 2 (fun _ _ _ _ => rfl) (m56 _ g.1 ?_)
            show xW (xX0 xs Ls) p63 177 [(0, vr 12 230), (1, vi k)] [] (xhp (tm_push (tm_recall s 14))) Φ
            replace g := g.2
            refine xW.seg (pc1 := 182) (L1 := [(0, vr 12 230), (1, vi k)]) (st1 := []) (h1 := xhp (tm_push (tm_recall s 14))) 1 (fun _ _ _ _ => rfl) ?_
            exact g
        · replace g := g.2 (Decidable.not_not.mp hc)
          exact g
    · replace g := g.2 (Decidable.not_not.mp hc)
      refine xW.call (y := 55) (as := [vr 12 230]) (h0 := xhp s) (pc0 := 75) (len := 3) (L0 := [(0, vr 12 230), (1, vi k)]) (rest := []) 2 (fun _ _ _ _ => rfl) (m55 _ g.1 ?_)
      show xW (xX0 xs Ls) p63 78 [(0, vr 12 230), (1, vi k)] [] (xhp (tm_lift s)) Φ
      replace g := g.2
      refine xW.seg (pc1 := 182) (L1 := [(0, vr 12 230), (1, vi k)]) (st1 := []) (h1 := xhp (tm_lift s)) 1 (fun _ _ _ _ => rfl) ?_
      exact g
  · replace g := g.2 (zb_ne0.mp hc)
    refine xW.call (y := 42) (as := [vr 12 230, vi k, vi 11, vi 10]) (h0 := xhp s) (pc0 := 13) (len := 3) (L0 := [(0, vr 12 230), (1, vi k)]) (rest := []) 5 (fun _ _ _ _ => rfl) (m42 _ _ _ _ g.1 ?_)
    show xW (xX0 xs Ls) p63 16 [(0, vr 12 230), (1, vi k)] [vi ((tm_work s k 11 10).1)] (xhp ((tm_work s k 11 10).2)) Φ
    replace g := g.2
    refine xW.br (c := (tm_work s k 11 10).1 ≤ 0) (pc1 := 23) (L1 := [(2, vi ((tm_work s k 11 10).1)), (0, vr 12 230), (1, vi k)]) (st1 := []) (h1 := xhp ((tm_work s k 11 10).2)) (pc2 := 21) (L2 := [(2, vi ((tm_work s k 11 10).1)), (0, vr 12 230), (1, vi k)]) (st2 := []) (h2 := xhp ((tm_work s k 11 10).2)) 3 (fun _ _ _ _ => rfl) (fun hc => ?_) (fun hc => ?_)
    · replace g := g.1 hc
      refine xW.call (y := 33) (as := [vr 12 230, vi 10, vi 14]) (h0 := xhp ((tm_work s k 11 10).2)) (pc0 := 28) (len := 3) (L0 := [(2, vi ((tm_work s k 11 10).1)), (0, vr 12 230), (1, vi k)]) (rest := []) 4 (fun _ _ _ _ => rfl) (m33 _ _ _ g.1 ?_)
      show xW (xX0 xs Ls) p63 31 [(2, vi ((tm_work s k 11 10).1)), (0, vr 12 230), (1, vi k)] [] (xhp (tm_move ((tm_work s k 11 10).2) 10 14)) Φ
      replace g := g.2
      refine xW.call (y := 32) (as := [vr 12 230, vi 10, vi (gI (tm_move ((tm_work s k 11 10).2) 10 14) 230 29), vl (gJ (tm_move ((tm_work s k 11 10).2) 10 14) 230 30), vi (gI (tm_move ((tm_work s k 11 10).2) 10 14) 230 31)]) (h0 := xhp (tm_move ((tm_work s k 11 10).2) 10 14)) (pc0 := 46) (len := 3) (L0 := [(2, vi ((tm_work s k 11 10).1)), (0, vr 12 230), (1, vi k)]) (rest := []) 9 (fun _ _ _ _ => rfl) (m32 _ _ _ _ _ g.1 ?_)
      show xW (xX0 xs Ls) p63 49 [(2, vi ((tm_work s k 11 10).1)), (0, vr 12 230), (1, vi k)] [] (xhp (tm_set (tm_move ((tm_work s k 11 10).2) 10 14) 10 (gI (tm_move ((tm_work s k 11 10).2) 10 14) 230 29) (gJ (tm_move ((tm_work s k 11 10).2) 10 14) 230 30) (gI (tm_move ((tm_work s k 11 10).2) 10 14) 230 31))) Φ
      replace g := g.2
      refine xW.call (y := 33) (as := [vr 12 230, vi 12, vi 11]) (h0 := xhp (tm_set (tm_move ((tm_work s k 11 10).2) 10 14) 10 (gI (tm_move ((tm_work s k 11 10).2) 10 14) 230 29) (gJ (tm_move ((tm_work s k 11 10).2) 10 14) 230 30) (gI (tm_move ((tm_work s k 11 10).2) 10 14) 230 31))) (pc0 := 54) (len := 3) (L0 := [(2, vi ((tm_work s k 11 10).1)), (0, vr 12 230), (1, vi k)]) (rest := []) 4 (fun _ _ _ _ => rfl) (m33 _ _ _ g.1 ?_)
      show xW (xX0 xs Ls) p63 57 [(2, vi ((tm_work s k 11 10).1)), (0, vr 12 230), (1, vi k)] [] (xhp (tm_move (tm_set (tm_move ((tm_work s k 11 10).2) 10 14) 10 (gI (tm_move ((tm_work s k 11 10).2) 10 14) 230 29) (gJ (tm_move ((tm_work s k 11 10).2) 10 14) 230 30) (gI (tm_move ((tm_work s k 11 10).2) 10 14) 230 31)) 12 11)) Φ
      replace g := g.2
      refine xW.call (y := 33) (as := [vr 12 230, vi 13, vi 12]) (h0 := xhp (tm_move (tm_set (tm_move ((tm_work s k 11 10).2) 10 14) 10 (gI (tm_move ((tm_work s k 11 10).2) 10 14) 230 29) (gJ (tm_move ((tm_work s k 11 10).2) 10 14) 230 30) (gI (tm_move ((tm_work s k 11 10).2) 10 14) 230 31)) 12 11)) (pc0 := 62) (len := 3) (L0 := [(2, vi ((tm_work s k 11 10).1)), (0, vr 12 230), (1, vi k)]) (rest := []) 4 (fun _ _ _ _ => rfl) (m33 _ _ _ g.1 ?_)
      show xW (xX0 xs Ls) p63 65 [(2, vi ((tm_work s k 11 10).1)), (0, vr 12 230), (1, vi k)] [] (xhp (tm_move (tm_move (tm_set (tm_move ((tm_work s k 11 10).2) 10 14) 10 (gI (tm_move ((tm_work s k 11 10).2) 10 14) 230 29) (gJ (tm_move ((tm_work s k 11 10).2) 10 14) 230 30) (gI (tm_move ((tm_work s k 11 10).2) 10 14) 230 31)) 12 11) 13 12)) Φ
      replace g := g.2
      refine xW.seg (pc1 := 182) (L1 := [(2, vi ((tm_work s k 11 10).1)), (0, vr 12 230), (1, vi k)]) (st1 := []) (h1 := xhp (tm_move (tm_move (tm_set (tm_move ((tm_work s k 11 10).2) 10 14) 10 (gI (tm_move ((tm_work s k 11 10).2) 10 14) 230 29) (gJ (tm_move ((tm_work s k 11 10).2) 10 14) 230 30) (gI (tm_move ((tm_work s k 11 10).2) 10 14) 230 31)) 12 11) 13 12)) 1 (fun _ _ _ _ => rfl) ?_
      exact xW.locs (L := [(0, vr 12 230), (1, vi k)]) ⟨rfl, rfl, trivial⟩ rfl g
    · replace g := g.2 hc
      exact xW.ret (v0 := some (vi ((tm_work s k 11 10).1))) (h1 := xhp ((tm_work s k 11 10).2)) 2 (fun _ _ _ _ => rfl) g
noncomputable def tm_stackKey_d (s : xS) (k : Int32) : Int32 × xS := (if (tm_isOperation k) = false then (if ¬ k = 61 then (if k = 87 then (tm_stackKey_93 s k) else (if ¬ k = 68 then (if ¬ k = 76 then (1, s) else (tm_stackKey_182 (tm_push (tm_recall s 14)) k)) else (tm_stackKey_93 s k))) else (tm_stackKey_182 (tm_lift s) k)) else (if (tm_work s k 11 10).1 ≤ 0 then (tm_stackKey_182 (tm_move (tm_move (tm_set (tm_move ((tm_work s k 11 10).2) 10 14) 10 (gI (tm_move ((tm_work s k 11 10).2) 10 14) 230 29) (gJ (tm_move ((tm_work s k 11 10).2) 10 14) 230 30) (gI (tm_move ((tm_work s k 11 10).2) 10 14) 230 31)) 12 11) 13 12) k) else (tm_work s k 11 10)))
noncomputable def tm_stackKey : xS → Int32 → Int32 × xS := Classical.choose (⟨tm_stackKey_d, rfl⟩ : ∃ f, f = tm_stackKey_d)
set_option maxRecDepth 100000 in
theorem tm_stackKey_eq : tm_stackKey = tm_stackKey_d := Classical.choose_spec (⟨tm_stackKey_d, rfl⟩ : ∃ f, f = tm_stackKey_d)
def tm_stackKey_ok (s : xS) (k : Int32) : Prop := (((tm_isOperation k) = false → ((¬ k = 61 → ((k = 87 → (tm_stackKey_93_ok s k)) ∧ (¬ (k = 87) → ((¬ k = 68 → (k = 76 → ((tm_recall_ok s 14) ∧ (tm_push_ok (tm_recall s 14))))) ∧ (k = 68 → (tm_stackKey_93_ok s k)))))) ∧ (k = 61 → (tm_lift_ok s)))) ∧ ((tm_isOperation k) = true → ((tm_work_ok s k 11 10) ∧ ((tm_work s k 11 10).1 ≤ 0 → ((tm_move_ok ((tm_work s k 11 10).2) 10 14) ∧ ((tm_set_ok (tm_move ((tm_work s k 11 10).2) 10 14) 10 (gI (tm_move ((tm_work s k 11 10).2) 10 14) 230 29) (gJ (tm_move ((tm_work s k 11 10).2) 10 14) 230 30) (gI (tm_move ((tm_work s k 11 10).2) 10 14) 230 31)) ∧ ((tm_move_ok (tm_set (tm_move ((tm_work s k 11 10).2) 10 14) 10 (gI (tm_move ((tm_work s k 11 10).2) 10 14) 230 29) (gJ (tm_move ((tm_work s k 11 10).2) 10 14) 230 30) (gI (tm_move ((tm_work s k 11 10).2) 10 14) 230 31)) 12 11) ∧ (tm_move_ok (tm_move (tm_set (tm_move ((tm_work s k 11 10).2) 10 14) 10 (gI (tm_move ((tm_work s k 11 10).2) 10 14) 230 29) (gJ (tm_move ((tm_work s k 11 10).2) 10 14) 230 30) (gI (tm_move ((tm_work s k 11 10).2) 10 14) 230 31)) 12 11) 13 12))))))))
set_option maxRecDepth 100000 in
theorem m63 {xs : Nat → Int32} {Ls : Nat} {Ψ : xO → xH → Prop} (s : xS) (k : Int32) (gq : tm_stackKey_ok s k) (h : Ψ (.inl (some (vi (tm_stackKey s k).1))) (xhp (tm_stackKey s k).2)) : xM (xX0 xs Ls) 63 [vr 12 230, vi k] (xhp s) Ψ := by
  rw [tm_stackKey_eq] at h
  unfold tm_stackKey_d at h
  unfold tm_stackKey_ok at gq
  exact xM.of (P := p63) rfl rfl rfl (b63_0 s k (⟨fun hc => by rw [if_pos hc] at h; replace gq := gq.1 hc; exact ⟨fun hc => by rw [if_pos hc] at h; replace gq := gq.1 hc; exact ⟨fun hc => by rw [if_pos hc] at h; replace gq := gq.1 hc; exact n63_93 _ _ gq h, fun hc => by rw [if_neg hc] at h; replace gq := gq.2 hc; exact ⟨fun hc => by rw [if_pos hc] at h; replace gq := gq.1 hc; exact ⟨fun hc => by rw [if_pos hc] at h; exact (by (try dsimp only at h); exact h), fun hc => by rw [if_neg (fun z => z hc)] at h; replace gq := gq hc; exact ⟨gq.1, by replace gq := gq.2; exact ⟨gq, n63_182 _ _ h⟩⟩⟩, fun hc => by rw [if_neg (fun z => z hc)] at h; replace gq := gq.2 hc; exact n63_93 _ _ gq h⟩⟩, fun hc => by rw [if_neg (fun z => z hc)] at h; replace gq := gq.2 hc; exact ⟨gq, n63_182 _ _ h⟩⟩, fun hc => by rw [if_neg (by rw [hc]; decide)] at h; replace gq := gq.2 hc; exact ⟨gq.1, by replace gq := gq.2; exact ⟨fun hc => by rw [if_pos hc] at h; replace gq := gq hc; exact ⟨gq.1, by replace gq := gq.2; exact ⟨gq.1, by replace gq := gq.2; exact ⟨gq.1, by replace gq := gq.2; exact ⟨gq, n63_182 _ _ h⟩⟩⟩⟩, fun hc => by rw [if_neg hc] at h; exact (by (try dsimp only at h); exact h)⟩⟩⟩))
/-! tm_close -/
theorem b64_0 {xs : Nat → Int32} {Ls : Nat} {Φ : Option xV → xH → Prop} (s : xS) (g : ((vp_in (46 + ((gI s 231 54) - 1)) 640) ∧ ((¬ (gI (sI s 231 54 ((gI s 231 54) - 1)) 231 ((46 + ((gI s 231 54) - 1)).toNatClampNeg)) = 0 → ((vp_in (46 + ((gI s 231 54) - 1)) 640) ∧ ((tm_work_ok (sI s 231 54 ((gI s 231 54) - 1)) (gI (sI s 231 54 ((gI s 231 54) - 1)) 231 ((46 + ((gI s 231 54) - 1)).toNatClampNeg)) (15 + ((gI s 231 54) - 1)) 10) ∧ ((tm_put_ok ((tm_work (sI s 231 54 ((gI s 231 54) - 1)) (gI (sI s 231 54 ((gI s 231 54) - 1)) 231 ((46 + ((gI s 231 54) - 1)).toNatClampNeg)) (15 + ((gI s 231 54) - 1)) 10).2) ((tm_work (sI s 231 54 ((gI s 231 54) - 1)) (gI (sI s 231 54 ((gI s 231 54) - 1)) 231 ((46 + ((gI s 231 54) - 1)).toNatClampNeg)) (15 + ((gI s 231 54) - 1)) 10).1) 10) ∧ Φ (some (vi ((tm_put ((tm_work (sI s 231 54 ((gI s 231 54) - 1)) (gI (sI s 231 54 ((gI s 231 54) - 1)) 231 ((46 + ((gI s 231 54) - 1)).toNatClampNeg)) (15 + ((gI s 231 54) - 1)) 10).2) ((tm_work (sI s 231 54 ((gI s 231 54) - 1)) (gI (sI s 231 54 ((gI s 231 54) - 1)) 231 ((46 + ((gI s 231 54) - 1)).toNatClampNeg)) (15 + ((gI s 231 54) - 1)) 10).1) 10).1))) (xhp ((tm_put ((tm_work (sI s 231 54 ((gI s 231 54) - 1)) (gI (sI s 231 54 ((gI s 231 54) - 1)) 231 ((46 + ((gI s 231 54) - 1)).toNatClampNeg)) (15 + ((gI s 231 54) - 1)) 10).2) ((tm_work (sI s 231 54 ((gI s 231 54) - 1)) (gI (sI s 231 54 ((gI s 231 54) - 1)) 231 ((46 + ((gI s 231 54) - 1)).toNatClampNeg)) (15 + ((gI s 231 54) - 1)) 10).1) 10).2)))))) ∧ ((gI (sI s 231 54 ((gI s 231 54) - 1)) 231 ((46 + ((gI s 231 54) - 1)).toNatClampNeg)) = 0 → Φ (some (vi 0)) (xhp (sI s 231 54 ((gI s 231 54) - 1))))))) : xW (xX0 xs Ls) p64 0 [(0, vr 12 230)] [] (xhp s) Φ := by
  refine xW.side (c := vp_in 54 640) (pc1 := 8) (L1 := [(0, vr 12 230)]) (st1 := [vi (gI s 231 54), vi 54, vr 40 231]) (h1 := xhp s) 5 (fun _ _ _ _ => rfl) (vp_lit rfl) ?_
  refine xW.side (c := vp_in 54 640) (pc1 := 11) (L1 := [(0, vr 12 230)]) (st1 := []) (h1 := xhp (sI s 231 54 ((gI s 231 54) - 1))) 3 (fun _ _ _ _ => rfl) (vp_lit rfl) ?_
  refine xW.side (c := vp_in 54 640) (pc1 := 18) (L1 := [(0, vr 12 230)]) (st1 := [vi ((gI s 231 54) - 1)]) (h1 := xhp (sI s 231 54 ((gI s 231 54) - 1))) 4 (fun _ _ _ _ => rfl) (vp_lit rfl) ?_
  refine xW.side (c := vp_in (46 + ((gI s 231 54) - 1)) 640) (pc1 := 28) (L1 := [(1, vi ((gI s 231 54) - 1)), (0, vr 12 230)]) (st1 := [vi (gI (sI s 231 54 ((gI s 231 54) - 1)) 231 ((46 + ((gI s 231 54) - 1)).toNatClampNeg))]) (h1 := xhp (sI s 231 54 ((gI s 231 54) - 1))) 7 (fun _ _ _ _ => rfl) g.1 ?_
  replace g := g.2
  refine xW.br (c := ¬ (gI (sI s 231 54 ((gI s 231 54) - 1)) 231 ((46 + ((gI s 231 54) - 1)).toNatClampNeg)) = 0) (pc1 := 35) (L1 := [(1, vi ((gI s 231 54) - 1)), (0, vr 12 230)]) (st1 := []) (h1 := xhp (sI s 231 54 ((gI s 231 54) - 1))) (pc2 := 31) (L2 := [(1, vi ((gI s 231 54) - 1)), (0, vr 12 230)]) (st2 := []) (h2 := xhp (sI s 231 54 ((gI s 231 54) - 1))) 1 (fun _ _ _ _ => rfl) (fun hc => ?_) (fun hc => ?_)
  · replace g := g.1 hc
    refine xW.side (c := vp_in (46 + ((gI s 231 54) - 1)) 640) (pc1 := 46) (L1 := [(1, vi ((gI s 231 54) - 1)), (0, vr 12 230)]) (st1 := [vi (gI (sI s 231 54 ((gI s 231 54) - 1)) 231 ((46 + ((gI s 231 54) - 1)).toNatClampNeg)), vr 12 230, vr 12 230]) (h1 := xhp (sI s 231 54 ((gI s 231 54) - 1))) 8 (fun _ _ _ _ => rfl) g.1 ?_
    replace g := g.2
    refine xW.call (y := 42) (as := [vr 12 230, vi (gI (sI s 231 54 ((gI s 231 54) - 1)) 231 ((46 + ((gI s 231 54) - 1)).toNatClampNeg)), vi (15 + ((gI s 231 54) - 1)), vi 10]) (h0 := xhp (sI s 231 54 ((gI s 231 54) - 1))) (pc0 := 52) (len := 3) (L0 := [(1, vi ((gI s 231 54) - 1)), (0, vr 12 230)]) (rest := [vr 12 230]) 5 (fun _ _ _ _ => rfl) (m42 _ _ _ _ g.1 ?_)
    show xW (xX0 xs Ls) p64 55 [(1, vi ((gI s 231 54) - 1)), (0, vr 12 230)] [vi ((tm_work (sI s 231 54 ((gI s 231 54) - 1)) (gI (sI s 231 54 ((gI s 231 54) - 1)) 231 ((46 + ((gI s 231 54) - 1)).toNatClampNeg)) (15 + ((gI s 231 54) - 1)) 10).1), vr 12 230] (xhp ((tm_work (sI s 231 54 ((gI s 231 54) - 1)) (gI (sI s 231 54 ((gI s 231 54) - 1)) 231 ((46 + ((gI s 231 54) - 1)).toNatClampNeg)) (15 + ((gI s 231 54) - 1)) 10).2)) Φ
    replace g := g.2
    refine xW.call (y := 43) (as := [vr 12 230, vi ((tm_work (sI s 231 54 ((gI s 231 54) - 1)) (gI (sI s 231 54 ((gI s 231 54) - 1)) 231 ((46 + ((gI s 231 54) - 1)).toNatClampNeg)) (15 + ((gI s 231 54) - 1)) 10).1), vi 10]) (h0 := xhp ((tm_work (sI s 231 54 ((gI s 231 54) - 1)) (gI (sI s 231 54 ((gI s 231 54) - 1)) 231 ((46 + ((gI s 231 54) - 1)).toNatClampNeg)) (15 + ((gI s 231 54) - 1)) 10).2)) (pc0 := 57) (len := 3) (L0 := [(1, vi ((gI s 231 54) - 1)), (0, vr 12 230)]) (rest := []) 2 (fun _ _ _ _ => rfl) (m43 _ _ _ g.1 ?_)
    show xW (xX0 xs Ls) p64 60 [(1, vi ((gI s 231 54) - 1)), (0, vr 12 230)] [vi ((tm_put ((tm_work (sI s 231 54 ((gI s 231 54) - 1)) (gI (sI s 231 54 ((gI s 231 54) - 1)) 231 ((46 + ((gI s 231 54) - 1)).toNatClampNeg)) (15 + ((gI s 231 54) - 1)) 10).2) ((tm_work (sI s 231 54 ((gI s 231 54) - 1)) (gI (sI s 231 54 ((gI s 231 54) - 1)) 231 ((46 + ((gI s 231 54) - 1)).toNatClampNeg)) (15 + ((gI s 231 54) - 1)) 10).1) 10).1)] (xhp ((tm_put ((tm_work (sI s 231 54 ((gI s 231 54) - 1)) (gI (sI s 231 54 ((gI s 231 54) - 1)) 231 ((46 + ((gI s 231 54) - 1)).toNatClampNeg)) (15 + ((gI s 231 54) - 1)) 10).2) ((tm_work (sI s 231 54 ((gI s 231 54) - 1)) (gI (sI s 231 54 ((gI s 231 54) - 1)) 231 ((46 + ((gI s 231 54) - 1)).toNatClampNeg)) (15 + ((gI s 231 54) - 1)) 10).1) 10).2)) Φ
    replace g := g.2
    exact xW.ret (v0 := some (vi ((tm_put ((tm_work (sI s 231 54 ((gI s 231 54) - 1)) (gI (sI s 231 54 ((gI s 231 54) - 1)) 231 ((46 + ((gI s 231 54) - 1)).toNatClampNeg)) (15 + ((gI s 231 54) - 1)) 10).2) ((tm_work (sI s 231 54 ((gI s 231 54) - 1)) (gI (sI s 231 54 ((gI s 231 54) - 1)) 231 ((46 + ((gI s 231 54) - 1)).toNatClampNeg)) (15 + ((gI s 231 54) - 1)) 10).1) 10).1))) (h1 := xhp ((tm_put ((tm_work (sI s 231 54 ((gI s 231 54) - 1)) (gI (sI s 231 54 ((gI s 231 54) - 1)) 231 ((46 + ((gI s 231 54) - 1)).toNatClampNeg)) (15 + ((gI s 231 54) - 1)) 10).2) ((tm_work (sI s 231 54 ((gI s 231 54) - 1)) (gI (sI s 231 54 ((gI s 231 54) - 1)) 231 ((46 + ((gI s 231 54) - 1)).toNatClampNeg)) (15 + ((gI s 231 54) - 1)) 10).1) 10).2)) 1 (fun _ _ _ _ => rfl) g
  · replace g := g.2 (Decidable.not_not.mp hc)
    exact xW.ret (v0 := some (vi 0)) (h1 := xhp (sI s 231 54 ((gI s 231 54) - 1))) 3 (fun _ _ _ _ => rfl) g
noncomputable def tm_close_d (s : xS) : Int32 × xS := (if ¬ (gI (sI s 231 54 ((gI s 231 54) - 1)) 231 ((46 + ((gI s 231 54) - 1)).toNatClampNeg)) = 0 then (tm_put ((tm_work (sI s 231 54 ((gI s 231 54) - 1)) (gI (sI s 231 54 ((gI s 231 54) - 1)) 231 ((46 + ((gI s 231 54) - 1)).toNatClampNeg)) (15 + ((gI s 231 54) - 1)) 10).2) ((tm_work (sI s 231 54 ((gI s 231 54) - 1)) (gI (sI s 231 54 ((gI s 231 54) - 1)) 231 ((46 + ((gI s 231 54) - 1)).toNatClampNeg)) (15 + ((gI s 231 54) - 1)) 10).1) 10) else (0, (sI s 231 54 ((gI s 231 54) - 1))))
noncomputable def tm_close : xS → Int32 × xS := Classical.choose (⟨tm_close_d, rfl⟩ : ∃ f, f = tm_close_d)
set_option maxRecDepth 100000 in
theorem tm_close_eq : tm_close = tm_close_d := Classical.choose_spec (⟨tm_close_d, rfl⟩ : ∃ f, f = tm_close_d)
def tm_close_ok (s : xS) : Prop := ((vp_in (46 + ((gI s 231 54) - 1)) 640) ∧ (¬ (gI (sI s 231 54 ((gI s 231 54) - 1)) 231 ((46 + ((gI s 231 54) - 1)).toNatClampNeg)) = 0 → ((vp_in (46 + ((gI s 231 54) - 1)) 640) ∧ ((tm_work_ok (sI s 231 54 ((gI s 231 54) - 1)) (gI (sI s 231 54 ((gI s 231 54) - 1)) 231 ((46 + ((gI s 231 54) - 1)).toNatClampNeg)) (15 + ((gI s 231 54) - 1)) 10) ∧ (tm_put_ok ((tm_work (sI s 231 54 ((gI s 231 54) - 1)) (gI (sI s 231 54 ((gI s 231 54) - 1)) 231 ((46 + ((gI s 231 54) - 1)).toNatClampNeg)) (15 + ((gI s 231 54) - 1)) 10).2) ((tm_work (sI s 231 54 ((gI s 231 54) - 1)) (gI (sI s 231 54 ((gI s 231 54) - 1)) 231 ((46 + ((gI s 231 54) - 1)).toNatClampNeg)) (15 + ((gI s 231 54) - 1)) 10).1) 10)))))
set_option maxRecDepth 100000 in
theorem m64 {xs : Nat → Int32} {Ls : Nat} {Ψ : xO → xH → Prop} (s : xS) (gq : tm_close_ok s) (h : Ψ (.inl (some (vi (tm_close s).1))) (xhp (tm_close s).2)) : xM (xX0 xs Ls) 64 [vr 12 230] (xhp s) Ψ := by
  rw [tm_close_eq] at h
  unfold tm_close_d at h
  unfold tm_close_ok at gq
  exact xM.of (P := p64) rfl rfl rfl (b64_0 s (⟨gq.1, by replace gq := gq.2; exact ⟨fun hc => by rw [if_pos hc] at h; replace gq := gq hc; exact ⟨gq.1, by replace gq := gq.2; exact ⟨gq.1, by replace gq := gq.2; exact ⟨gq, (by (try dsimp only at h); exact h)⟩⟩⟩, fun hc => by rw [if_neg (fun z => z hc)] at h; exact (by (try dsimp only at h); exact h)⟩⟩))
/-! tm_tightness -/
theorem b65_0 {xs : Nat → Int32} {Ls : Nat} {Φ : Option xV → xH → Prop} (s : xS) (k : Int32) (g : Φ (some (vi (if k = 0 then (0 : Int32) else (if k = 43 then (1 : Int32) else (if k = 45 then (1 : Int32) else 2))))) (xhp s)) : xW (xX0 xs Ls) p65 0 [(0, vi k)] [] (xhp s) Φ := by
  refine xW.seg (pc1 := 1) (L1 := [(0, vi k)]) (st1 := [vi k]) (h1 := xhp s) 1 (fun _ _ _ _ => rfl) ?_
  suffices J : xW (xX0 xs Ls) p65 25 [(0, vi k)] [vi (if k = 0 then (0 : Int32) else (if k = 43 then (1 : Int32) else (if k = 45 then (1 : Int32) else 2)))] (xhp s) Φ by
    refine xW.br (c := ¬ k = 0) (pc1 := 8) (L1 := [(0, vi k)]) (st1 := []) (h1 := xhp s) (pc2 := 4) (L2 := [(0, vi k)]) (st2 := []) (h2 := xhp s) 1 (fun _ _ _ _ => rfl) (fun hc => ?_) (fun hc => ?_)
    · have hc1 : ¬ k = 0 := hc
      refine xW.br (c := k = 43) (pc1 := 20) (L1 := [(0, vi k)]) (st1 := []) (h1 := xhp s) (pc2 := 14) (L2 := [(0, vi k)]) (st2 := []) (h2 := xhp s) 3 (fun _ _ _ _ => rfl) (fun hc => ?_) (fun hc => ?_)
      · have hc2 : k = 43 := hc
        refine xW.seg (pc1 := 25) (L1 := [(0, vi k)]) (st1 := [vi 1]) (h1 := xhp s) 2 (fun _ _ _ _ => rfl) ?_
        refine xW.to (v := vi (if k = 0 then (0 : Int32) else (if k = 43 then (1 : Int32) else (if k = 45 then (1 : Int32) else 2)))) ((congrArg vi ((if_neg hc1).trans (if_pos hc2))).symm) ?_
        exact J
      · have hc2 : ¬ (k = 43) := hc
        refine xW.br (c := ¬ k = 45) (pc1 := 24) (L1 := [(0, vi k)]) (st1 := []) (h1 := xhp s) (pc2 := 20) (L2 := [(0, vi k)]) (st2 := []) (h2 := xhp s) 3 (fun _ _ _ _ => rfl) (fun hc => ?_) (fun hc => ?_)
        · have hc3 : ¬ k = 45 := hc
          refine xW.seg (pc1 := 25) (L1 := [(0, vi k)]) (st1 := [vi 2]) (h1 := xhp s) 1 (fun _ _ _ _ => rfl) ?_
          refine xW.to (v := vi (if k = 0 then (0 : Int32) else (if k = 43 then (1 : Int32) else (if k = 45 then (1 : Int32) else 2)))) ((congrArg vi ((if_neg hc1).trans ((if_neg hc2).trans (if_neg hc3)))).symm) ?_
          exact J
        · have hc3 : k = 45 := (Decidable.not_not.mp hc)
          refine xW.seg (pc1 := 25) (L1 := [(0, vi k)]) (st1 := [vi 1]) (h1 := xhp s) 2 (fun _ _ _ _ => rfl) ?_
          refine xW.to (v := vi (if k = 0 then (0 : Int32) else (if k = 43 then (1 : Int32) else (if k = 45 then (1 : Int32) else 2)))) ((congrArg vi ((if_neg hc1).trans ((if_neg hc2).trans (if_pos hc3)))).symm) ?_
          exact J
    · have hc1 : k = 0 := (Decidable.not_not.mp hc)
      refine xW.seg (pc1 := 25) (L1 := [(0, vi k)]) (st1 := [vi 0]) (h1 := xhp s) 2 (fun _ _ _ _ => rfl) ?_
      refine xW.to (v := vi (if k = 0 then (0 : Int32) else (if k = 43 then (1 : Int32) else (if k = 45 then (1 : Int32) else 2)))) ((congrArg vi (if_pos hc1)).symm) ?_
      exact J
  exact xW.ret (v0 := some (vi (if k = 0 then (0 : Int32) else (if k = 43 then (1 : Int32) else (if k = 45 then (1 : Int32) else 2))))) (h1 := xhp s) 1 (fun _ _ _ _ => rfl) g
noncomputable def tm_tightness (k : Int32) : Int32 := (if k = 0 then (0 : Int32) else (if k = 43 then (1 : Int32) else (if k = 45 then (1 : Int32) else 2)))
set_option maxRecDepth 100000 in
theorem m65 {xs : Nat → Int32} {Ls : Nat} {Ψ : xO → xH → Prop} (s : xS) (k : Int32) (h : Ψ (.inl (some (vi (tm_tightness k)))) (xhp s)) : xM (xX0 xs Ls) 65 [vi k] (xhp s) Ψ := by
  unfold tm_tightness at h
  exact xM.of (P := p65) rfl rfl rfl (b65_0 s k (h))
/-! tm_closing -/
theorem b67_169 {xs : Nat → Int32} {Ls : Nat} {Φ : Option xV → xH → Prop} (s : xS) (x1 : Int32) (x4 : Int32) (g : Φ (some (vi x4)) (xhp (sI s 231 55 (if x1 = 41 then (2 : Int32) else 0)))) : xW (xX0 xs Ls) p67 169 [(0, vr 12 230), (1, vi x1), (4, vi x4)] [] (xhp s) Φ := by
  refine xW.seg (pc1 := 178) (L1 := [(0, vr 12 230), (1, vi x1), (4, vi x4)]) (st1 := [vi 41, vi x1, vi 55, vr 40 231]) (h1 := xhp s) 5 (fun _ _ _ _ => rfl) ?_
  suffices J : xW (xX0 xs Ls) p67 186 [(0, vr 12 230), (1, vi x1), (4, vi x4)] [vi (if x1 = 41 then (2 : Int32) else 0), vi 55, vr 40 231] (xhp s) Φ by
    refine xW.br (c := ¬ x1 = 41) (pc1 := 185) (L1 := [(0, vr 12 230), (1, vi x1), (4, vi x4)]) (st1 := [vi 55, vr 40 231]) (h1 := xhp s) (pc2 := 181) (L2 := [(0, vr 12 230), (1, vi x1), (4, vi x4)]) (st2 := [vi 55, vr 40 231]) (h2 := xhp s) 1 (fun _ _ _ _ => rfl) (fun hc => ?_) (fun hc => ?_)
    · have hc1 : ¬ x1 = 41 := hc
      refine xW.seg (pc1 := 186) (L1 := [(0, vr 12 230), (1, vi x1), (4, vi x4)]) (st1 := [vi 0, vi 55, vr 40 231]) (h1 := xhp s) 1 (fun _ _ _ _ => rfl) ?_
      refine xW.to (v := vi (if x1 = 41 then (2 : Int32) else 0)) ((congrArg vi (if_neg hc1)).symm) ?_
      exact J
    · have hc1 : x1 = 41 := (Decidable.not_not.mp hc)
      refine xW.seg (pc1 := 186) (L1 := [(0, vr 12 230), (1, vi x1), (4, vi x4)]) (st1 := [vi 2, vi 55, vr 40 231]) (h1 := xhp s) 2 (fun _ _ _ _ => rfl) ?_
      refine xW.to (v := vi (if x1 = 41 then (2 : Int32) else 0)) ((congrArg vi (if_pos hc1)).symm) ?_
      exact J
  refine xW.side (c := vp_in 55 640) (pc1 := 187) (L1 := [(0, vr 12 230), (1, vi x1), (4, vi x4)]) (st1 := []) (h1 := xhp (sI s 231 55 (if x1 = 41 then (2 : Int32) else 0))) 1 (fun _ _ _ _ => rfl) (vp_lit rfl) ?_
  exact xW.ret (v0 := some (vi x4)) (h1 := xhp (sI s 231 55 (if x1 = 41 then (2 : Int32) else 0))) 2 (fun _ _ _ _ => rfl) g
noncomputable def tm_closing_169_d (s : xS) (x1 : Int32) (x4 : Int32) : Int32 × xS := (x4, (sI s 231 55 (if x1 = 41 then (2 : Int32) else 0)))
noncomputable def tm_closing_169 : xS → Int32 → Int32 → Int32 × xS := Classical.choose (⟨tm_closing_169_d, rfl⟩ : ∃ f, f = tm_closing_169_d)
set_option maxRecDepth 100000 in
theorem tm_closing_169_eq : tm_closing_169 = tm_closing_169_d := Classical.choose_spec (⟨tm_closing_169_d, rfl⟩ : ∃ f, f = tm_closing_169_d)
set_option maxRecDepth 100000 in
theorem n67_169 {xs : Nat → Int32} {Ls : Nat} {Φ : Option xV → xH → Prop} (s : xS) (x1 : Int32) (x4 : Int32) (h : Φ (some (vi (tm_closing_169 s x1 x4).1)) (xhp (tm_closing_169 s x1 x4).2)) : xW (xX0 xs Ls) p67 169 [(0, vr 12 230), (1, vi x1), (4, vi x4)] [] (xhp s) Φ := by
  rw [tm_closing_169_eq] at h
  unfold tm_closing_169_d at h
  exact b67_169 s x1 x4 ((by (try dsimp only at h); exact h))
set_option maxRecDepth 100000 in
theorem b67_99 {xs : Nat → Int32} {Ls : Nat} {Φ : Option xV → xH → Prop} (s : xS) (x1 : Int32) (x3 : Int32) (x4 : Int32) (g : ((x3 = 0 → xW (xX0 xs Ls) p67 169 [(0, vr 12 230), (1, vi x1), (4, vi x4)] [] (xhp s) Φ) ∧ (¬ (x3 = 0) → ((¬ x4 = 0 → xW (xX0 xs Ls) p67 169 [(0, vr 12 230), (1, vi x1), (4, vi x4)] [] (xhp s) Φ) ∧ (x4 = 0 → ((x1 = 61 → ((tm_close_ok s) ∧ xW (xX0 xs Ls) p67 99 [(0, vr 12 230), (1, vi x1), (3, vi (zb (!decide ((gI ((tm_close s).2) 231 54) ≤ 0)))), (4, vi ((tm_close s).1))] [] (xhp ((tm_close s).2)) Φ)) ∧ (¬ (x1 = 61) → ((vp_in ((46 + (gI s 231 54)) - 1) 640) ∧ ((tm_close_ok s) ∧ (((!decide ((gI s 231 (((46 + (gI s 231 54)) - 1).toNatClampNeg)) = 0)) = false → xW (xX0 xs Ls) p67 99 [(0, vr 12 230), (1, vi x1), (3, vi 0), (4, vi ((tm_close s).1))] [] (xhp ((tm_close s).2)) Φ) ∧ ((!decide ((gI s 231 (((46 + (gI s 231 54)) - 1).toNatClampNeg)) = 0)) = true → xW (xX0 xs Ls) p67 99 [(0, vr 12 230), (1, vi x1), (3, vi (zb (!decide ((gI ((tm_close s).2) 231 54) ≤ 0)))), (4, vi ((tm_close s).1))] [] (xhp ((tm_close s).2)) Φ))))))))))) : xW (xX0 xs Ls) p67 99 [(0, vr 12 230), (1, vi x1), (3, vi x3), (4, vi x4)] [] (xhp s) Φ := by
  refine xW.br (c := x3 = 0) (pc1 := 169) (L1 := [(0, vr 12 230), (1, vi x1), (3, vi x3), (4, vi x4)]) (st1 := []) (h1 := xhp s) (pc2 := 103) (L2 := [(0, vr 12 230), (1, vi x1), (3, vi x3), (4, vi x4)]) (st2 := []) (h2 := xhp s) 2 (fun _ _ _ _ => rfl) (fun hc => ?_) (fun hc => ?_)
  · replace g := g.1 hc
    exact xW.locs (L := [(0, vr 12 230), (1, vi x1), (4, vi x4)]) ⟨rfl, rfl, rfl, trivial⟩ rfl g
  · replace g := g.2 hc
    refine xW.br (c := ¬ x4 = 0) (pc1 := 169) (L1 := [(0, vr 12 230), (1, vi x1), (3, vi x3), (4, vi x4)]) (st1 := []) (h1 := xhp s) (pc2 := 108) (L2 := [(0, vr 12 230), (1, vi x1), (3, vi x3), (4, vi x4)]) (st2 := []) (h2 := xhp s) 2 (fun _ _ _ _ => rfl) (fun hc => ?_) (fun hc => ?_)
    · replace g := g.1 hc
      exact xW.locs (L := [(0, vr 12 230), (1, vi x1), (4, vi x4)]) ⟨rfl, rfl, rfl, trivial⟩ rfl g
    · replace g := g.2 (Decidable.not_not.mp hc)
      refine xW.br (c := x1 = 61) (pc1 := 134) (L1 := [(0, vr 12 230), (1, vi x1), (3, vi x3), (4, vi x4)]) (st1 := []) (h1 := xhp s) (pc2 := 114) (L2 := [(0, vr 12 230), (1, vi x1), (3, vi x3), (4, vi x4)]) (st2 := []) (h2 := xhp s) 3 (fun _ _ _ _ => rfl) (fun hc => ?_) (fun hc => ?_)
      · replace g := g.1 hc
        refine xW.call (y := 64) (as := [vr 12 230]) (h0 := xhp s) (pc0 := 141) (len := 3) (L0 := [(3, vi 1), (0, vr 12 230), (1, vi x1), (4, vi x4)]) (rest := []) 5 (fun _ _ _ _ => rfl) (m64 _ g.1 ?_)
        show xW (xX0 xs Ls) p67 144 [(3, vi 1), (0, vr 12 230), (1, vi x1), (4, vi x4)] [vi ((tm_close s).1)] (xhp ((tm_close s).2)) Φ
        replace g := g.2
        refine xW.br (c := (1 : Int32) = 0) (pc1 := 164) (L1 := [(4, vi ((tm_close s).1)), (3, vi 1), (0, vr 12 230), (1, vi x1)]) (st1 := []) (h1 := xhp ((tm_close s).2)) (pc2 := 150) (L2 := [(4, vi ((tm_close s).1)), (3, vi 1), (0, vr 12 230), (1, vi x1)]) (st2 := []) (h2 := xhp ((tm_close s).2)) 3 (fun _ _ _ _ => rfl) (fun hc => absurd hc (by decide)) (fun _ => ?_)
        refine xW.side (c := vp_in 54 640) (pc1 := 157) (L1 := [(4, vi ((tm_close s).1)), (3, vi 1), (0, vr 12 230), (1, vi x1)]) (st1 := [vi (gI ((tm_close s).2) 231 54)]) (h1 := xhp ((tm_close s).2)) 4 (fun _ _ _ _ => rfl) (vp_lit rfl) ?_
        suffices J : xW (xX0 xs Ls) p67 165 [(4, vi ((tm_close s).1)), (3, vi 1), (0, vr 12 230), (1, vi x1)] [vi (zb (!decide ((gI ((tm_close s).2) 231 54) ≤ 0)))] (xhp ((tm_close s).2)) Φ by
          refine xW.br (c := (gI ((tm_close s).2) 231 54) ≤ 0) (pc1 := 164) (L1 := [(4, vi ((tm_close s).1)), (3, vi 1), (0, vr 12 230), (1, vi x1)]) (st1 := []) (h1 := xhp ((tm_close s).2)) (pc2 := 160) (L2 := [(4, vi ((tm_close s).1)), (3, vi 1), (0, vr 12 230), (1, vi x1)]) (st2 := []) (h2 := xhp ((tm_close s).2)) 1 (fun _ _ _ _ => rfl) (fun hc => ?_) (fun hc => ?_)
          · have hc1 : (gI ((tm_close s).2) 231 54) ≤ 0 := hc
            refine xW.seg (pc1 := 165) (L1 := [(4, vi ((tm_close s).1)), (3, vi 1), (0, vr 12 230), (1, vi x1)]) (st1 := [vi 0]) (h1 := xhp ((tm_close s).2)) 1 (fun _ _ _ _ => rfl) ?_
            refine xW.to (v := vi (zb (!decide ((gI ((tm_close s).2) 231 54) ≤ 0)))) (zb_f (by simp only [decide_eq_true hc1, Bool.true_or, Bool.or_true, Bool.false_or, Bool.or_false, Bool.true_and, Bool.and_true, Bool.false_and, Bool.and_false, Bool.not_true, Bool.not_false, cond_true, cond_false])) ?_
            exact J
          · have hc1 : ¬ ((gI ((tm_close s).2) 231 54) ≤ 0) := hc
            refine xW.seg (pc1 := 165) (L1 := [(4, vi ((tm_close s).1)), (3, vi 1), (0, vr 12 230), (1, vi x1)]) (st1 := [vi 1]) (h1 := xhp ((tm_close s).2)) 2 (fun _ _ _ _ => rfl) ?_
            refine xW.to (v := vi (zb (!decide ((gI ((tm_close s).2) 231 54) ≤ 0)))) (zb_t (by simp only [decide_eq_false hc1, Bool.true_or, Bool.or_true, Bool.false_or, Bool.or_false, Bool.true_and, Bool.and_true, Bool.false_and, Bool.and_false, Bool.not_true, Bool.not_false, cond_true, cond_false])) ?_
            exact J
        refine xW.seg (pc1 := 99) (L1 := [(3, vi (zb (!decide ((gI ((tm_close s).2) 231 54) ≤ 0)))), (4, vi ((tm_close s).1)), (0, vr 12 230), (1, vi x1)]) (st1 := []) (h1 := xhp ((tm_close s).2)) 2 (fun _ _ _ _ => rfl) ?_
        exact xW.locs (L := [(0, vr 12 230), (1, vi x1), (3, vi (zb (!decide ((gI ((tm_close s).2) 231 54) ≤ 0)))), (4, vi ((tm_close s).1))]) ⟨rfl, rfl, rfl, rfl, trivial⟩ rfl g
      · replace g := g.2 hc
        refine xW.side (c := vp_in 54 640) (pc1 := 127) (L1 := [(0, vr 12 230), (1, vi x1), (3, vi x3), (4, vi x4)]) (st1 := [vi (gI s 231 54), vi 46, vr 40 231]) (h1 := xhp s) 7 (fun _ _ _ _ => rfl) (vp_lit rfl) ?_
        refine xW.side (c := vp_in ((46 + (gI s 231 54)) - 1) 640) (pc1 := 131) (L1 := [(0, vr 12 230), (1, vi x1), (3, vi x3), (4, vi x4)]) (st1 := [vi (gI s 231 (((46 + (gI s 231 54)) - 1).toNatClampNeg))]) (h1 := xhp s) 4 (fun _ _ _ _ => rfl) g.1 ?_
        replace g := g.2
        suffices J : xW (xX0 xs Ls) p67 139 [(0, vr 12 230), (1, vi x1), (3, vi x3), (4, vi x4)] [vi (zb (!decide ((gI s 231 (((46 + (gI s 231 54)) - 1).toNatClampNeg)) = 0)))] (xhp s) Φ by
          refine xW.br (c := (gI s 231 (((46 + (gI s 231 54)) - 1).toNatClampNeg)) = 0) (pc1 := 138) (L1 := [(0, vr 12 230), (1, vi x1), (3, vi x3), (4, vi x4)]) (st1 := []) (h1 := xhp s) (pc2 := 134) (L2 := [(0, vr 12 230), (1, vi x1), (3, vi x3), (4, vi x4)]) (st2 := []) (h2 := xhp s) 1 (fun _ _ _ _ => rfl) (fun hc => ?_) (fun hc => ?_)
          · have hc2 : (gI s 231 (((46 + (gI s 231 54)) - 1).toNatClampNeg)) = 0 := hc
            refine xW.seg (pc1 := 139) (L1 := [(0, vr 12 230), (1, vi x1), (3, vi x3), (4, vi x4)]) (st1 := [vi 0]) (h1 := xhp s) 1 (fun _ _ _ _ => rfl) ?_
            refine xW.to (v := vi (zb (!decide ((gI s 231 (((46 + (gI s 231 54)) - 1).toNatClampNeg)) = 0)))) (zb_f (by simp only [decide_eq_true hc2, Bool.true_or, Bool.or_true, Bool.false_or, Bool.or_false, Bool.true_and, Bool.and_true, Bool.false_and, Bool.and_false, Bool.not_true, Bool.not_false, cond_true, cond_false])) ?_
            exact J
          · have hc2 : ¬ ((gI s 231 (((46 + (gI s 231 54)) - 1).toNatClampNeg)) = 0) := hc
            refine xW.seg (pc1 := 139) (L1 := [(0, vr 12 230), (1, vi x1), (3, vi x3), (4, vi x4)]) (st1 := [vi 1]) (h1 := xhp s) 2 (fun _ _ _ _ => rfl) ?_
            refine xW.to (v := vi (zb (!decide ((gI s 231 (((46 + (gI s 231 54)) - 1).toNatClampNeg)) = 0)))) (zb_t (by simp only [decide_eq_false hc2, Bool.true_or, Bool.or_true, Bool.false_or, Bool.or_false, Bool.true_and, Bool.and_true, Bool.false_and, Bool.and_false, Bool.not_true, Bool.not_false, cond_true, cond_false])) ?_
            exact J
        refine xW.call (y := 64) (as := [vr 12 230]) (h0 := xhp s) (pc0 := 141) (len := 3) (L0 := [(3, vi (zb (!decide ((gI s 231 (((46 + (gI s 231 54)) - 1).toNatClampNeg)) = 0)))), (0, vr 12 230), (1, vi x1), (4, vi x4)]) (rest := []) 3 (fun _ _ _ _ => rfl) (m64 _ g.1 ?_)
        show xW (xX0 xs Ls) p67 144 [(3, vi (zb (!decide ((gI s 231 (((46 + (gI s 231 54)) - 1).toNatClampNeg)) = 0)))), (0, vr 12 230), (1, vi x1), (4, vi x4)] [vi ((tm_close s).1)] (xhp ((tm_close s).2)) Φ
        replace g := g.2
        refine xW.br (c := (zb (!decide ((gI s 231 (((46 + (gI s 231 54)) - 1).toNatClampNeg)) = 0))) = 0) (pc1 := 164) (L1 := [(4, vi ((tm_close s).1)), (3, vi (zb (!decide ((gI s 231 (((46 + (gI s 231 54)) - 1).toNatClampNeg)) = 0)))), (0, vr 12 230), (1, vi x1)]) (st1 := []) (h1 := xhp ((tm_close s).2)) (pc2 := 150) (L2 := [(4, vi ((tm_close s).1)), (3, vi (zb (!decide ((gI s 231 (((46 + (gI s 231 54)) - 1).toNatClampNeg)) = 0)))), (0, vr 12 230), (1, vi x1)]) (st2 := []) (h2 := xhp ((tm_close s).2)) 3 (fun _ _ _ _ => rfl) (fun hc => ?_) (fun hc => ?_)
        · replace g := g.1 (zb_eq0.mp hc)
          refine xW.seg (pc1 := 99) (L1 := [(3, vi 0), (4, vi ((tm_close s).1)), (0, vr 12 230), (1, vi x1)]) (st1 := []) (h1 := xhp ((tm_close s).2)) 3 (fun _ _ _ _ => rfl) ?_
          exact xW.locs (L := [(0, vr 12 230), (1, vi x1), (3, vi 0), (4, vi ((tm_close s).1))]) ⟨rfl, rfl, rfl, rfl, trivial⟩ rfl g
        · replace g := g.2 (zb_ne0.mp hc)
          refine xW.side (c := vp_in 54 640) (pc1 := 157) (L1 := [(4, vi ((tm_close s).1)), (3, vi (zb (!decide ((gI s 231 (((46 + (gI s 231 54)) - 1).toNatClampNeg)) = 0)))), (0, vr 12 230), (1, vi x1)]) (st1 := [vi (gI ((tm_close s).2) 231 54)]) (h1 := xhp ((tm_close s).2)) 4 (fun _ _ _ _ => rfl) (vp_lit rfl) ?_
          suffices J : xW (xX0 xs Ls) p67 165 [(4, vi ((tm_close s).1)), (3, vi (zb (!decide ((gI s 231 (((46 + (gI s 231 54)) - 1).toNatClampNeg)) = 0)))), (0, vr 12 230), (1, vi x1)] [vi (zb (!decide ((gI ((tm_close s).2) 231 54) ≤ 0)))] (xhp ((tm_close s).2)) Φ by
            refine xW.br (c := (gI ((tm_close s).2) 231 54) ≤ 0) (pc1 := 164) (L1 := [(4, vi ((tm_close s).1)), (3, vi (zb (!decide ((gI s 231 (((46 + (gI s 231 54)) - 1).toNatClampNeg)) = 0)))), (0, vr 12 230), (1, vi x1)]) (st1 := []) (h1 := xhp ((tm_close s).2)) (pc2 := 160) (L2 := [(4, vi ((tm_close s).1)), (3, vi (zb (!decide ((gI s 231 (((46 + (gI s 231 54)) - 1).toNatClampNeg)) = 0)))), (0, vr 12 230), (1, vi x1)]) (st2 := []) (h2 := xhp ((tm_close s).2)) 1 (fun _ _ _ _ => rfl) (fun hc => ?_) (fun hc => ?_)
            · have hc3 : (gI ((tm_close s).2) 231 54) ≤ 0 := hc
              refine xW.seg (pc1 := 165) (L1 := [(4, vi ((tm_close s).1)), (3, vi (zb (!decide ((gI s 231 (((46 + (gI s 231 54)) - 1).toNatClampNeg)) = 0)))), (0, vr 12 230), (1, vi x1)]) (st1 := [vi 0]) (h1 := xhp ((tm_close s).2)) 1 (fun _ _ _ _ => rfl) ?_
              refine xW.to (v := vi (zb (!decide ((gI ((tm_close s).2) 231 54) ≤ 0)))) (zb_f (by simp only [decide_eq_true hc3, Bool.true_or, Bool.or_true, Bool.false_or, Bool.or_false, Bool.true_and, Bool.and_true, Bool.false_and, Bool.and_false, Bool.not_true, Bool.not_false, cond_true, cond_false])) ?_
              exact J
            · have hc3 : ¬ ((gI ((tm_close s).2) 231 54) ≤ 0) := hc
              refine xW.seg (pc1 := 165) (L1 := [(4, vi ((tm_close s).1)), (3, vi (zb (!decide ((gI s 231 (((46 + (gI s 231 54)) - 1).toNatClampNeg)) = 0)))), (0, vr 12 230), (1, vi x1)]) (st1 := [vi 1]) (h1 := xhp ((tm_close s).2)) 2 (fun _ _ _ _ => rfl) ?_
              refine xW.to (v := vi (zb (!decide ((gI ((tm_close s).2) 231 54) ≤ 0)))) (zb_t (by simp only [decide_eq_false hc3, Bool.true_or, Bool.or_true, Bool.false_or, Bool.or_false, Bool.true_and, Bool.and_true, Bool.false_and, Bool.and_false, Bool.not_true, Bool.not_false, cond_true, cond_false])) ?_
              exact J
          refine xW.seg (pc1 := 99) (L1 := [(3, vi (zb (!decide ((gI ((tm_close s).2) 231 54) ≤ 0)))), (4, vi ((tm_close s).1)), (0, vr 12 230), (1, vi x1)]) (st1 := []) (h1 := xhp ((tm_close s).2)) 2 (fun _ _ _ _ => rfl) ?_
          exact xW.locs (L := [(0, vr 12 230), (1, vi x1), (3, vi (zb (!decide ((gI ((tm_close s).2) 231 54) ≤ 0)))), (4, vi ((tm_close s).1))]) ⟨rfl, rfl, rfl, rfl, trivial⟩ rfl g
noncomputable def tm_closing_99 : Nat → xS → Int32 → Int32 → Int32 → Int32 × xS
  | 0, s, _, _, _ => (0, s)
  | n + 1, s, x1, x3, x4 => (if x3 = 0 then (tm_closing_169 s x1 x4) else (if ¬ x4 = 0 then (tm_closing_169 s x1 x4) else (if x1 = 61 then (tm_closing_99 n ((tm_close s).2) x1 (zb (!decide ((gI ((tm_close s).2) 231 54) ≤ 0))) ((tm_close s).1)) else (if (!decide ((gI s 231 (((46 + (gI s 231 54)) - 1).toNatClampNeg)) = 0)) = false then (tm_closing_99 n ((tm_close s).2) x1 0 ((tm_close s).1)) else (tm_closing_99 n ((tm_close s).2) x1 (zb (!decide ((gI ((tm_close s).2) 231 54) ≤ 0))) ((tm_close s).1))))))
def tm_closing_99_ok : Nat → xS → Int32 → Int32 → Int32 → Prop
  | 0, _, _, _, _ => False
  | n + 1, s, x1, x3, x4 => (¬ (x3 = 0) → (x4 = 0 → ((x1 = 61 → ((tm_close_ok s) ∧ (tm_closing_99_ok n ((tm_close s).2) x1 (zb (!decide ((gI ((tm_close s).2) 231 54) ≤ 0))) ((tm_close s).1)))) ∧ (¬ (x1 = 61) → ((vp_in ((46 + (gI s 231 54)) - 1) 640) ∧ ((tm_close_ok s) ∧ (((!decide ((gI s 231 (((46 + (gI s 231 54)) - 1).toNatClampNeg)) = 0)) = false → (tm_closing_99_ok n ((tm_close s).2) x1 0 ((tm_close s).1))) ∧ ((!decide ((gI s 231 (((46 + (gI s 231 54)) - 1).toNatClampNeg)) = 0)) = true → (tm_closing_99_ok n ((tm_close s).2) x1 (zb (!decide ((gI ((tm_close s).2) 231 54) ≤ 0))) ((tm_close s).1))))))))))
set_option maxRecDepth 100000 in
theorem n67_99 {xs : Nat → Int32} {Ls : Nat} {Φ : Option xV → xH → Prop} : ∀ (n : Nat) (s : xS) (x1 : Int32) (x3 : Int32) (x4 : Int32), tm_closing_99_ok n s x1 x3 x4 → Φ (some (vi (tm_closing_99 n s x1 x3 x4).1)) (xhp (tm_closing_99 n s x1 x3 x4).2) → xW (xX0 xs Ls) p67 99 [(0, vr 12 230), (1, vi x1), (3, vi x3), (4, vi x4)] [] (xhp s) Φ := by
  intro n
  induction n with
  | zero => intro s _ _ _ gq; exact gq.elim
  | succ n ih =>
    intro s x1 x3 x4 gq h
    unfold tm_closing_99_ok at gq
    unfold tm_closing_99 at h
    exact b67_99 s x1 x3 x4 (⟨fun hc => by rw [if_pos hc] at h; exact n67_169 _ _ _ h, fun hc => by rw [if_neg hc] at h; replace gq := gq hc; exact ⟨fun hc => by rw [if_pos hc] at h; exact n67_169 _ _ _ h, fun hc => by rw [if_neg (fun z => z hc)] at h; replace gq := gq hc; exact ⟨fun hc => by rw [if_pos hc] at h; replace gq := gq.1 hc; exact ⟨gq.1, by replace gq := gq.2; exact ih _ _ _ _ gq h⟩, fun hc => by rw [if_neg hc] at h; replace gq := gq.2 hc; exact ⟨gq.1, by replace gq := gq.2; exact ⟨gq.1, by replace gq := gq.2; exact ⟨fun hc => by rw [if_pos hc] at h; replace gq := gq.1 hc; exact ih _ _ _ _ gq h, fun hc => by rw [if_neg (by rw [hc]; decide)] at h; replace gq := gq.2 hc; exact ih _ _ _ _ gq h⟩⟩⟩⟩⟩⟩)
set_option maxRecDepth 100000 in
theorem b67_80 {xs : Nat → Int32} {Ls : Nat} {Φ : Option xV → xH → Prop} (s : xS) (x1 : Int32) (g : xW (xX0 xs Ls) p67 99 [(0, vr 12 230), (1, vi x1), (3, vi (zb (!decide ((gI s 231 54) ≤ 0)))), (4, vi 0)] [] (xhp s) Φ) : xW (xX0 xs Ls) p67 80 [(0, vr 12 230), (1, vi x1)] [] (xhp s) Φ := by
  refine xW.side (c := vp_in 54 640) (pc1 := 87) (L1 := [(0, vr 12 230), (1, vi x1)]) (st1 := [vi (gI s 231 54)]) (h1 := xhp s) 4 (fun _ _ _ _ => rfl) (vp_lit rfl) ?_
  suffices J : xW (xX0 xs Ls) p67 95 [(0, vr 12 230), (1, vi x1)] [vi (zb (!decide ((gI s 231 54) ≤ 0)))] (xhp s) Φ by
    refine xW.br (c := (gI s 231 54) ≤ 0) (pc1 := 94) (L1 := [(0, vr 12 230), (1, vi x1)]) (st1 := []) (h1 := xhp s) (pc2 := 90) (L2 := [(0, vr 12 230), (1, vi x1)]) (st2 := []) (h2 := xhp s) 1 (fun _ _ _ _ => rfl) (fun hc => ?_) (fun hc => ?_)
    · have hc1 : (gI s 231 54) ≤ 0 := hc
      refine xW.seg (pc1 := 95) (L1 := [(0, vr 12 230), (1, vi x1)]) (st1 := [vi 0]) (h1 := xhp s) 1 (fun _ _ _ _ => rfl) ?_
      refine xW.to (v := vi (zb (!decide ((gI s 231 54) ≤ 0)))) (zb_f (by simp only [decide_eq_true hc1, Bool.true_or, Bool.or_true, Bool.false_or, Bool.or_false, Bool.true_and, Bool.and_true, Bool.false_and, Bool.and_false, Bool.not_true, Bool.not_false, cond_true, cond_false])) ?_
      exact J
    · have hc1 : ¬ ((gI s 231 54) ≤ 0) := hc
      refine xW.seg (pc1 := 95) (L1 := [(0, vr 12 230), (1, vi x1)]) (st1 := [vi 1]) (h1 := xhp s) 2 (fun _ _ _ _ => rfl) ?_
      refine xW.to (v := vi (zb (!decide ((gI s 231 54) ≤ 0)))) (zb_t (by simp only [decide_eq_false hc1, Bool.true_or, Bool.or_true, Bool.false_or, Bool.or_false, Bool.true_and, Bool.and_true, Bool.false_and, Bool.and_false, Bool.not_true, Bool.not_false, cond_true, cond_false])) ?_
      exact J
  refine xW.seg (pc1 := 99) (L1 := [(4, vi 0), (3, vi (zb (!decide ((gI s 231 54) ≤ 0)))), (0, vr 12 230), (1, vi x1)]) (st1 := []) (h1 := xhp s) 3 (fun _ _ _ _ => rfl) ?_
  exact xW.locs (L := [(0, vr 12 230), (1, vi x1), (3, vi (zb (!decide ((gI s 231 54) ≤ 0)))), (4, vi 0)]) ⟨rfl, rfl, rfl, rfl, trivial⟩ rfl g
noncomputable def tm_closing_80_d (s : xS) (x1 : Int32) : Int32 × xS := (tm_closing_99 xfu s x1 (zb (!decide ((gI s 231 54) ≤ 0))) 0)
noncomputable def tm_closing_80 : xS → Int32 → Int32 × xS := Classical.choose (⟨tm_closing_80_d, rfl⟩ : ∃ f, f = tm_closing_80_d)
set_option maxRecDepth 100000 in
theorem tm_closing_80_eq : tm_closing_80 = tm_closing_80_d := Classical.choose_spec (⟨tm_closing_80_d, rfl⟩ : ∃ f, f = tm_closing_80_d)
def tm_closing_80_ok (s : xS) (x1 : Int32) : Prop := (tm_closing_99_ok xfu s x1 (zb (!decide ((gI s 231 54) ≤ 0))) 0)
set_option maxRecDepth 100000 in
theorem n67_80 {xs : Nat → Int32} {Ls : Nat} {Φ : Option xV → xH → Prop} (s : xS) (x1 : Int32) (gq : tm_closing_80_ok s x1) (h : Φ (some (vi (tm_closing_80 s x1).1)) (xhp (tm_closing_80 s x1).2)) : xW (xX0 xs Ls) p67 80 [(0, vr 12 230), (1, vi x1)] [] (xhp s) Φ := by
  rw [tm_closing_80_eq] at h
  unfold tm_closing_80_d at h
  unfold tm_closing_80_ok at gq
  exact b67_80 s x1 (n67_99 _ _ _ _ _ gq h)
set_option maxRecDepth 100000 in
theorem b67_4 {xs : Nat → Int32} {Ls : Nat} {Φ : Option xV → xH → Prop} (s : xS) (x1 : Int32) (x2 : Int32) (x3 : Int32) (g : (((gI s 231 54) ≤ x3 → ((¬ x1 = 41 → ((¬ (gI s 231 55) = 1 → xW (xX0 xs Ls) p67 80 [(0, vr 12 230), (1, vi x1)] [] (xhp s) Φ) ∧ ((gI s 231 55) = 1 → Φ (some (vi 5)) (xhp s)))) ∧ (x1 = 41 → ((¬ (gI s 231 55) = 2 → Φ (some (vi 5)) (xhp s)) ∧ ((gI s 231 55) = 2 → ((¬ x2 = 0 → xW (xX0 xs Ls) p67 80 [(0, vr 12 230), (1, vi x1)] [] (xhp s) Φ) ∧ (x2 = 0 → Φ (some (vi 5)) (xhp s)))))))) ∧ (¬ ((gI s 231 54) ≤ x3) → ((¬ x2 = 0 → xW (xX0 xs Ls) p67 4 [(0, vr 12 230), (1, vi x1), (2, vi 1), (3, vi (x3 + 1))] [] (xhp s) Φ) ∧ (x2 = 0 → ((vp_in (46 + x3) 640) ∧ xW (xX0 xs Ls) p67 4 [(0, vr 12 230), (1, vi x1), (2, vi (zb (decide ((gI s 231 ((46 + x3).toNatClampNeg)) = 0)))), (3, vi (x3 + 1))] [] (xhp s) Φ)))))) : xW (xX0 xs Ls) p67 4 [(0, vr 12 230), (1, vi x1), (2, vi x2), (3, vi x3)] [] (xhp s) Φ := by
  refine xW.side (c := vp_in 54 640) (pc1 := 12) (L1 := [(0, vr 12 230), (1, vi x1), (2, vi x2), (3, vi x3)]) (st1 := [vi (gI s 231 54), vi x3]) (h1 := xhp s) 5 (fun _ _ _ _ => rfl) (vp_lit rfl) ?_
  refine xW.br (c := (gI s 231 54) ≤ x3) (pc1 := 43) (L1 := [(0, vr 12 230), (1, vi x1), (2, vi x2), (3, vi x3)]) (st1 := []) (h1 := xhp s) (pc2 := 15) (L2 := [(0, vr 12 230), (1, vi x1), (2, vi x2), (3, vi x3)]) (st2 := []) (h2 := xhp s) 1 (fun _ _ _ _ => rfl) (fun hc => ?_) (fun hc => ?_)
  · replace g := g.1 hc
    refine xW.br (c := ¬ x1 = 41) (pc1 := 67) (L1 := [(0, vr 12 230), (1, vi x1), (2, vi x2), (3, vi x3)]) (st1 := []) (h1 := xhp s) (pc2 := 49) (L2 := [(0, vr 12 230), (1, vi x1), (2, vi x2), (3, vi x3)]) (st2 := []) (h2 := xhp s) 3 (fun _ _ _ _ => rfl) (fun hc => ?_) (fun hc => ?_)
    · replace g := g.1 hc
      refine xW.side (c := vp_in 55 640) (pc1 := 74) (L1 := [(0, vr 12 230), (1, vi x1), (2, vi x2), (3, vi x3)]) (st1 := [vi (gI s 231 55)]) (h1 := xhp s) 4 (fun _ _ _ _ => rfl) (vp_lit rfl) ?_
      refine xW.br (c := ¬ (gI s 231 55) = 1) (pc1 := 80) (L1 := [(0, vr 12 230), (1, vi x1), (2, vi x2), (3, vi x3)]) (st1 := []) (h1 := xhp s) (pc2 := 78) (L2 := [(0, vr 12 230), (1, vi x1), (2, vi x2), (3, vi x3)]) (st2 := []) (h2 := xhp s) 2 (fun _ _ _ _ => rfl) (fun hc => ?_) (fun hc => ?_)
      · replace g := g.1 hc
        exact xW.locs (L := [(0, vr 12 230), (1, vi x1)]) ⟨rfl, rfl, trivial⟩ rfl g
      · replace g := g.2 (Decidable.not_not.mp hc)
        exact xW.ret (v0 := some (vi 5)) (h1 := xhp s) 2 (fun _ _ _ _ => rfl) g
    · replace g := g.2 (Decidable.not_not.mp hc)
      refine xW.side (c := vp_in 55 640) (pc1 := 56) (L1 := [(0, vr 12 230), (1, vi x1), (2, vi x2), (3, vi x3)]) (st1 := [vi (gI s 231 55)]) (h1 := xhp s) 4 (fun _ _ _ _ => rfl) (vp_lit rfl) ?_
      refine xW.br (c := ¬ (gI s 231 55) = 2) (pc1 := 78) (L1 := [(0, vr 12 230), (1, vi x1), (2, vi x2), (3, vi x3)]) (st1 := []) (h1 := xhp s) (pc2 := 60) (L2 := [(0, vr 12 230), (1, vi x1), (2, vi x2), (3, vi x3)]) (st2 := []) (h2 := xhp s) 2 (fun _ _ _ _ => rfl) (fun hc => ?_) (fun hc => ?_)
      · replace g := g.1 hc
        exact xW.ret (v0 := some (vi 5)) (h1 := xhp s) 2 (fun _ _ _ _ => rfl) g
      · replace g := g.2 (Decidable.not_not.mp hc)
        refine xW.br (c := ¬ x2 = 0) (pc1 := 80) (L1 := [(0, vr 12 230), (1, vi x1), (2, vi x2), (3, vi x3)]) (st1 := []) (h1 := xhp s) (pc2 := 64) (L2 := [(0, vr 12 230), (1, vi x1), (2, vi x2), (3, vi x3)]) (st2 := []) (h2 := xhp s) 2 (fun _ _ _ _ => rfl) (fun hc => ?_) (fun hc => ?_)
        · replace g := g.1 hc
          exact xW.locs (L := [(0, vr 12 230), (1, vi x1)]) ⟨rfl, rfl, trivial⟩ rfl g
        · replace g := g.2 (Decidable.not_not.mp hc)
          exact xW.ret (v0 := some (vi 5)) (h1 := xhp s) 3 (fun _ _ _ _ => rfl) g
  · replace g := g.2 hc
    refine xW.br (c := ¬ x2 = 0) (pc1 := 31) (L1 := [(0, vr 12 230), (1, vi x1), (2, vi x2), (3, vi x3)]) (st1 := []) (h1 := xhp s) (pc2 := 19) (L2 := [(0, vr 12 230), (1, vi x1), (2, vi x2), (3, vi x3)]) (st2 := []) (h2 := xhp s) 2 (fun _ _ _ _ => rfl) (fun hc => ?_) (fun hc => ?_)
    · replace g := g.1 hc
      refine xW.seg (pc1 := 4) (L1 := [(3, vi (x3 + 1)), (2, vi 1), (0, vr 12 230), (1, vi x1)]) (st1 := []) (h1 := xhp s) 5 (fun _ _ _ _ => rfl) ?_
      exact xW.locs (L := [(0, vr 12 230), (1, vi x1), (2, vi 1), (3, vi (x3 + 1))]) ⟨rfl, rfl, rfl, rfl, trivial⟩ rfl g
    · replace g := g.2 (Decidable.not_not.mp hc)
      refine xW.side (c := vp_in (46 + x3) 640) (pc1 := 28) (L1 := [(0, vr 12 230), (1, vi x1), (2, vi x2), (3, vi x3)]) (st1 := [vi (gI s 231 ((46 + x3).toNatClampNeg))]) (h1 := xhp s) 6 (fun _ _ _ _ => rfl) g.1 ?_
      replace g := g.2
      suffices J : xW (xX0 xs Ls) p67 36 [(0, vr 12 230), (1, vi x1), (2, vi x2), (3, vi x3)] [vi (zb (decide ((gI s 231 ((46 + x3).toNatClampNeg)) = 0)))] (xhp s) Φ by
        refine xW.br (c := ¬ (gI s 231 ((46 + x3).toNatClampNeg)) = 0) (pc1 := 35) (L1 := [(0, vr 12 230), (1, vi x1), (2, vi x2), (3, vi x3)]) (st1 := []) (h1 := xhp s) (pc2 := 31) (L2 := [(0, vr 12 230), (1, vi x1), (2, vi x2), (3, vi x3)]) (st2 := []) (h2 := xhp s) 1 (fun _ _ _ _ => rfl) (fun hc => ?_) (fun hc => ?_)
        · have hc1 : ¬ (gI s 231 ((46 + x3).toNatClampNeg)) = 0 := hc
          refine xW.seg (pc1 := 36) (L1 := [(0, vr 12 230), (1, vi x1), (2, vi x2), (3, vi x3)]) (st1 := [vi 0]) (h1 := xhp s) 1 (fun _ _ _ _ => rfl) ?_
          refine xW.to (v := vi (zb (decide ((gI s 231 ((46 + x3).toNatClampNeg)) = 0)))) (zb_f (by simp only [decide_eq_false hc1, Bool.true_or, Bool.or_true, Bool.false_or, Bool.or_false, Bool.true_and, Bool.and_true, Bool.false_and, Bool.and_false, Bool.not_true, Bool.not_false, cond_true, cond_false])) ?_
          exact J
        · have hc1 : (gI s 231 ((46 + x3).toNatClampNeg)) = 0 := (Decidable.not_not.mp hc)
          refine xW.seg (pc1 := 36) (L1 := [(0, vr 12 230), (1, vi x1), (2, vi x2), (3, vi x3)]) (st1 := [vi 1]) (h1 := xhp s) 2 (fun _ _ _ _ => rfl) ?_
          refine xW.to (v := vi (zb (decide ((gI s 231 ((46 + x3).toNatClampNeg)) = 0)))) (zb_t (by simp only [decide_eq_true hc1, Bool.true_or, Bool.or_true, Bool.false_or, Bool.or_false, Bool.true_and, Bool.and_true, Bool.false_and, Bool.and_false, Bool.not_true, Bool.not_false, cond_true, cond_false])) ?_
          exact J
      refine xW.seg (pc1 := 4) (L1 := [(3, vi (x3 + 1)), (2, vi (zb (decide ((gI s 231 ((46 + x3).toNatClampNeg)) = 0)))), (0, vr 12 230), (1, vi x1)]) (st1 := []) (h1 := xhp s) 3 (fun _ _ _ _ => rfl) ?_
      exact xW.locs (L := [(0, vr 12 230), (1, vi x1), (2, vi (zb (decide ((gI s 231 ((46 + x3).toNatClampNeg)) = 0)))), (3, vi (x3 + 1))]) ⟨rfl, rfl, rfl, rfl, trivial⟩ rfl g
noncomputable def tm_closing_4 : Nat → xS → Int32 → Int32 → Int32 → Int32 × xS
  | 0, s, _, _, _ => (0, s)
  | n + 1, s, x1, x2, x3 => (if (gI s 231 54) ≤ x3 then (if ¬ x1 = 41 then (if ¬ (gI s 231 55) = 1 then (tm_closing_80 s x1) else (5, s)) else (if ¬ (gI s 231 55) = 2 then (5, s) else (if ¬ x2 = 0 then (tm_closing_80 s x1) else (5, s)))) else (if ¬ x2 = 0 then (tm_closing_4 n s x1 1 (x3 + 1)) else (tm_closing_4 n s x1 (zb (decide ((gI s 231 ((46 + x3).toNatClampNeg)) = 0))) (x3 + 1))))
def tm_closing_4_ok : Nat → xS → Int32 → Int32 → Int32 → Prop
  | 0, _, _, _, _ => False
  | n + 1, s, x1, x2, x3 => (((gI s 231 54) ≤ x3 → ((¬ x1 = 41 → (¬ (gI s 231 55) = 1 → (tm_closing_80_ok s x1))) ∧ (x1 = 41 → ((gI s 231 55) = 2 → (¬ x2 = 0 → (tm_closing_80_ok s x1)))))) ∧ (¬ ((gI s 231 54) ≤ x3) → ((¬ x2 = 0 → (tm_closing_4_ok n s x1 1 (x3 + 1))) ∧ (x2 = 0 → ((vp_in (46 + x3) 640) ∧ (tm_closing_4_ok n s x1 (zb (decide ((gI s 231 ((46 + x3).toNatClampNeg)) = 0))) (x3 + 1)))))))
set_option maxRecDepth 100000 in
theorem n67_4 {xs : Nat → Int32} {Ls : Nat} {Φ : Option xV → xH → Prop} : ∀ (n : Nat) (s : xS) (x1 : Int32) (x2 : Int32) (x3 : Int32), tm_closing_4_ok n s x1 x2 x3 → Φ (some (vi (tm_closing_4 n s x1 x2 x3).1)) (xhp (tm_closing_4 n s x1 x2 x3).2) → xW (xX0 xs Ls) p67 4 [(0, vr 12 230), (1, vi x1), (2, vi x2), (3, vi x3)] [] (xhp s) Φ := by
  intro n
  induction n with
  | zero => intro s _ _ _ gq; exact gq.elim
  | succ n ih =>
    intro s x1 x2 x3 gq h
    unfold tm_closing_4_ok at gq
    unfold tm_closing_4 at h
    exact b67_4 s x1 x2 x3 (⟨fun hc => by rw [if_pos hc] at h; replace gq := gq.1 hc; exact ⟨fun hc => by rw [if_pos hc] at h; replace gq := gq.1 hc; exact ⟨fun hc => by rw [if_pos hc] at h; replace gq := gq hc; exact n67_80 _ _ gq h, fun hc => by rw [if_neg (fun z => z hc)] at h; exact (by (try dsimp only at h); exact h)⟩, fun hc => by rw [if_neg (fun z => z hc)] at h; replace gq := gq.2 hc; exact ⟨fun hc => by rw [if_pos hc] at h; exact (by (try dsimp only at h); exact h), fun hc => by rw [if_neg (fun z => z hc)] at h; replace gq := gq hc; exact ⟨fun hc => by rw [if_pos hc] at h; replace gq := gq hc; exact n67_80 _ _ gq h, fun hc => by rw [if_neg (fun z => z hc)] at h; exact (by (try dsimp only at h); exact h)⟩⟩⟩, fun hc => by rw [if_neg hc] at h; replace gq := gq.2 hc; exact ⟨fun hc => by rw [if_pos hc] at h; replace gq := gq.1 hc; exact ih _ _ _ _ gq h, fun hc => by rw [if_neg (fun z => z hc)] at h; replace gq := gq.2 hc; exact ⟨gq.1, by replace gq := gq.2; exact ih _ _ _ _ gq h⟩⟩⟩)
set_option maxRecDepth 100000 in
theorem b67_0 {xs : Nat → Int32} {Ls : Nat} {Φ : Option xV → xH → Prop} (s : xS) (k : Int32) (g : xW (xX0 xs Ls) p67 4 [(0, vr 12 230), (1, vi k), (2, vi 0), (3, vi 0)] [] (xhp s) Φ) : xW (xX0 xs Ls) p67 0 [(0, vr 12 230), (1, vi k)] [] (xhp s) Φ := by
  refine xW.seg (pc1 := 4) (L1 := [(3, vi 0), (2, vi 0), (0, vr 12 230), (1, vi k)]) (st1 := []) (h1 := xhp s) 4 (fun _ _ _ _ => rfl) ?_
  exact xW.locs (L := [(0, vr 12 230), (1, vi k), (2, vi 0), (3, vi 0)]) ⟨rfl, rfl, rfl, rfl, trivial⟩ rfl g
noncomputable def tm_closing_d (s : xS) (k : Int32) : Int32 × xS := (tm_closing_4 xfu s k 0 0)
noncomputable def tm_closing : xS → Int32 → Int32 × xS := Classical.choose (⟨tm_closing_d, rfl⟩ : ∃ f, f = tm_closing_d)
set_option maxRecDepth 100000 in
theorem tm_closing_eq : tm_closing = tm_closing_d := Classical.choose_spec (⟨tm_closing_d, rfl⟩ : ∃ f, f = tm_closing_d)
def tm_closing_ok (s : xS) (k : Int32) : Prop := (tm_closing_4_ok xfu s k 0 0)
set_option maxRecDepth 100000 in
theorem m67 {xs : Nat → Int32} {Ls : Nat} {Ψ : xO → xH → Prop} (s : xS) (k : Int32) (gq : tm_closing_ok s k) (h : Ψ (.inl (some (vi (tm_closing s k).1))) (xhp (tm_closing s k).2)) : xM (xX0 xs Ls) 67 [vr 12 230, vi k] (xhp s) Ψ := by
  rw [tm_closing_eq] at h
  unfold tm_closing_d at h
  unfold tm_closing_ok at gq
  exact xM.of (P := p67) rfl rfl rfl (b67_0 s k (n67_4 _ _ _ _ _ gq h))
/-! tm_formulaKey -/
theorem b66_119 {xs : Nat → Int32} {Ls : Nat} {Φ : Option xV → xH → Prop} (s : xS) (x2 : Int32) (g : Φ (some (vi (if x2 ≤ 0 then (6 : Int32) else x2))) (xhp s)) : xW (xX0 xs Ls) p66 119 [(2, vi x2)] [] (xhp s) Φ := by
  refine xW.seg (pc1 := 120) (L1 := [(2, vi x2)]) (st1 := [vi x2]) (h1 := xhp s) 1 (fun _ _ _ _ => rfl) ?_
  suffices J : xW (xX0 xs Ls) p66 129 [(2, vi x2)] [vi (if x2 ≤ 0 then (6 : Int32) else x2)] (xhp s) Φ by
    refine xW.br (c := x2 ≤ 0) (pc1 := 127) (L1 := [(2, vi x2)]) (st1 := []) (h1 := xhp s) (pc2 := 123) (L2 := [(2, vi x2)]) (st2 := []) (h2 := xhp s) 1 (fun _ _ _ _ => rfl) (fun hc => ?_) (fun hc => ?_)
    · have hc1 : x2 ≤ 0 := hc
      refine xW.seg (pc1 := 129) (L1 := [(2, vi x2)]) (st1 := [vi 6]) (h1 := xhp s) 1 (fun _ _ _ _ => rfl) ?_
      refine xW.to (v := vi (if x2 ≤ 0 then (6 : Int32) else x2)) ((congrArg vi (if_pos hc1)).symm) ?_
      exact J
    · have hc1 : ¬ (x2 ≤ 0) := hc
      refine xW.seg (pc1 := 129) (L1 := [(2, vi x2)]) (st1 := [vi x2]) (h1 := xhp s) 2 (fun _ _ _ _ => rfl) ?_
      refine xW.to (v := vi (if x2 ≤ 0 then (6 : Int32) else x2)) ((congrArg vi (if_neg hc1)).symm) ?_
      exact J
  exact xW.ret (v0 := some (vi (if x2 ≤ 0 then (6 : Int32) else x2))) (h1 := xhp s) 1 (fun _ _ _ _ => rfl) g
noncomputable def tm_formulaKey_119_d (s : xS) (x2 : Int32) : Int32 × xS := ((if x2 ≤ 0 then (6 : Int32) else x2), s)
noncomputable def tm_formulaKey_119 : xS → Int32 → Int32 × xS := Classical.choose (⟨tm_formulaKey_119_d, rfl⟩ : ∃ f, f = tm_formulaKey_119_d)
set_option maxRecDepth 100000 in
theorem tm_formulaKey_119_eq : tm_formulaKey_119 = tm_formulaKey_119_d := Classical.choose_spec (⟨tm_formulaKey_119_d, rfl⟩ : ∃ f, f = tm_formulaKey_119_d)
set_option maxRecDepth 100000 in
theorem n66_119 {xs : Nat → Int32} {Ls : Nat} {Φ : Option xV → xH → Prop} (s : xS) (x2 : Int32) (h : Φ (some (vi (tm_formulaKey_119 s x2).1)) (xhp (tm_formulaKey_119 s x2).2)) : xW (xX0 xs Ls) p66 119 [(2, vi x2)] [] (xhp s) Φ := by
  rw [tm_formulaKey_119_eq] at h
  unfold tm_formulaKey_119_d at h
  exact b66_119 s x2 ((by (try dsimp only at h); exact h))
set_option maxRecDepth 100000 in
theorem b66_103 {xs : Nat → Int32} {Ls : Nat} {Φ : Option xV → xH → Prop} (s : xS) (x1 : Int32) (x2 : Int32) (g : ((0 < x2 → xW (xX0 xs Ls) p66 119 [(2, vi x2)] [] (xhp s) Φ) ∧ (¬ (0 < x2) → ((¬ (gI s 231 54) = 8 → ((vp_in (46 + (gI s 231 54)) 640) ∧ ((tm_move_ok (sI s 231 ((46 + (gI s 231 54)).toNatClampNeg) (if x1 = 40 then (0 : Int32) else x1)) 10 (15 + (gI (sI s 231 ((46 + (gI s 231 54)).toNatClampNeg) (if x1 = 40 then (0 : Int32) else x1)) 231 54))) ∧ Φ (some (vi 0)) (xhp (sI (sI (tm_move (sI s 231 ((46 + (gI s 231 54)).toNatClampNeg) (if x1 = 40 then (0 : Int32) else x1)) 10 (15 + (gI (sI s 231 ((46 + (gI s 231 54)).toNatClampNeg) (if x1 = 40 then (0 : Int32) else x1)) 231 54))) 231 54 ((gI (tm_move (sI s 231 ((46 + (gI s 231 54)).toNatClampNeg) (if x1 = 40 then (0 : Int32) else x1)) 10 (15 + (gI (sI s 231 ((46 + (gI s 231 54)).toNatClampNeg) (if x1 = 40 then (0 : Int32) else x1)) 231 54))) 231 54) + 1)) 231 55 1))))) ∧ ((gI s 231 54) = 8 → xW (xX0 xs Ls) p66 119 [(2, vi x2)] [] (xhp s) Φ))))) : xW (xX0 xs Ls) p66 103 [(0, vr 12 230), (1, vi x1), (2, vi x2)] [] (xhp s) Φ := by
  refine xW.br (c := 0 < x2) (pc1 := 119) (L1 := [(0, vr 12 230), (1, vi x1), (2, vi x2)]) (st1 := []) (h1 := xhp s) (pc2 := 107) (L2 := [(0, vr 12 230), (1, vi x1), (2, vi x2)]) (st2 := []) (h2 := xhp s) 2 (fun _ _ _ _ => rfl) (fun hc => ?_) (fun hc => ?_)
  · replace g := g.1 hc
    exact xW.locs (L := [(2, vi x2)]) ⟨rfl, trivial⟩ rfl g
  · replace g := g.2 hc
    refine xW.side (c := vp_in 54 640) (pc1 := 114) (L1 := [(0, vr 12 230), (1, vi x1), (2, vi x2)]) (st1 := [vi (gI s 231 54)]) (h1 := xhp s) 4 (fun _ _ _ _ => rfl) (vp_lit rfl) ?_
    refine xW.br (c := ¬ (gI s 231 54) = 8) (pc1 := 130) (L1 := [(0, vr 12 230), (1, vi x1), (2, vi x2)]) (st1 := []) (h1 := xhp s) (pc2 := 119) (L2 := [(0, vr 12 230), (1, vi x1), (2, vi x2)]) (st2 := []) (h2 := xhp s) 2 (fun _ _ _ _ => rfl) (fun hc => ?_) (fun hc => ?_)
    · replace g := g.1 hc
      refine xW.side (c := vp_in 54 640) (pc1 := 143) (L1 := [(0, vr 12 230), (1, vi x1), (2, vi x2)]) (st1 := [vi (gI s 231 54), vi 46, vr 40 231]) (h1 := xhp s) 7 (fun _ _ _ _ => rfl) (vp_lit rfl) ?_
      refine xW.seg (pc1 := 147) (L1 := [(0, vr 12 230), (1, vi x1), (2, vi x2)]) (st1 := [vi 40, vi x1, vi (46 + (gI s 231 54)), vr 40 231]) (h1 := xhp s) 3 (fun _ _ _ _ => rfl) ?_
      suffices J : xW (xX0 xs Ls) p66 155 [(0, vr 12 230), (1, vi x1), (2, vi x2)] [vi (if x1 = 40 then (0 : Int32) else x1), vi (46 + (gI s 231 54)), vr 40 231] (xhp s) Φ by
        refine xW.br (c := ¬ x1 = 40) (pc1 := 154) (L1 := [(0, vr 12 230), (1, vi x1), (2, vi x2)]) (st1 := [vi (46 + (gI s 231 54)), vr 40 231]) (h1 := xhp s) (pc2 := 150) (L2 := [(0, vr 12 230), (1, vi x1), (2, vi x2)]) (st2 := [vi (46 + (gI s 231 54)), vr 40 231]) (h2 := xhp s) 1 (fun _ _ _ _ => rfl) (fun hc => ?_) (fun hc => ?_)
        · have hc1 : ¬ x1 = 40 := hc
          refine xW.seg (pc1 := 155) (L1 := [(0, vr 12 230), (1, vi x1), (2, vi x2)]) (st1 := [vi x1, vi (46 + (gI s 231 54)), vr 40 231]) (h1 := xhp s) 1 (fun _ _ _ _ => rfl) ?_
          refine xW.to (v := vi (if x1 = 40 then (0 : Int32) else x1)) ((congrArg vi (if_neg hc1)).symm) ?_
          exact J
        · have hc1 : x1 = 40 := (Decidable.not_not.mp hc)
          refine xW.seg (pc1 := 155) (L1 := [(0, vr 12 230), (1, vi x1), (2, vi x2)]) (st1 := [vi 0, vi (46 + (gI s 231 54)), vr 40 231]) (h1 := xhp s) 2 (fun _ _ _ _ => rfl) ?_
          refine xW.to (v := vi (if x1 = 40 then (0 : Int32) else x1)) ((congrArg vi (if_pos hc1)).symm) ?_
          exact J
      refine xW.side (c := vp_in (46 + (gI s 231 54)) 640) (pc1 := 156) (L1 := [(0, vr 12 230), (1, vi x1), (2, vi x2)]) (st1 := []) (h1 := xhp (sI s 231 ((46 + (gI s 231 54)).toNatClampNeg) (if x1 = 40 then (0 : Int32) else x1))) 1 (fun _ _ _ _ => rfl) g.1 ?_
      replace g := g.2
      refine xW.side (c := vp_in 54 640) (pc1 := 168) (L1 := [(0, vr 12 230), (1, vi x1), (2, vi x2)]) (st1 := [vi (gI (sI s 231 ((46 + (gI s 231 54)).toNatClampNeg) (if x1 = 40 then (0 : Int32) else x1)) 231 54), vi 15, vi 10, vr 12 230]) (h1 := xhp (sI s 231 ((46 + (gI s 231 54)).toNatClampNeg) (if x1 = 40 then (0 : Int32) else x1))) 7 (fun _ _ _ _ => rfl) (vp_lit rfl) ?_
      refine xW.call (y := 33) (as := [vr 12 230, vi 10, vi (15 + (gI (sI s 231 ((46 + (gI s 231 54)).toNatClampNeg) (if x1 = 40 then (0 : Int32) else x1)) 231 54))]) (h0 := xhp (sI s 231 ((46 + (gI s 231 54)).toNatClampNeg) (if x1 = 40 then (0 : Int32) else x1))) (pc0 := 169) (len := 3) (L0 := [(0, vr 12 230), (1, vi x1), (2, vi x2)]) (rest := []) 2 (fun _ _ _ _ => rfl) (m33 _ _ _ g.1 ?_)
      show xW (xX0 xs Ls) p66 172 [(0, vr 12 230), (1, vi x1), (2, vi x2)] [] (xhp (tm_move (sI s 231 ((46 + (gI s 231 54)).toNatClampNeg) (if x1 = 40 then (0 : Int32) else x1)) 10 (15 + (gI (sI s 231 ((46 + (gI s 231 54)).toNatClampNeg) (if x1 = 40 then (0 : Int32) else x1)) 231 54)))) Φ
      replace g := g.2
      refine xW.side (c := vp_in 54 640) (pc1 := 180) (L1 := [(0, vr 12 230), (1, vi x1), (2, vi x2)]) (st1 := [vi (gI (tm_move (sI s 231 ((46 + (gI s 231 54)).toNatClampNeg) (if x1 = 40 then (0 : Int32) else x1)) 10 (15 + (gI (sI s 231 ((46 + (gI s 231 54)).toNatClampNeg) (if x1 = 40 then (0 : Int32) else x1)) 231 54))) 231 54), vi 54, vr 40 231]) (h1 := xhp (tm_move (sI s 231 ((46 + (gI s 231 54)).toNatClampNeg) (if x1 = 40 then (0 : Int32) else x1)) 10 (15 + (gI (sI s 231 ((46 + (gI s 231 54)).toNatClampNeg) (if x1 = 40 then (0 : Int32) else x1)) 231 54)))) 5 (fun _ _ _ _ => rfl) (vp_lit rfl) ?_
      refine xW.side (c := vp_in 54 640) (pc1 := 183) (L1 := [(0, vr 12 230), (1, vi x1), (2, vi x2)]) (st1 := []) (h1 := xhp (sI (tm_move (sI s 231 ((46 + (gI s 231 54)).toNatClampNeg) (if x1 = 40 then (0 : Int32) else x1)) 10 (15 + (gI (sI s 231 ((46 + (gI s 231 54)).toNatClampNeg) (if x1 = 40 then (0 : Int32) else x1)) 231 54))) 231 54 ((gI (tm_move (sI s 231 ((46 + (gI s 231 54)).toNatClampNeg) (if x1 = 40 then (0 : Int32) else x1)) 10 (15 + (gI (sI s 231 ((46 + (gI s 231 54)).toNatClampNeg) (if x1 = 40 then (0 : Int32) else x1)) 231 54))) 231 54) + 1))) 3 (fun _ _ _ _ => rfl) (vp_lit rfl) ?_
      refine xW.side (c := vp_in 55 640) (pc1 := 191) (L1 := [(0, vr 12 230), (1, vi x1), (2, vi x2)]) (st1 := []) (h1 := xhp (sI (sI (tm_move (sI s 231 ((46 + (gI s 231 54)).toNatClampNeg) (if x1 = 40 then (0 : Int32) else x1)) 10 (15 + (gI (sI s 231 ((46 + (gI s 231 54)).toNatClampNeg) (if x1 = 40 then (0 : Int32) else x1)) 231 54))) 231 54 ((gI (tm_move (sI s 231 ((46 + (gI s 231 54)).toNatClampNeg) (if x1 = 40 then (0 : Int32) else x1)) 10 (15 + (gI (sI s 231 ((46 + (gI s 231 54)).toNatClampNeg) (if x1 = 40 then (0 : Int32) else x1)) 231 54))) 231 54) + 1)) 231 55 1)) 5 (fun _ _ _ _ => rfl) (vp_lit rfl) ?_
      exact xW.ret (v0 := some (vi 0)) (h1 := xhp (sI (sI (tm_move (sI s 231 ((46 + (gI s 231 54)).toNatClampNeg) (if x1 = 40 then (0 : Int32) else x1)) 10 (15 + (gI (sI s 231 ((46 + (gI s 231 54)).toNatClampNeg) (if x1 = 40 then (0 : Int32) else x1)) 231 54))) 231 54 ((gI (tm_move (sI s 231 ((46 + (gI s 231 54)).toNatClampNeg) (if x1 = 40 then (0 : Int32) else x1)) 10 (15 + (gI (sI s 231 ((46 + (gI s 231 54)).toNatClampNeg) (if x1 = 40 then (0 : Int32) else x1)) 231 54))) 231 54) + 1)) 231 55 1)) 2 (fun _ _ _ _ => rfl) g
    · replace g := g.2 (Decidable.not_not.mp hc)
      exact xW.locs (L := [(2, vi x2)]) ⟨rfl, trivial⟩ rfl g
noncomputable def tm_formulaKey_103_d (s : xS) (x1 : Int32) (x2 : Int32) : Int32 × xS := (if 0 < x2 then (tm_formulaKey_119 s x2) else (if ¬ (gI s 231 54) = 8 then (0, (sI (sI (tm_move (sI s 231 ((46 + (gI s 231 54)).toNatClampNeg) (if x1 = 40 then (0 : Int32) else x1)) 10 (15 + (gI (sI s 231 ((46 + (gI s 231 54)).toNatClampNeg) (if x1 = 40 then (0 : Int32) else x1)) 231 54))) 231 54 ((gI (tm_move (sI s 231 ((46 + (gI s 231 54)).toNatClampNeg) (if x1 = 40 then (0 : Int32) else x1)) 10 (15 + (gI (sI s 231 ((46 + (gI s 231 54)).toNatClampNeg) (if x1 = 40 then (0 : Int32) else x1)) 231 54))) 231 54) + 1)) 231 55 1)) else (tm_formulaKey_119 s x2)))
noncomputable def tm_formulaKey_103 : xS → Int32 → Int32 → Int32 × xS := Classical.choose (⟨tm_formulaKey_103_d, rfl⟩ : ∃ f, f = tm_formulaKey_103_d)
set_option maxRecDepth 100000 in
theorem tm_formulaKey_103_eq : tm_formulaKey_103 = tm_formulaKey_103_d := Classical.choose_spec (⟨tm_formulaKey_103_d, rfl⟩ : ∃ f, f = tm_formulaKey_103_d)
def tm_formulaKey_103_ok (s : xS) (x1 : Int32) (x2 : Int32) : Prop := (¬ (0 < x2) → (¬ (gI s 231 54) = 8 → ((vp_in (46 + (gI s 231 54)) 640) ∧ (tm_move_ok (sI s 231 ((46 + (gI s 231 54)).toNatClampNeg) (if x1 = 40 then (0 : Int32) else x1)) 10 (15 + (gI (sI s 231 ((46 + (gI s 231 54)).toNatClampNeg) (if x1 = 40 then (0 : Int32) else x1)) 231 54))))))
set_option maxRecDepth 100000 in
theorem n66_103 {xs : Nat → Int32} {Ls : Nat} {Φ : Option xV → xH → Prop} (s : xS) (x1 : Int32) (x2 : Int32) (gq : tm_formulaKey_103_ok s x1 x2) (h : Φ (some (vi (tm_formulaKey_103 s x1 x2).1)) (xhp (tm_formulaKey_103 s x1 x2).2)) : xW (xX0 xs Ls) p66 103 [(0, vr 12 230), (1, vi x1), (2, vi x2)] [] (xhp s) Φ := by
  rw [tm_formulaKey_103_eq] at h
  unfold tm_formulaKey_103_d at h
  unfold tm_formulaKey_103_ok at gq
  exact b66_103 s x1 x2 (⟨fun hc => by rw [if_pos hc] at h; exact n66_119 _ _ h, fun hc => by rw [if_neg hc] at h; replace gq := gq hc; exact ⟨fun hc => by rw [if_pos hc] at h; replace gq := gq hc; exact ⟨gq.1, by replace gq := gq.2; exact ⟨gq, (by (try dsimp only at h); exact h)⟩⟩, fun hc => by rw [if_neg (fun z => z hc)] at h; exact n66_119 _ _ h⟩⟩)
set_option maxRecDepth 100000 in
theorem b66_48 {xs : Nat → Int32} {Ls : Nat} {Φ : Option xV → xH → Prop} (s : xS) (x1 : Int32) (x2 : Int32) (g : ((x1 = 40 → xW (xX0 xs Ls) p66 103 [(0, vr 12 230), (1, vi x1), (2, vi x2)] [] (xhp s) Φ) ∧ (¬ (x1 = 40) → ((¬ x2 = 0 → xW (xX0 xs Ls) p66 103 [(0, vr 12 230), (1, vi x1), (2, vi x2)] [] (xhp s) Φ) ∧ (x2 = 0 → (((gI s 231 54) ≤ 0 → xW (xX0 xs Ls) p66 103 [(0, vr 12 230), (1, vi x1), (2, vi x2)] [] (xhp s) Φ) ∧ (¬ ((gI s 231 54) ≤ 0) → ((vp_in ((46 + (gI s 231 54)) - 1) 640) ∧ (((tm_tightness (gI s 231 (((46 + (gI s 231 54)) - 1).toNatClampNeg))) < (tm_tightness x1) → xW (xX0 xs Ls) p66 103 [(0, vr 12 230), (1, vi x1), (2, vi x2)] [] (xhp s) Φ) ∧ (¬ ((tm_tightness (gI s 231 (((46 + (gI s 231 54)) - 1).toNatClampNeg))) < (tm_tightness x1)) → ((tm_close_ok s) ∧ xW (xX0 xs Ls) p66 48 [(0, vr 12 230), (1, vi x1), (2, vi ((tm_close s).1))] [] (xhp ((tm_close s).2)) Φ))))))))))) : xW (xX0 xs Ls) p66 48 [(0, vr 12 230), (1, vi x1), (2, vi x2)] [] (xhp s) Φ := by
  refine xW.br (c := x1 = 40) (pc1 := 103) (L1 := [(0, vr 12 230), (1, vi x1), (2, vi x2)]) (st1 := []) (h1 := xhp s) (pc2 := 54) (L2 := [(0, vr 12 230), (1, vi x1), (2, vi x2)]) (st2 := []) (h2 := xhp s) 3 (fun _ _ _ _ => rfl) (fun hc => ?_) (fun hc => ?_)
  · replace g := g.1 hc
    exact g
  · replace g := g.2 hc
    refine xW.br (c := ¬ x2 = 0) (pc1 := 103) (L1 := [(0, vr 12 230), (1, vi x1), (2, vi x2)]) (st1 := []) (h1 := xhp s) (pc2 := 58) (L2 := [(0, vr 12 230), (1, vi x1), (2, vi x2)]) (st2 := []) (h2 := xhp s) 2 (fun _ _ _ _ => rfl) (fun hc => ?_) (fun hc => ?_)
    · replace g := g.1 hc
      exact g
    · replace g := g.2 (Decidable.not_not.mp hc)
      refine xW.side (c := vp_in 54 640) (pc1 := 65) (L1 := [(0, vr 12 230), (1, vi x1), (2, vi x2)]) (st1 := [vi (gI s 231 54)]) (h1 := xhp s) 4 (fun _ _ _ _ => rfl) (vp_lit rfl) ?_
      refine xW.br (c := (gI s 231 54) ≤ 0) (pc1 := 103) (L1 := [(0, vr 12 230), (1, vi x1), (2, vi x2)]) (st1 := []) (h1 := xhp s) (pc2 := 68) (L2 := [(0, vr 12 230), (1, vi x1), (2, vi x2)]) (st2 := []) (h2 := xhp s) 1 (fun _ _ _ _ => rfl) (fun hc => ?_) (fun hc => ?_)
      · replace g := g.1 hc
        exact g
      · replace g := g.2 hc
        refine xW.side (c := vp_in 54 640) (pc1 := 81) (L1 := [(0, vr 12 230), (1, vi x1), (2, vi x2)]) (st1 := [vi (gI s 231 54), vi 46, vr 40 231]) (h1 := xhp s) 7 (fun _ _ _ _ => rfl) (vp_lit rfl) ?_
        refine xW.side (c := vp_in ((46 + (gI s 231 54)) - 1) 640) (pc1 := 85) (L1 := [(0, vr 12 230), (1, vi x1), (2, vi x2)]) (st1 := [vi (gI s 231 (((46 + (gI s 231 54)) - 1).toNatClampNeg))]) (h1 := xhp s) 4 (fun _ _ _ _ => rfl) g.1 ?_
        replace g := g.2
        refine xW.call (y := 65) (as := [vi (gI s 231 (((46 + (gI s 231 54)) - 1).toNatClampNeg))]) (h0 := xhp s) (pc0 := 85) (len := 3) (L0 := [(0, vr 12 230), (1, vi x1), (2, vi x2)]) (rest := []) 1 (fun _ _ _ _ => rfl) (m65 _ _ ?_)
        show xW (xX0 xs Ls) p66 88 [(0, vr 12 230), (1, vi x1), (2, vi x2)] [vi (tm_tightness (gI s 231 (((46 + (gI s 231 54)) - 1).toNatClampNeg)))] (xhp s) Φ
        refine xW.call (y := 65) (as := [vi x1]) (h0 := xhp s) (pc0 := 89) (len := 3) (L0 := [(0, vr 12 230), (1, vi x1), (2, vi x2)]) (rest := [vi (tm_tightness (gI s 231 (((46 + (gI s 231 54)) - 1).toNatClampNeg)))]) 2 (fun _ _ _ _ => rfl) (m65 _ _ ?_)
        show xW (xX0 xs Ls) p66 92 [(0, vr 12 230), (1, vi x1), (2, vi x2)] [vi (tm_tightness x1), vi (tm_tightness (gI s 231 (((46 + (gI s 231 54)) - 1).toNatClampNeg)))] (xhp s) Φ
        refine xW.br (c := (tm_tightness (gI s 231 (((46 + (gI s 231 54)) - 1).toNatClampNeg))) < (tm_tightness x1)) (pc1 := 103) (L1 := [(0, vr 12 230), (1, vi x1), (2, vi x2)]) (st1 := []) (h1 := xhp s) (pc2 := 95) (L2 := [(0, vr 12 230), (1, vi x1), (2, vi x2)]) (st2 := []) (h2 := xhp s) 1 (fun _ _ _ _ => rfl) (fun hc => ?_) (fun hc => ?_)
        · replace g := g.1 hc
          exact g
        · replace g := g.2 hc
          refine xW.call (y := 64) (as := [vr 12 230]) (h0 := xhp s) (pc0 := 96) (len := 3) (L0 := [(0, vr 12 230), (1, vi x1), (2, vi x2)]) (rest := []) 2 (fun _ _ _ _ => rfl) (m64 _ g.1 ?_)
          show xW (xX0 xs Ls) p66 99 [(0, vr 12 230), (1, vi x1), (2, vi x2)] [vi ((tm_close s).1)] (xhp ((tm_close s).2)) Φ
          replace g := g.2
          refine xW.seg (pc1 := 48) (L1 := [(2, vi ((tm_close s).1)), (0, vr 12 230), (1, vi x1)]) (st1 := []) (h1 := xhp ((tm_close s).2)) 2 (fun _ _ _ _ => rfl) ?_
          exact xW.locs (L := [(0, vr 12 230), (1, vi x1), (2, vi ((tm_close s).1))]) ⟨rfl, rfl, rfl, trivial⟩ rfl g
noncomputable def tm_formulaKey_48 : Nat → xS → Int32 → Int32 → Int32 × xS
  | 0, s, _, _ => (0, s)
  | n + 1, s, x1, x2 => (if x1 = 40 then (tm_formulaKey_103 s x1 x2) else (if ¬ x2 = 0 then (tm_formulaKey_103 s x1 x2) else (if (gI s 231 54) ≤ 0 then (tm_formulaKey_103 s x1 x2) else (if (tm_tightness (gI s 231 (((46 + (gI s 231 54)) - 1).toNatClampNeg))) < (tm_tightness x1) then (tm_formulaKey_103 s x1 x2) else (tm_formulaKey_48 n ((tm_close s).2) x1 ((tm_close s).1))))))
def tm_formulaKey_48_ok : Nat → xS → Int32 → Int32 → Prop
  | 0, _, _, _ => False
  | n + 1, s, x1, x2 => ((x1 = 40 → (tm_formulaKey_103_ok s x1 x2)) ∧ (¬ (x1 = 40) → ((¬ x2 = 0 → (tm_formulaKey_103_ok s x1 x2)) ∧ (x2 = 0 → (((gI s 231 54) ≤ 0 → (tm_formulaKey_103_ok s x1 x2)) ∧ (¬ ((gI s 231 54) ≤ 0) → ((vp_in ((46 + (gI s 231 54)) - 1) 640) ∧ (((tm_tightness (gI s 231 (((46 + (gI s 231 54)) - 1).toNatClampNeg))) < (tm_tightness x1) → (tm_formulaKey_103_ok s x1 x2)) ∧ (¬ ((tm_tightness (gI s 231 (((46 + (gI s 231 54)) - 1).toNatClampNeg))) < (tm_tightness x1)) → ((tm_close_ok s) ∧ (tm_formulaKey_48_ok n ((tm_close s).2) x1 ((tm_close s).1))))))))))))
set_option maxRecDepth 100000 in
theorem n66_48 {xs : Nat → Int32} {Ls : Nat} {Φ : Option xV → xH → Prop} : ∀ (n : Nat) (s : xS) (x1 : Int32) (x2 : Int32), tm_formulaKey_48_ok n s x1 x2 → Φ (some (vi (tm_formulaKey_48 n s x1 x2).1)) (xhp (tm_formulaKey_48 n s x1 x2).2) → xW (xX0 xs Ls) p66 48 [(0, vr 12 230), (1, vi x1), (2, vi x2)] [] (xhp s) Φ := by
  intro n
  induction n with
  | zero => intro s _ _ gq; exact gq.elim
  | succ n ih =>
    intro s x1 x2 gq h
    unfold tm_formulaKey_48_ok at gq
    unfold tm_formulaKey_48 at h
    exact b66_48 s x1 x2 (⟨fun hc => by rw [if_pos hc] at h; replace gq := gq.1 hc; exact n66_103 _ _ _ gq h, fun hc => by rw [if_neg hc] at h; replace gq := gq.2 hc; exact ⟨fun hc => by rw [if_pos hc] at h; replace gq := gq.1 hc; exact n66_103 _ _ _ gq h, fun hc => by rw [if_neg (fun z => z hc)] at h; replace gq := gq.2 hc; exact ⟨fun hc => by rw [if_pos hc] at h; replace gq := gq.1 hc; exact n66_103 _ _ _ gq h, fun hc => by rw [if_neg hc] at h; replace gq := gq.2 hc; exact ⟨gq.1, by replace gq := gq.2; exact ⟨fun hc => by rw [if_pos hc] at h; replace gq := gq.1 hc; exact n66_103 _ _ _ gq h, fun hc => by rw [if_neg hc] at h; replace gq := gq.2 hc; exact ⟨gq.1, by replace gq := gq.2; exact ih _ _ _ gq h⟩⟩⟩⟩⟩⟩)
set_option maxRecDepth 100000 in
theorem b66_13 {xs : Nat → Int32} {Ls : Nat} {Φ : Option xV → xH → Prop} (s : xS) (x1 : Int32) (g : ((¬ x1 = 40 → ((¬ (gI s 231 55) = 1 → xW (xX0 xs Ls) p66 48 [(0, vr 12 230), (1, vi x1), (2, vi 0)] [] (xhp s) Φ) ∧ ((gI s 231 55) = 1 → Φ (some (vi 5)) (xhp s)))) ∧ (x1 = 40 → ((¬ (gI s 231 55) = 2 → xW (xX0 xs Ls) p66 48 [(0, vr 12 230), (1, vi x1), (2, vi 0)] [] (xhp s) Φ) ∧ ((gI s 231 55) = 2 → Φ (some (vi 5)) (xhp s)))))) : xW (xX0 xs Ls) p66 13 [(0, vr 12 230), (1, vi x1)] [] (xhp s) Φ := by
  refine xW.br (c := ¬ x1 = 40) (pc1 := 33) (L1 := [(0, vr 12 230), (1, vi x1)]) (st1 := []) (h1 := xhp s) (pc2 := 19) (L2 := [(0, vr 12 230), (1, vi x1)]) (st2 := []) (h2 := xhp s) 3 (fun _ _ _ _ => rfl) (fun hc => ?_) (fun hc => ?_)
  · replace g := g.1 hc
    refine xW.side (c := vp_in 55 640) (pc1 := 40) (L1 := [(0, vr 12 230), (1, vi x1)]) (st1 := [vi (gI s 231 55)]) (h1 := xhp s) 4 (fun _ _ _ _ => rfl) (vp_lit rfl) ?_
    refine xW.br (c := ¬ (gI s 231 55) = 1) (pc1 := 46) (L1 := [(0, vr 12 230), (1, vi x1)]) (st1 := []) (h1 := xhp s) (pc2 := 44) (L2 := [(0, vr 12 230), (1, vi x1)]) (st2 := []) (h2 := xhp s) 2 (fun _ _ _ _ => rfl) (fun hc => ?_) (fun hc => ?_)
    · replace g := g.1 hc
      refine xW.seg (pc1 := 48) (L1 := [(2, vi 0), (0, vr 12 230), (1, vi x1)]) (st1 := []) (h1 := xhp s) 2 (fun _ _ _ _ => rfl) ?_
      exact xW.locs (L := [(0, vr 12 230), (1, vi x1), (2, vi 0)]) ⟨rfl, rfl, rfl, trivial⟩ rfl g
    · replace g := g.2 (Decidable.not_not.mp hc)
      exact xW.ret (v0 := some (vi 5)) (h1 := xhp s) 2 (fun _ _ _ _ => rfl) g
  · replace g := g.2 (Decidable.not_not.mp hc)
    refine xW.side (c := vp_in 55 640) (pc1 := 26) (L1 := [(0, vr 12 230), (1, vi x1)]) (st1 := [vi (gI s 231 55)]) (h1 := xhp s) 4 (fun _ _ _ _ => rfl) (vp_lit rfl) ?_
    refine xW.br (c := ¬ (gI s 231 55) = 2) (pc1 := 46) (L1 := [(0, vr 12 230), (1, vi x1)]) (st1 := []) (h1 := xhp s) (pc2 := 30) (L2 := [(0, vr 12 230), (1, vi x1)]) (st2 := []) (h2 := xhp s) 2 (fun _ _ _ _ => rfl) (fun hc => ?_) (fun hc => ?_)
    · replace g := g.1 hc
      refine xW.seg (pc1 := 48) (L1 := [(2, vi 0), (0, vr 12 230), (1, vi x1)]) (st1 := []) (h1 := xhp s) 2 (fun _ _ _ _ => rfl) ?_
      exact xW.locs (L := [(0, vr 12 230), (1, vi x1), (2, vi 0)]) ⟨rfl, rfl, rfl, trivial⟩ rfl g
    · replace g := g.2 (Decidable.not_not.mp hc)
      exact xW.ret (v0 := some (vi 5)) (h1 := xhp s) 3 (fun _ _ _ _ => rfl) g
noncomputable def tm_formulaKey_13_d (s : xS) (x1 : Int32) : Int32 × xS := (if ¬ x1 = 40 then (if ¬ (gI s 231 55) = 1 then (tm_formulaKey_48 xfu s x1 0) else (5, s)) else (if ¬ (gI s 231 55) = 2 then (tm_formulaKey_48 xfu s x1 0) else (5, s)))
noncomputable def tm_formulaKey_13 : xS → Int32 → Int32 × xS := Classical.choose (⟨tm_formulaKey_13_d, rfl⟩ : ∃ f, f = tm_formulaKey_13_d)
set_option maxRecDepth 100000 in
theorem tm_formulaKey_13_eq : tm_formulaKey_13 = tm_formulaKey_13_d := Classical.choose_spec (⟨tm_formulaKey_13_d, rfl⟩ : ∃ f, f = tm_formulaKey_13_d)
def tm_formulaKey_13_ok (s : xS) (x1 : Int32) : Prop := ((¬ x1 = 40 → (¬ (gI s 231 55) = 1 → (tm_formulaKey_48_ok xfu s x1 0))) ∧ (x1 = 40 → (¬ (gI s 231 55) = 2 → (tm_formulaKey_48_ok xfu s x1 0))))
set_option maxRecDepth 100000 in
theorem n66_13 {xs : Nat → Int32} {Ls : Nat} {Φ : Option xV → xH → Prop} (s : xS) (x1 : Int32) (gq : tm_formulaKey_13_ok s x1) (h : Φ (some (vi (tm_formulaKey_13 s x1).1)) (xhp (tm_formulaKey_13 s x1).2)) : xW (xX0 xs Ls) p66 13 [(0, vr 12 230), (1, vi x1)] [] (xhp s) Φ := by
  rw [tm_formulaKey_13_eq] at h
  unfold tm_formulaKey_13_d at h
  unfold tm_formulaKey_13_ok at gq
  exact b66_13 s x1 (⟨fun hc => by rw [if_pos hc] at h; replace gq := gq.1 hc; exact ⟨fun hc => by rw [if_pos hc] at h; replace gq := gq hc; exact n66_48 _ _ _ _ gq h, fun hc => by rw [if_neg (fun z => z hc)] at h; exact (by (try dsimp only at h); exact h)⟩, fun hc => by rw [if_neg (fun z => z hc)] at h; replace gq := gq.2 hc; exact ⟨fun hc => by rw [if_pos hc] at h; replace gq := gq hc; exact n66_48 _ _ _ _ gq h, fun hc => by rw [if_neg (fun z => z hc)] at h; exact (by (try dsimp only at h); exact h)⟩⟩)
set_option maxRecDepth 100000 in
theorem b66_207 {xs : Nat → Int32} {Ls : Nat} {Φ : Option xV → xH → Prop} (s : xS) (x1 : Int32) (g : ((tm_closing_ok s x1) ∧ Φ (some (vi ((tm_closing s x1).1))) (xhp ((tm_closing s x1).2)))) : xW (xX0 xs Ls) p66 207 [(0, vr 12 230), (1, vi x1)] [] (xhp s) Φ := by
  refine xW.call (y := 67) (as := [vr 12 230, vi x1]) (h0 := xhp s) (pc0 := 209) (len := 3) (L0 := [(0, vr 12 230), (1, vi x1)]) (rest := []) 3 (fun _ _ _ _ => rfl) (m67 _ _ g.1 ?_)
  show xW (xX0 xs Ls) p66 212 [(0, vr 12 230), (1, vi x1)] [vi ((tm_closing s x1).1)] (xhp ((tm_closing s x1).2)) Φ
  replace g := g.2
  exact xW.ret (v0 := some (vi ((tm_closing s x1).1))) (h1 := xhp ((tm_closing s x1).2)) 1 (fun _ _ _ _ => rfl) g
noncomputable def tm_formulaKey_207_d (s : xS) (x1 : Int32) : Int32 × xS := (tm_closing s x1)
noncomputable def tm_formulaKey_207 : xS → Int32 → Int32 × xS := Classical.choose (⟨tm_formulaKey_207_d, rfl⟩ : ∃ f, f = tm_formulaKey_207_d)
set_option maxRecDepth 100000 in
theorem tm_formulaKey_207_eq : tm_formulaKey_207 = tm_formulaKey_207_d := Classical.choose_spec (⟨tm_formulaKey_207_d, rfl⟩ : ∃ f, f = tm_formulaKey_207_d)
def tm_formulaKey_207_ok (s : xS) (x1 : Int32) : Prop := (tm_closing_ok s x1)
set_option maxRecDepth 100000 in
theorem n66_207 {xs : Nat → Int32} {Ls : Nat} {Φ : Option xV → xH → Prop} (s : xS) (x1 : Int32) (gq : tm_formulaKey_207_ok s x1) (h : Φ (some (vi (tm_formulaKey_207 s x1).1)) (xhp (tm_formulaKey_207 s x1).2)) : xW (xX0 xs Ls) p66 207 [(0, vr 12 230), (1, vi x1)] [] (xhp s) Φ := by
  rw [tm_formulaKey_207_eq] at h
  unfold tm_formulaKey_207_d at h
  unfold tm_formulaKey_207_ok at gq
  exact b66_207 s x1 (⟨gq, (by (try dsimp only at h); exact h)⟩)
set_option maxRecDepth 100000 in
theorem b66_0 {xs : Nat → Int32} {Ls : Nat} {Φ : Option xV → xH → Prop} (s : xS) (k : Int32) (g : (((tm_isOperation k) = true → xW (xX0 xs Ls) p66 13 [(0, vr 12 230), (1, vi k)] [] (xhp s) Φ) ∧ ((tm_isOperation k) = false → ((¬ k = 40 → ((k = 41 → xW (xX0 xs Ls) p66 207 [(0, vr 12 230), (1, vi k)] [] (xhp s) Φ) ∧ (¬ (k = 41) → ((k = 61 → xW (xX0 xs Ls) p66 207 [(0, vr 12 230), (1, vi k)] [] (xhp s) Φ) ∧ (¬ (k = 61) → Φ (some (vi 1)) (xhp s)))))) ∧ (k = 40 → xW (xX0 xs Ls) p66 13 [(0, vr 12 230), (1, vi k)] [] (xhp s) Φ))))) : xW (xX0 xs Ls) p66 0 [(0, vr 12 230), (1, vi k)] [] (xhp s) Φ := by
  refine xW.call (y := 59) (as := [vi k]) (h0 := xhp s) (pc0 := 1) (len := 3) (L0 := [(0, vr 12 230), (1, vi k)]) (rest := []) 2 (fun _ _ _ _ => rfl) (m59 _ _ ?_)
  show xW (xX0 xs Ls) p66 4 [(0, vr 12 230), (1, vi k)] [vi (zb (tm_isOperation k))] (xhp s) Φ
  refine xW.br (c := ¬ (zb (tm_isOperation k)) = 0) (pc1 := 13) (L1 := [(0, vr 12 230), (1, vi k)]) (st1 := []) (h1 := xhp s) (pc2 := 7) (L2 := [(0, vr 12 230), (1, vi k)]) (st2 := []) (h2 := xhp s) 1 (fun _ _ _ _ => rfl) (fun hc => ?_) (fun hc => ?_)
  · replace g := g.1 (zb_ne0.mp hc)
    exact g
  · replace g := g.2 (zb_eq0.mp (Decidable.not_not.mp hc))
    refine xW.br (c := ¬ k = 40) (pc1 := 193) (L1 := [(0, vr 12 230), (1, vi k)]) (st1 := []) (h1 := xhp s) (pc2 := 13) (L2 := [(0, vr 12 230), (1, vi k)]) (st2 := []) (h2 := xhp s) 3 (fun _ _ _ _ => rfl) (fun hc => ?_) (fun hc => ?_)
    · replace g := g.1 hc
      refine xW.br (c := k = 41) (pc1 := 207) (L1 := [(0, vr 12 230), (1, vi k)]) (st1 := []) (h1 := xhp s) (pc2 := 199) (L2 := [(0, vr 12 230), (1, vi k)]) (st2 := []) (h2 := xhp s) 3 (fun _ _ _ _ => rfl) (fun hc => ?_) (fun hc => ?_)
      · replace g := g.1 hc
        exact g
      · replace g := g.2 hc
        refine xW.br (c := k = 61) (pc1 := 207) (L1 := [(0, vr 12 230), (1, vi k)]) (st1 := []) (h1 := xhp s) (pc2 := 205) (L2 := [(0, vr 12 230), (1, vi k)]) (st2 := []) (h2 := xhp s) 3 (fun _ _ _ _ => rfl) (fun hc => ?_) (fun hc => ?_)
        · replace g := g.1 hc
          exact g
        · replace g := g.2 hc
          exact xW.ret (v0 := some (vi 1)) (h1 := xhp s) 2 (fun _ _ _ _ => rfl) g
    · replace g := g.2 (Decidable.not_not.mp hc)
      exact g
noncomputable def tm_formulaKey_d (s : xS) (k : Int32) : Int32 × xS := (if (tm_isOperation k) = true then (tm_formulaKey_13 s k) else (if ¬ k = 40 then (if k = 41 then (tm_formulaKey_207 s k) else (if k = 61 then (tm_formulaKey_207 s k) else (1, s))) else (tm_formulaKey_13 s k)))
noncomputable def tm_formulaKey : xS → Int32 → Int32 × xS := Classical.choose (⟨tm_formulaKey_d, rfl⟩ : ∃ f, f = tm_formulaKey_d)
set_option maxRecDepth 100000 in
theorem tm_formulaKey_eq : tm_formulaKey = tm_formulaKey_d := Classical.choose_spec (⟨tm_formulaKey_d, rfl⟩ : ∃ f, f = tm_formulaKey_d)
def tm_formulaKey_ok (s : xS) (k : Int32) : Prop := (((tm_isOperation k) = true → (tm_formulaKey_13_ok s k)) ∧ ((tm_isOperation k) = false → ((¬ k = 40 → ((k = 41 → (tm_formulaKey_207_ok s k)) ∧ (¬ (k = 41) → (k = 61 → (tm_formulaKey_207_ok s k))))) ∧ (k = 40 → (tm_formulaKey_13_ok s k)))))
set_option maxRecDepth 100000 in
theorem m66 {xs : Nat → Int32} {Ls : Nat} {Ψ : xO → xH → Prop} (s : xS) (k : Int32) (gq : tm_formulaKey_ok s k) (h : Ψ (.inl (some (vi (tm_formulaKey s k).1))) (xhp (tm_formulaKey s k).2)) : xM (xX0 xs Ls) 66 [vr 12 230, vi k] (xhp s) Ψ := by
  rw [tm_formulaKey_eq] at h
  unfold tm_formulaKey_d at h
  unfold tm_formulaKey_ok at gq
  exact xM.of (P := p66) rfl rfl rfl (b66_0 s k (⟨fun hc => by rw [if_pos hc] at h; replace gq := gq.1 hc; exact n66_13 _ _ gq h, fun hc => by rw [if_neg (by rw [hc]; decide)] at h; replace gq := gq.2 hc; exact ⟨fun hc => by rw [if_pos hc] at h; replace gq := gq.1 hc; exact ⟨fun hc => by rw [if_pos hc] at h; replace gq := gq.1 hc; exact n66_207 _ _ gq h, fun hc => by rw [if_neg hc] at h; replace gq := gq.2 hc; exact ⟨fun hc => by rw [if_pos hc] at h; replace gq := gq hc; exact n66_207 _ _ gq h, fun hc => by rw [if_neg hc] at h; exact (by (try dsimp only at h); exact h)⟩⟩, fun hc => by rw [if_neg (fun z => z hc)] at h; replace gq := gq.2 hc; exact n66_13 _ _ gq h⟩⟩))
/-! tm_key -/
theorem b61_36 {xs : Nat → Int32} {Ls : Nat} {Φ : Option xV → xH → Prop} (s : xS) (x1 : Int32) (g : (((tm_isCommon x1) = false → ((¬ (gI (tm_end s) 230 4) = 0 → ((tm_formulaKey_ok (tm_end s) x1) ∧ Φ (some (vi ((tm_formulaKey (tm_end s) x1).1))) (xhp ((tm_formulaKey (tm_end s) x1).2)))) ∧ ((gI (tm_end s) 230 4) = 0 → ((tm_stackKey_ok (tm_end s) x1) ∧ Φ (some (vi ((tm_stackKey (tm_end s) x1).1))) (xhp ((tm_stackKey (tm_end s) x1).2)))))) ∧ ((tm_isCommon x1) = true → ((tm_common_ok (tm_end s) x1) ∧ Φ (some (vi ((tm_common (tm_end s) x1).1))) (xhp ((tm_common (tm_end s) x1).2)))))) : xW (xX0 xs Ls) p61 36 [(0, vr 12 230), (1, vi x1)] [] (xhp s) Φ := by
  refine xW.call (y := 54) (as := [vr 12 230]) (h0 := xhp s) (pc0 := 37) (len := 3) (L0 := [(0, vr 12 230), (1, vi x1)]) (rest := []) 2 (fun _ _ _ _ => rfl) (m54 _ ?_)
  show xW (xX0 xs Ls) p61 40 [(0, vr 12 230), (1, vi x1)] [] (xhp (tm_end s)) Φ
  refine xW.call (y := 60) (as := [vi x1]) (h0 := xhp (tm_end s)) (pc0 := 41) (len := 3) (L0 := [(0, vr 12 230), (1, vi x1)]) (rest := []) 2 (fun _ _ _ _ => rfl) (m60 _ _ ?_)
  show xW (xX0 xs Ls) p61 44 [(0, vr 12 230), (1, vi x1)] [vi (zb (tm_isCommon x1))] (xhp (tm_end s)) Φ
  refine xW.br (c := (zb (tm_isCommon x1)) = 0) (pc1 := 53) (L1 := [(0, vr 12 230), (1, vi x1)]) (st1 := []) (h1 := xhp (tm_end s)) (pc2 := 47) (L2 := [(0, vr 12 230), (1, vi x1)]) (st2 := []) (h2 := xhp (tm_end s)) 1 (fun _ _ _ _ => rfl) (fun hc => ?_) (fun hc => ?_)
  · replace g := g.1 (zb_eq0.mp hc)
    refine xW.br (c := ¬ (gI (tm_end s) 230 4) = 0) (pc1 := 68) (L1 := [(0, vr 12 230), (1, vi x1)]) (st1 := []) (h1 := xhp (tm_end s)) (pc2 := 60) (L2 := [(0, vr 12 230), (1, vi x1)]) (st2 := []) (h2 := xhp (tm_end s)) 3 (fun _ _ _ _ => rfl) (fun hc => ?_) (fun hc => ?_)
    · replace g := g.1 hc
      refine xW.call (y := 66) (as := [vr 12 230, vi x1]) (h0 := xhp (tm_end s)) (pc0 := 70) (len := 3) (L0 := [(0, vr 12 230), (1, vi x1)]) (rest := []) 3 (fun _ _ _ _ => rfl) (m66 _ _ g.1 ?_)
      show xW (xX0 xs Ls) p61 73 [(0, vr 12 230), (1, vi x1)] [vi ((tm_formulaKey (tm_end s) x1).1)] (xhp ((tm_formulaKey (tm_end s) x1).2)) Φ
      replace g := g.2
      exact xW.ret (v0 := some (vi ((tm_formulaKey (tm_end s) x1).1))) (h1 := xhp ((tm_formulaKey (tm_end s) x1).2)) 1 (fun _ _ _ _ => rfl) g
    · replace g := g.2 (Decidable.not_not.mp hc)
      refine xW.call (y := 63) (as := [vr 12 230, vi x1]) (h0 := xhp (tm_end s)) (pc0 := 62) (len := 3) (L0 := [(0, vr 12 230), (1, vi x1)]) (rest := []) 3 (fun _ _ _ _ => rfl) (m63 _ _ g.1 ?_)
      show xW (xX0 xs Ls) p61 65 [(0, vr 12 230), (1, vi x1)] [vi ((tm_stackKey (tm_end s) x1).1)] (xhp ((tm_stackKey (tm_end s) x1).2)) Φ
      replace g := g.2
      exact xW.ret (v0 := some (vi ((tm_stackKey (tm_end s) x1).1))) (h1 := xhp ((tm_stackKey (tm_end s) x1).2)) 2 (fun _ _ _ _ => rfl) g
  · replace g := g.2 (zb_ne0.mp hc)
    refine xW.call (y := 62) (as := [vr 12 230, vi x1]) (h0 := xhp (tm_end s)) (pc0 := 49) (len := 3) (L0 := [(0, vr 12 230), (1, vi x1)]) (rest := []) 3 (fun _ _ _ _ => rfl) (m62 _ _ g.1 ?_)
    show xW (xX0 xs Ls) p61 52 [(0, vr 12 230), (1, vi x1)] [vi ((tm_common (tm_end s) x1).1)] (xhp ((tm_common (tm_end s) x1).2)) Φ
    replace g := g.2
    exact xW.ret (v0 := some (vi ((tm_common (tm_end s) x1).1))) (h1 := xhp ((tm_common (tm_end s) x1).2)) 1 (fun _ _ _ _ => rfl) g
noncomputable def tm_key_36_d (s : xS) (x1 : Int32) : Int32 × xS := (if (tm_isCommon x1) = false then (if ¬ (gI (tm_end s) 230 4) = 0 then (tm_formulaKey (tm_end s) x1) else (tm_stackKey (tm_end s) x1)) else (tm_common (tm_end s) x1))
noncomputable def tm_key_36 : xS → Int32 → Int32 × xS := Classical.choose (⟨tm_key_36_d, rfl⟩ : ∃ f, f = tm_key_36_d)
set_option maxRecDepth 100000 in
theorem tm_key_36_eq : tm_key_36 = tm_key_36_d := Classical.choose_spec (⟨tm_key_36_d, rfl⟩ : ∃ f, f = tm_key_36_d)
def tm_key_36_ok (s : xS) (x1 : Int32) : Prop := (((tm_isCommon x1) = false → ((¬ (gI (tm_end s) 230 4) = 0 → (tm_formulaKey_ok (tm_end s) x1)) ∧ ((gI (tm_end s) 230 4) = 0 → (tm_stackKey_ok (tm_end s) x1)))) ∧ ((tm_isCommon x1) = true → (tm_common_ok (tm_end s) x1)))
set_option maxRecDepth 100000 in
theorem n61_36 {xs : Nat → Int32} {Ls : Nat} {Φ : Option xV → xH → Prop} (s : xS) (x1 : Int32) (gq : tm_key_36_ok s x1) (h : Φ (some (vi (tm_key_36 s x1).1)) (xhp (tm_key_36 s x1).2)) : xW (xX0 xs Ls) p61 36 [(0, vr 12 230), (1, vi x1)] [] (xhp s) Φ := by
  rw [tm_key_36_eq] at h
  unfold tm_key_36_d at h
  unfold tm_key_36_ok at gq
  exact b61_36 s x1 (⟨fun hc => by rw [if_pos hc] at h; replace gq := gq.1 hc; exact ⟨fun hc => by rw [if_pos hc] at h; replace gq := gq.1 hc; exact ⟨gq, (by (try dsimp only at h); exact h)⟩, fun hc => by rw [if_neg (fun z => z hc)] at h; replace gq := gq.2 hc; exact ⟨gq, (by (try dsimp only at h); exact h)⟩⟩, fun hc => by rw [if_neg (by rw [hc]; decide)] at h; replace gq := gq.2 hc; exact ⟨gq, (by (try dsimp only at h); exact h)⟩⟩)
set_option maxRecDepth 100000 in
theorem b61_30 {xs : Nat → Int32} {Ls : Nat} {Φ : Option xV → xH → Prop} (s : xS) (x1 : Int32) (g : ((tm_entryKey_ok s x1) ∧ Φ (some (vi ((tm_entryKey s x1).1))) (xhp ((tm_entryKey s x1).2)))) : xW (xX0 xs Ls) p61 30 [(0, vr 12 230), (1, vi x1)] [] (xhp s) Φ := by
  refine xW.call (y := 53) (as := [vr 12 230, vi x1]) (h0 := xhp s) (pc0 := 32) (len := 3) (L0 := [(0, vr 12 230), (1, vi x1)]) (rest := []) 3 (fun _ _ _ _ => rfl) (m53 _ _ g.1 ?_)
  show xW (xX0 xs Ls) p61 35 [(0, vr 12 230), (1, vi x1)] [vi ((tm_entryKey s x1).1)] (xhp ((tm_entryKey s x1).2)) Φ
  replace g := g.2
  exact xW.ret (v0 := some (vi ((tm_entryKey s x1).1))) (h1 := xhp ((tm_entryKey s x1).2)) 1 (fun _ _ _ _ => rfl) g
noncomputable def tm_key_30_d (s : xS) (x1 : Int32) : Int32 × xS := (tm_entryKey s x1)
noncomputable def tm_key_30 : xS → Int32 → Int32 × xS := Classical.choose (⟨tm_key_30_d, rfl⟩ : ∃ f, f = tm_key_30_d)
set_option maxRecDepth 100000 in
theorem tm_key_30_eq : tm_key_30 = tm_key_30_d := Classical.choose_spec (⟨tm_key_30_d, rfl⟩ : ∃ f, f = tm_key_30_d)
def tm_key_30_ok (s : xS) (x1 : Int32) : Prop := (tm_entryKey_ok s x1)
set_option maxRecDepth 100000 in
theorem n61_30 {xs : Nat → Int32} {Ls : Nat} {Φ : Option xV → xH → Prop} (s : xS) (x1 : Int32) (gq : tm_key_30_ok s x1) (h : Φ (some (vi (tm_key_30 s x1).1)) (xhp (tm_key_30 s x1).2)) : xW (xX0 xs Ls) p61 30 [(0, vr 12 230), (1, vi x1)] [] (xhp s) Φ := by
  rw [tm_key_30_eq] at h
  unfold tm_key_30_d at h
  unfold tm_key_30_ok at gq
  exact b61_30 s x1 (⟨gq, (by (try dsimp only at h); exact h)⟩)
set_option maxRecDepth 100000 in
theorem b61_0 {xs : Nat → Int32} {Ls : Nat} {Φ : Option xV → xH → Prop} (s : xS) (k : Int32) (g : (((tm_begins k) = true → xW (xX0 xs Ls) p61 30 [(0, vr 12 230), (1, vi k)] [] (xhp s) Φ) ∧ ((tm_begins k) = false → ((¬ (gI s 231 57) = 1 → xW (xX0 xs Ls) p61 36 [(0, vr 12 230), (1, vi k)] [] (xhp s) Φ) ∧ ((gI s 231 57) = 1 → ((k = 78 → xW (xX0 xs Ls) p61 30 [(0, vr 12 230), (1, vi k)] [] (xhp s) Φ) ∧ (¬ (k = 78) → ((¬ k = 66 → xW (xX0 xs Ls) p61 36 [(0, vr 12 230), (1, vi k)] [] (xhp s) Φ) ∧ (k = 66 → xW (xX0 xs Ls) p61 30 [(0, vr 12 230), (1, vi k)] [] (xhp s) Φ))))))))) : xW (xX0 xs Ls) p61 0 [(0, vr 12 230), (1, vi k)] [] (xhp s) Φ := by
  refine xW.call (y := 47) (as := [vi k]) (h0 := xhp s) (pc0 := 1) (len := 3) (L0 := [(0, vr 12 230), (1, vi k)]) (rest := []) 2 (fun _ _ _ _ => rfl) (m47 _ _ ?_)
  show xW (xX0 xs Ls) p61 4 [(0, vr 12 230), (1, vi k)] [vi (zb (tm_begins k))] (xhp s) Φ
  refine xW.br (c := ¬ (zb (tm_begins k)) = 0) (pc1 := 30) (L1 := [(0, vr 12 230), (1, vi k)]) (st1 := []) (h1 := xhp s) (pc2 := 7) (L2 := [(0, vr 12 230), (1, vi k)]) (st2 := []) (h2 := xhp s) 1 (fun _ _ _ _ => rfl) (fun hc => ?_) (fun hc => ?_)
  · replace g := g.1 (zb_ne0.mp hc)
    exact g
  · replace g := g.2 (zb_eq0.mp (Decidable.not_not.mp hc))
    refine xW.side (c := vp_in 57 640) (pc1 := 14) (L1 := [(0, vr 12 230), (1, vi k)]) (st1 := [vi (gI s 231 57)]) (h1 := xhp s) 4 (fun _ _ _ _ => rfl) (vp_lit rfl) ?_
    refine xW.br (c := ¬ (gI s 231 57) = 1) (pc1 := 36) (L1 := [(0, vr 12 230), (1, vi k)]) (st1 := []) (h1 := xhp s) (pc2 := 18) (L2 := [(0, vr 12 230), (1, vi k)]) (st2 := []) (h2 := xhp s) 2 (fun _ _ _ _ => rfl) (fun hc => ?_) (fun hc => ?_)
    · replace g := g.1 hc
      exact g
    · replace g := g.2 (Decidable.not_not.mp hc)
      refine xW.br (c := k = 78) (pc1 := 30) (L1 := [(0, vr 12 230), (1, vi k)]) (st1 := []) (h1 := xhp s) (pc2 := 24) (L2 := [(0, vr 12 230), (1, vi k)]) (st2 := []) (h2 := xhp s) 3 (fun _ _ _ _ => rfl) (fun hc => ?_) (fun hc => ?_)
      · replace g := g.1 hc
        exact g
      · replace g := g.2 hc
        refine xW.br (c := ¬ k = 66) (pc1 := 36) (L1 := [(0, vr 12 230), (1, vi k)]) (st1 := []) (h1 := xhp s) (pc2 := 30) (L2 := [(0, vr 12 230), (1, vi k)]) (st2 := []) (h2 := xhp s) 3 (fun _ _ _ _ => rfl) (fun hc => ?_) (fun hc => ?_)
        · replace g := g.1 hc
          exact g
        · replace g := g.2 (Decidable.not_not.mp hc)
          exact g
noncomputable def tm_key_d (s : xS) (k : Int32) : Int32 × xS := (if (tm_begins k) = true then (tm_key_30 s k) else (if ¬ (gI s 231 57) = 1 then (tm_key_36 s k) else (if k = 78 then (tm_key_30 s k) else (if ¬ k = 66 then (tm_key_36 s k) else (tm_key_30 s k)))))
noncomputable def tm_key : xS → Int32 → Int32 × xS := Classical.choose (⟨tm_key_d, rfl⟩ : ∃ f, f = tm_key_d)
set_option maxRecDepth 100000 in
theorem tm_key_eq : tm_key = tm_key_d := Classical.choose_spec (⟨tm_key_d, rfl⟩ : ∃ f, f = tm_key_d)
def tm_key_ok (s : xS) (k : Int32) : Prop := (((tm_begins k) = true → (tm_key_30_ok s k)) ∧ ((tm_begins k) = false → ((¬ (gI s 231 57) = 1 → (tm_key_36_ok s k)) ∧ ((gI s 231 57) = 1 → ((k = 78 → (tm_key_30_ok s k)) ∧ (¬ (k = 78) → ((¬ k = 66 → (tm_key_36_ok s k)) ∧ (k = 66 → (tm_key_30_ok s k)))))))))
set_option maxRecDepth 100000 in
theorem m61 {xs : Nat → Int32} {Ls : Nat} {Ψ : xO → xH → Prop} (s : xS) (k : Int32) (gq : tm_key_ok s k) (h : Ψ (.inl (some (vi (tm_key s k).1))) (xhp (tm_key s k).2)) : xM (xX0 xs Ls) 61 [vr 12 230, vi k] (xhp s) Ψ := by
  rw [tm_key_eq] at h
  unfold tm_key_d at h
  unfold tm_key_ok at gq
  exact xM.of (P := p61) rfl rfl rfl (b61_0 s k (⟨fun hc => by rw [if_pos hc] at h; replace gq := gq.1 hc; exact n61_30 _ _ gq h, fun hc => by rw [if_neg (by rw [hc]; decide)] at h; replace gq := gq.2 hc; exact ⟨fun hc => by rw [if_pos hc] at h; replace gq := gq.1 hc; exact n61_36 _ _ gq h, fun hc => by rw [if_neg (fun z => z hc)] at h; replace gq := gq.2 hc; exact ⟨fun hc => by rw [if_pos hc] at h; replace gq := gq.1 hc; exact n61_30 _ _ gq h, fun hc => by rw [if_neg hc] at h; replace gq := gq.2 hc; exact ⟨fun hc => by rw [if_pos hc] at h; replace gq := gq.1 hc; exact n61_36 _ _ gq h, fun hc => by rw [if_neg (fun z => z hc)] at h; replace gq := gq.2 hc; exact n61_30 _ _ gq h⟩⟩⟩⟩))
