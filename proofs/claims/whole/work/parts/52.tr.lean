/-! tr_emit -/
theorem b207_0 {xs : Nat → Int32} {Ls : Nat} {Φ : Option xV → xH → Prop} (s : xS) (k : Int32) (g : ((120 ≤ (gI s 225 1) → Φ none (xhp s)) ∧ (¬ (120 ≤ (gI s 225 1)) → ((vp_in (gI s 225 1) 120) ∧ Φ none (xhp (sI (sI s 226 ((gI s 225 1).toNatClampNeg) k) 225 1 ((gI s 225 1) + 1))))))) : xW (xX0 xs Ls) p207 0 [(0, vr 11 225), (1, vi k)] [] (xhp s) Φ := by
  refine xW.br (c := 120 ≤ (gI s 225 1)) (pc1 := 29) (L1 := [(0, vr 11 225), (1, vi k)]) (st1 := []) (h1 := xhp s) (pc2 := 9) (L2 := [(0, vr 11 225), (1, vi k)]) (st2 := []) (h2 := xhp s) 4 (fun _ _ _ _ => rfl) (fun hc => ?_) (fun hc => ?_)
  · replace g := g.1 hc
    exact xW.ret (v0 := none) (h1 := xhp s) 1 (fun _ _ _ _ => rfl) g
  · replace g := g.2 hc
    refine xW.side (c := vp_in (gI s 225 1) 120) (pc1 := 19) (L1 := [(0, vr 11 225), (1, vi k)]) (st1 := []) (h1 := xhp (sI s 226 ((gI s 225 1).toNatClampNeg) k)) 6 (fun _ _ _ _ => rfl) g.1 ?_
    replace g := g.2
    exact xW.ret (v0 := none) (h1 := xhp (sI (sI s 226 ((gI s 225 1).toNatClampNeg) k) 225 1 ((gI s 225 1) + 1))) 7 (fun _ _ _ _ => rfl) g
noncomputable def tr_emit_d (s : xS) (k : Int32) : xS := (if 120 ≤ (gI s 225 1) then s else (sI (sI s 226 ((gI s 225 1).toNatClampNeg) k) 225 1 ((gI s 225 1) + 1)))
noncomputable def tr_emit : xS → Int32 → xS := Classical.choose (⟨tr_emit_d, rfl⟩ : ∃ f, f = tr_emit_d)
set_option maxRecDepth 100000 in
theorem tr_emit_eq : tr_emit = tr_emit_d := Classical.choose_spec (⟨tr_emit_d, rfl⟩ : ∃ f, f = tr_emit_d)
def tr_emit_ok (s : xS) (k : Int32) : Prop := (¬ (120 ≤ (gI s 225 1)) → (vp_in (gI s 225 1) 120))
set_option maxRecDepth 100000 in
theorem m207 {xs : Nat → Int32} {Ls : Nat} {Ψ : xO → xH → Prop} (s : xS) (k : Int32) (gq : tr_emit_ok s k) (h : Ψ (.inl none) (xhp (tr_emit s k))) : xM (xX0 xs Ls) 207 [vr 11 225, vi k] (xhp s) Ψ := by
  rw [tr_emit_eq] at h
  unfold tr_emit_d at h
  unfold tr_emit_ok at gq
  exact xM.of (P := p207) rfl rfl rfl (b207_0 s k (⟨fun hc => by rw [if_pos hc] at h; exact h, fun hc => by rw [if_neg hc] at h; replace gq := gq hc; exact ⟨gq, h⟩⟩))
/-! tr_close -/
theorem b206_10 {xs : Nat → Int32} {Ls : Nat} {Φ : Option xV → xH → Prop} (s : xS) (x1 : Int32) (x2 : Int32) (g : ((x2 < x1 → Φ none (xhp s)) ∧ (¬ (x2 < x1) → ((vp_in x2 8) ∧ (((gI s 229 x2.toNatClampNeg) = 40 → xW (xX0 xs Ls) p206 10 [(0, vr 11 225), (1, vi x1), (2, vi (x2 + (-1)))] [] (xhp s) Φ) ∧ (¬ ((gI s 229 x2.toNatClampNeg) = 40) → ((vp_in x2 8) ∧ ((tr_emit_ok s (gI s 229 x2.toNatClampNeg)) ∧ xW (xX0 xs Ls) p206 10 [(0, vr 11 225), (1, vi x1), (2, vi (x2 + (-1)))] [] (xhp (sI (tr_emit s (gI s 229 x2.toNatClampNeg)) 225 6 0)) Φ)))))))) : xW (xX0 xs Ls) p206 10 [(0, vr 11 225), (1, vi x1), (2, vi x2)] [] (xhp s) Φ := by
  refine xW.br (c := x2 < x1) (pc1 := 53) (L1 := [(0, vr 11 225), (1, vi x1), (2, vi x2)]) (st1 := []) (h1 := xhp s) (pc2 := 15) (L2 := [(0, vr 11 225), (1, vi x1), (2, vi x2)]) (st2 := []) (h2 := xhp s) 3 (fun _ _ _ _ => rfl) (fun hc => ?_) (fun hc => ?_)
  · replace g := g.1 hc
    exact xW.ret (v0 := none) (h1 := xhp s) 1 (fun _ _ _ _ => rfl) g
  · replace g := g.2 hc
    refine xW.side (c := vp_in x2 8) (pc1 := 24) (L1 := [(0, vr 11 225), (1, vi x1), (2, vi x2)]) (st1 := [vi (gI s 229 x2.toNatClampNeg)]) (h1 := xhp s) 5 (fun _ _ _ _ => rfl) g.1 ?_
    replace g := g.2
    refine xW.br (c := (gI s 229 x2.toNatClampNeg) = 40) (pc1 := 47) (L1 := [(0, vr 11 225), (1, vi x1), (2, vi x2)]) (st1 := []) (h1 := xhp s) (pc2 := 29) (L2 := [(0, vr 11 225), (1, vi x1), (2, vi x2)]) (st2 := []) (h2 := xhp s) 2 (fun _ _ _ _ => rfl) (fun hc => ?_) (fun hc => ?_)
    · replace g := g.1 hc
      refine xW.seg (pc1 := 10) (L1 := [(2, vi (x2 + (-1))), (0, vr 11 225), (1, vi x1)]) (st1 := []) (h1 := xhp s) 2 (fun _ _ _ _ => rfl) ?_
      exact xW.locs (L := [(0, vr 11 225), (1, vi x1), (2, vi (x2 + (-1)))]) ⟨rfl, rfl, rfl, trivial⟩ rfl g
    · replace g := g.2 hc
      refine xW.side (c := vp_in x2 8) (pc1 := 39) (L1 := [(0, vr 11 225), (1, vi x1), (2, vi x2)]) (st1 := [vi (gI s 229 x2.toNatClampNeg), vr 11 225]) (h1 := xhp s) 6 (fun _ _ _ _ => rfl) g.1 ?_
      replace g := g.2
      refine xW.call (y := 207) (as := [vr 11 225, vi (gI s 229 x2.toNatClampNeg)]) (h0 := xhp s) (pc0 := 39) (len := 3) (L0 := [(0, vr 11 225), (1, vi x1), (2, vi x2)]) (rest := []) 1 (fun _ _ _ _ => rfl) (m207 _ _ g.1 ?_)
      show xW (xX0 xs Ls) p206 42 [(0, vr 11 225), (1, vi x1), (2, vi x2)] [] (xhp (tr_emit s (gI s 229 x2.toNatClampNeg))) Φ
      replace g := g.2
      refine xW.side (c := (0 : Int32) = 0 ∨ (0 : Int32) = 1) (pc1 := 47) (L1 := [(0, vr 11 225), (1, vi x1), (2, vi x2)]) (st1 := []) (h1 := xhp (sI (tr_emit s (gI s 229 x2.toNatClampNeg)) 225 6 0)) 3 (fun _ _ _ _ => rfl) (Or.inl rfl) ?_
      refine xW.seg (pc1 := 10) (L1 := [(2, vi (x2 + (-1))), (0, vr 11 225), (1, vi x1)]) (st1 := []) (h1 := xhp (sI (tr_emit s (gI s 229 x2.toNatClampNeg)) 225 6 0)) 2 (fun _ _ _ _ => rfl) ?_
      exact xW.locs (L := [(0, vr 11 225), (1, vi x1), (2, vi (x2 + (-1)))]) ⟨rfl, rfl, rfl, trivial⟩ rfl g
noncomputable def tr_close_10 : Nat → xS → Int32 → Int32 → xS
  | 0, s, _, _ => s
  | n + 1, s, x1, x2 => (if x2 < x1 then s else (if (gI s 229 x2.toNatClampNeg) = 40 then (tr_close_10 n s x1 (x2 + (-1))) else (tr_close_10 n (sI (tr_emit s (gI s 229 x2.toNatClampNeg)) 225 6 0) x1 (x2 + (-1)))))
def tr_close_10_ok : Nat → xS → Int32 → Int32 → Prop
  | 0, _, _, _ => False
  | n + 1, s, x1, x2 => (¬ (x2 < x1) → ((vp_in x2 8) ∧ (((gI s 229 x2.toNatClampNeg) = 40 → (tr_close_10_ok n s x1 (x2 + (-1)))) ∧ (¬ ((gI s 229 x2.toNatClampNeg) = 40) → ((vp_in x2 8) ∧ ((tr_emit_ok s (gI s 229 x2.toNatClampNeg)) ∧ (tr_close_10_ok n (sI (tr_emit s (gI s 229 x2.toNatClampNeg)) 225 6 0) x1 (x2 + (-1)))))))))
set_option maxRecDepth 100000 in
theorem n206_10 {xs : Nat → Int32} {Ls : Nat} {Φ : Option xV → xH → Prop} : ∀ (n : Nat) (s : xS) (x1 : Int32) (x2 : Int32), tr_close_10_ok n s x1 x2 → Φ none (xhp (tr_close_10 n s x1 x2)) → xW (xX0 xs Ls) p206 10 [(0, vr 11 225), (1, vi x1), (2, vi x2)] [] (xhp s) Φ := by
  intro n
  induction n with
  | zero => intro s _ _ gq; exact gq.elim
  | succ n ih =>
    intro s x1 x2 gq h
    unfold tr_close_10_ok at gq
    unfold tr_close_10 at h
    exact b206_10 s x1 x2 (⟨fun hc => by rw [if_pos hc] at h; exact h, fun hc => by rw [if_neg hc] at h; replace gq := gq hc; exact ⟨gq.1, by replace gq := gq.2; exact ⟨fun hc => by rw [if_pos hc] at h; replace gq := gq.1 hc; exact ih _ _ _ gq h, fun hc => by rw [if_neg hc] at h; replace gq := gq.2 hc; exact ⟨gq.1, by replace gq := gq.2; exact ⟨gq.1, by replace gq := gq.2; exact ih _ _ _ gq h⟩⟩⟩⟩⟩)
set_option maxRecDepth 100000 in
theorem b206_0 {xs : Nat → Int32} {Ls : Nat} {Φ : Option xV → xH → Prop} (s : xS) (f : Int32) (g : xW (xX0 xs Ls) p206 10 [(0, vr 11 225), (1, vi f), (2, vi ((gI s 228 1) - 1))] [] (xhp s) Φ) : xW (xX0 xs Ls) p206 0 [(0, vr 11 225), (1, vi f)] [] (xhp s) Φ := by
  refine xW.seg (pc1 := 10) (L1 := [(2, vi ((gI s 228 1) - 1)), (0, vr 11 225), (1, vi f)]) (st1 := []) (h1 := xhp s) 6 (fun _ _ _ _ => rfl) ?_
  exact xW.locs (L := [(0, vr 11 225), (1, vi f), (2, vi ((gI s 228 1) - 1))]) ⟨rfl, rfl, rfl, trivial⟩ rfl g
noncomputable def tr_close_d (s : xS) (f : Int32) : xS := (tr_close_10 xfu s f ((gI s 228 1) - 1))
noncomputable def tr_close : xS → Int32 → xS := Classical.choose (⟨tr_close_d, rfl⟩ : ∃ f, f = tr_close_d)
set_option maxRecDepth 100000 in
theorem tr_close_eq : tr_close = tr_close_d := Classical.choose_spec (⟨tr_close_d, rfl⟩ : ∃ f, f = tr_close_d)
def tr_close_ok (s : xS) (f : Int32) : Prop := (tr_close_10_ok xfu s f ((gI s 228 1) - 1))
set_option maxRecDepth 100000 in
theorem m206 {xs : Nat → Int32} {Ls : Nat} {Ψ : xO → xH → Prop} (s : xS) (f : Int32) (gq : tr_close_ok s f) (h : Ψ (.inl none) (xhp (tr_close s f))) : xM (xX0 xs Ls) 206 [vr 11 225, vi f] (xhp s) Ψ := by
  rw [tr_close_eq] at h
  unfold tr_close_d at h
  unfold tr_close_ok at gq
  exact xM.of (P := p206) rfl rfl rfl (b206_0 s f (n206_10 _ _ _ _ gq h))
/-! tr_separate -/
theorem b205_0 {xs : Nat → Int32} {Ls : Nat} {Φ : Option xV → xH → Prop} (s : xS) (k : Int32) (g : (((te_beginsEntry k) = false → ((¬ k = 78 → Φ none (xhp s)) ∧ (k = 78 → ((tr_emit_ok s 87) ∧ ((tr_emit_ok (tr_emit s 87) 87) ∧ Φ none (xhp (tr_emit (tr_emit s 87) 87))))))) ∧ ((te_beginsEntry k) = true → ((tr_emit_ok s 61) ∧ Φ none (xhp (tr_emit s 61)))))) : xW (xX0 xs Ls) p205 0 [(0, vr 11 225), (1, vi k)] [] (xhp s) Φ := by
  refine xW.call (y := 24) (as := [vi k]) (h0 := xhp s) (pc0 := 1) (len := 3) (L0 := [(0, vr 11 225), (1, vi k)]) (rest := []) 2 (fun _ _ _ _ => rfl) (m24 _ _ ?_)
  show xW (xX0 xs Ls) p205 4 [(0, vr 11 225), (1, vi k)] [vi (zb (te_beginsEntry k))] (xhp s) Φ
  refine xW.br (c := (zb (te_beginsEntry k)) = 0) (pc1 := 16) (L1 := [(0, vr 11 225), (1, vi k)]) (st1 := []) (h1 := xhp s) (pc2 := 7) (L2 := [(0, vr 11 225), (1, vi k)]) (st2 := []) (h2 := xhp s) 1 (fun _ _ _ _ => rfl) (fun hc => ?_) (fun hc => ?_)
  · replace g := g.1 (zb_eq0.mp hc)
    refine xW.br (c := ¬ k = 78) (pc1 := 34) (L1 := [(0, vr 11 225), (1, vi k)]) (st1 := []) (h1 := xhp s) (pc2 := 22) (L2 := [(0, vr 11 225), (1, vi k)]) (st2 := []) (h2 := xhp s) 3 (fun _ _ _ _ => rfl) (fun hc => ?_) (fun hc => ?_)
    · replace g := g.1 hc
      exact xW.ret (v0 := none) (h1 := xhp s) 1 (fun _ _ _ _ => rfl) g
    · replace g := g.2 (Decidable.not_not.mp hc)
      refine xW.call (y := 207) (as := [vr 11 225, vi 87]) (h0 := xhp s) (pc0 := 25) (len := 3) (L0 := [(0, vr 11 225), (1, vi k)]) (rest := []) 3 (fun _ _ _ _ => rfl) (m207 _ _ g.1 ?_)
      show xW (xX0 xs Ls) p205 28 [(0, vr 11 225), (1, vi k)] [] (xhp (tr_emit s 87)) Φ
      replace g := g.2
      refine xW.call (y := 207) (as := [vr 11 225, vi 87]) (h0 := xhp (tr_emit s 87)) (pc0 := 31) (len := 3) (L0 := [(0, vr 11 225), (1, vi k)]) (rest := []) 3 (fun _ _ _ _ => rfl) (m207 _ _ g.1 ?_)
      show xW (xX0 xs Ls) p205 34 [(0, vr 11 225), (1, vi k)] [] (xhp (tr_emit (tr_emit s 87) 87)) Φ
      replace g := g.2
      exact xW.ret (v0 := none) (h1 := xhp (tr_emit (tr_emit s 87) 87)) 1 (fun _ _ _ _ => rfl) g
  · replace g := g.2 (zb_ne0.mp hc)
    refine xW.call (y := 207) (as := [vr 11 225, vi 61]) (h0 := xhp s) (pc0 := 10) (len := 3) (L0 := [(0, vr 11 225), (1, vi k)]) (rest := []) 3 (fun _ _ _ _ => rfl) (m207 _ _ g.1 ?_)
    show xW (xX0 xs Ls) p205 13 [(0, vr 11 225), (1, vi k)] [] (xhp (tr_emit s 61)) Φ
    replace g := g.2
    exact xW.ret (v0 := none) (h1 := xhp (tr_emit s 61)) 2 (fun _ _ _ _ => rfl) g
noncomputable def tr_separate_d (s : xS) (k : Int32) : xS := (if (te_beginsEntry k) = false then (if ¬ k = 78 then s else (tr_emit (tr_emit s 87) 87)) else (tr_emit s 61))
noncomputable def tr_separate : xS → Int32 → xS := Classical.choose (⟨tr_separate_d, rfl⟩ : ∃ f, f = tr_separate_d)
set_option maxRecDepth 100000 in
theorem tr_separate_eq : tr_separate = tr_separate_d := Classical.choose_spec (⟨tr_separate_d, rfl⟩ : ∃ f, f = tr_separate_d)
def tr_separate_ok (s : xS) (k : Int32) : Prop := (((te_beginsEntry k) = false → (k = 78 → ((tr_emit_ok s 87) ∧ (tr_emit_ok (tr_emit s 87) 87)))) ∧ ((te_beginsEntry k) = true → (tr_emit_ok s 61)))
set_option maxRecDepth 100000 in
theorem m205 {xs : Nat → Int32} {Ls : Nat} {Ψ : xO → xH → Prop} (s : xS) (k : Int32) (gq : tr_separate_ok s k) (h : Ψ (.inl none) (xhp (tr_separate s k))) : xM (xX0 xs Ls) 205 [vr 11 225, vi k] (xhp s) Ψ := by
  rw [tr_separate_eq] at h
  unfold tr_separate_d at h
  unfold tr_separate_ok at gq
  exact xM.of (P := p205) rfl rfl rfl (b205_0 s k (⟨fun hc => by rw [if_pos hc] at h; replace gq := gq.1 hc; exact ⟨fun hc => by rw [if_pos hc] at h; exact h, fun hc => by rw [if_neg (fun z => z hc)] at h; replace gq := gq hc; exact ⟨gq.1, by replace gq := gq.2; exact ⟨gq, h⟩⟩⟩, fun hc => by rw [if_neg (by rw [hc]; decide)] at h; replace gq := gq.2 hc; exact ⟨gq, h⟩⟩))
/-! tr_takeRowKey -/
theorem b204_30 {xs : Nat → Int32} {Ls : Nat} {Φ : Option xV → xH → Prop} (s : xS) (x1 : Int32) (g : ((ro_leftBehind_ok s 228 229 x1) ∧ (((ro_isFullFor 228 x1 (ro_leftBehind s 228 229 x1)) = false → ((tr_close_ok (sI s 225 5 0) (ro_leftBehind s 228 229 x1)) ∧ ((ro_follow_ok (tr_close (sI s 225 5 0) (ro_leftBehind s 228 229 x1)) 228 229 x1 (ro_leftBehind s 228 229 x1)) ∧ Φ (some (vi 0)) (xhp (ro_follow (tr_close (sI s 225 5 0) (ro_leftBehind s 228 229 x1)) 228 229 x1 (ro_leftBehind s 228 229 x1)))))) ∧ ((ro_isFullFor 228 x1 (ro_leftBehind s 228 229 x1)) = true → Φ (some (vi 6)) (xhp s))))) : xW (xX0 xs Ls) p204 30 [(0, vr 11 225), (1, vi x1)] [] (xhp s) Φ := by
  refine xW.call (y := 189) (as := [vr 3 228, vi x1]) (h0 := xhp s) (pc0 := 35) (len := 3) (L0 := [(0, vr 11 225), (1, vi x1)]) (rest := []) 4 (fun _ _ _ _ => rfl) (m189 _ _ _ _ rfl rfl g.1 ?_)
  show xW (xX0 xs Ls) p204 38 [(0, vr 11 225), (1, vi x1)] [vi (ro_leftBehind s 228 229 x1)] (xhp s) Φ
  replace g := g.2
  refine xW.call (y := 190) (as := [vr 3 228, vi x1, vi (ro_leftBehind s 228 229 x1)]) (h0 := xhp s) (pc0 := 45) (len := 3) (L0 := [(2, vi (ro_leftBehind s 228 229 x1)), (0, vr 11 225), (1, vi x1)]) (rest := []) 6 (fun _ _ _ _ => rfl) (m190 _ _ _ _ ?_)
  show xW (xX0 xs Ls) p204 48 [(2, vi (ro_leftBehind s 228 229 x1)), (0, vr 11 225), (1, vi x1)] [vi (zb (ro_isFullFor 228 x1 (ro_leftBehind s 228 229 x1)))] (xhp s) Φ
  refine xW.br (c := (zb (ro_isFullFor 228 x1 (ro_leftBehind s 228 229 x1))) = 0) (pc1 := 54) (L1 := [(2, vi (ro_leftBehind s 228 229 x1)), (0, vr 11 225), (1, vi x1)]) (st1 := []) (h1 := xhp s) (pc2 := 51) (L2 := [(2, vi (ro_leftBehind s 228 229 x1)), (0, vr 11 225), (1, vi x1)]) (st2 := []) (h2 := xhp s) 1 (fun _ _ _ _ => rfl) (fun hc => ?_) (fun hc => ?_)
  · replace g := g.1 (zb_eq0.mp hc)
    refine xW.side (c := (0 : Int32) = 0 ∨ (0 : Int32) = 1) (pc1 := 59) (L1 := [(2, vi (ro_leftBehind s 228 229 x1)), (0, vr 11 225), (1, vi x1)]) (st1 := []) (h1 := xhp (sI s 225 5 0)) 3 (fun _ _ _ _ => rfl) (Or.inl rfl) ?_
    refine xW.call (y := 206) (as := [vr 11 225, vi (ro_leftBehind s 228 229 x1)]) (h0 := xhp (sI s 225 5 0)) (pc0 := 61) (len := 3) (L0 := [(2, vi (ro_leftBehind s 228 229 x1)), (0, vr 11 225), (1, vi x1)]) (rest := []) 3 (fun _ _ _ _ => rfl) (m206 _ _ g.1 ?_)
    show xW (xX0 xs Ls) p204 64 [(2, vi (ro_leftBehind s 228 229 x1)), (0, vr 11 225), (1, vi x1)] [] (xhp (tr_close (sI s 225 5 0) (ro_leftBehind s 228 229 x1))) Φ
    replace g := g.2
    refine xW.call (y := 191) (as := [vr 3 228, vi x1, vi (ro_leftBehind s 228 229 x1)]) (h0 := xhp (tr_close (sI s 225 5 0) (ro_leftBehind s 228 229 x1))) (pc0 := 70) (len := 3) (L0 := [(2, vi (ro_leftBehind s 228 229 x1)), (0, vr 11 225), (1, vi x1)]) (rest := []) 5 (fun _ _ _ _ => rfl) (m191 _ _ _ _ _ rfl rfl g.1 ?_)
    show xW (xX0 xs Ls) p204 73 [(2, vi (ro_leftBehind s 228 229 x1)), (0, vr 11 225), (1, vi x1)] [] (xhp (ro_follow (tr_close (sI s 225 5 0) (ro_leftBehind s 228 229 x1)) 228 229 x1 (ro_leftBehind s 228 229 x1))) Φ
    replace g := g.2
    exact xW.ret (v0 := some (vi 0)) (h1 := xhp (ro_follow (tr_close (sI s 225 5 0) (ro_leftBehind s 228 229 x1)) 228 229 x1 (ro_leftBehind s 228 229 x1))) 2 (fun _ _ _ _ => rfl) g
  · replace g := g.2 (zb_ne0.mp hc)
    exact xW.ret (v0 := some (vi 6)) (h1 := xhp s) 2 (fun _ _ _ _ => rfl) g
noncomputable def tr_takeRowKey_30_d (s : xS) (x1 : Int32) : Int32 × xS := (if (ro_isFullFor 228 x1 (ro_leftBehind s 228 229 x1)) = false then (0, (ro_follow (tr_close (sI s 225 5 0) (ro_leftBehind s 228 229 x1)) 228 229 x1 (ro_leftBehind s 228 229 x1))) else (6, s))
noncomputable def tr_takeRowKey_30 : xS → Int32 → Int32 × xS := Classical.choose (⟨tr_takeRowKey_30_d, rfl⟩ : ∃ f, f = tr_takeRowKey_30_d)
set_option maxRecDepth 100000 in
theorem tr_takeRowKey_30_eq : tr_takeRowKey_30 = tr_takeRowKey_30_d := Classical.choose_spec (⟨tr_takeRowKey_30_d, rfl⟩ : ∃ f, f = tr_takeRowKey_30_d)
def tr_takeRowKey_30_ok (s : xS) (x1 : Int32) : Prop := ((ro_leftBehind_ok s 228 229 x1) ∧ ((ro_isFullFor 228 x1 (ro_leftBehind s 228 229 x1)) = false → ((tr_close_ok (sI s 225 5 0) (ro_leftBehind s 228 229 x1)) ∧ (ro_follow_ok (tr_close (sI s 225 5 0) (ro_leftBehind s 228 229 x1)) 228 229 x1 (ro_leftBehind s 228 229 x1)))))
set_option maxRecDepth 100000 in
theorem n204_30 {xs : Nat → Int32} {Ls : Nat} {Φ : Option xV → xH → Prop} (s : xS) (x1 : Int32) (gq : tr_takeRowKey_30_ok s x1) (h : Φ (some (vi (tr_takeRowKey_30 s x1).1)) (xhp (tr_takeRowKey_30 s x1).2)) : xW (xX0 xs Ls) p204 30 [(0, vr 11 225), (1, vi x1)] [] (xhp s) Φ := by
  rw [tr_takeRowKey_30_eq] at h
  unfold tr_takeRowKey_30_d at h
  unfold tr_takeRowKey_30_ok at gq
  exact b204_30 s x1 (⟨gq.1, by replace gq := gq.2; exact ⟨fun hc => by rw [if_pos hc] at h; replace gq := gq hc; exact ⟨gq.1, by replace gq := gq.2; exact ⟨gq, (by (try dsimp only at h); exact h)⟩⟩, fun hc => by rw [if_neg (by rw [hc]; decide)] at h; exact (by (try dsimp only at h); exact h)⟩⟩)
set_option maxRecDepth 100000 in
theorem b204_0 {xs : Nat → Int32} {Ls : Nat} {Φ : Option xV → xH → Prop} (s : xS) (k : Int32) (g : ((ro_isOutOfPlace_ok s 228 229 k) ∧ (((ro_isOutOfPlace s 228 229 k) = true → Φ (some (vi 5)) (xhp s)) ∧ ((ro_isOutOfPlace s 228 229 k) = false → (((te_isOperation k) = false → xW (xX0 xs Ls) p204 30 [(0, vr 11 225), (1, vi k)] [] (xhp s) Φ) ∧ ((te_isOperation k) = true → ((¬ (gI s 228 2) = 0 → xW (xX0 xs Ls) p204 30 [(0, vr 11 225), (1, vi k)] [] (xhp s) Φ) ∧ ((gI s 228 2) = 0 → Φ (some (vi 5)) (xhp s))))))))) : xW (xX0 xs Ls) p204 0 [(0, vr 11 225), (1, vi k)] [] (xhp s) Φ := by
  refine xW.call (y := 186) (as := [vr 3 228, vi k]) (h0 := xhp s) (pc0 := 5) (len := 3) (L0 := [(0, vr 11 225), (1, vi k)]) (rest := []) 4 (fun _ _ _ _ => rfl) (m186 _ _ _ _ rfl rfl g.1 ?_)
  show xW (xX0 xs Ls) p204 8 [(0, vr 11 225), (1, vi k)] [vi (zb (ro_isOutOfPlace s 228 229 k))] (xhp s) Φ
  replace g := g.2
  refine xW.br (c := ¬ (zb (ro_isOutOfPlace s 228 229 k)) = 0) (pc1 := 28) (L1 := [(0, vr 11 225), (1, vi k)]) (st1 := []) (h1 := xhp s) (pc2 := 11) (L2 := [(0, vr 11 225), (1, vi k)]) (st2 := []) (h2 := xhp s) 1 (fun _ _ _ _ => rfl) (fun hc => ?_) (fun hc => ?_)
  · replace g := g.1 (zb_ne0.mp hc)
    exact xW.ret (v0 := some (vi 5)) (h1 := xhp s) 2 (fun _ _ _ _ => rfl) g
  · replace g := g.2 (zb_eq0.mp (Decidable.not_not.mp hc))
    refine xW.call (y := 25) (as := [vi k]) (h0 := xhp s) (pc0 := 12) (len := 3) (L0 := [(0, vr 11 225), (1, vi k)]) (rest := []) 2 (fun _ _ _ _ => rfl) (m25 _ _ ?_)
    show xW (xX0 xs Ls) p204 15 [(0, vr 11 225), (1, vi k)] [vi (zb (te_isOperation k))] (xhp s) Φ
    refine xW.br (c := (zb (te_isOperation k)) = 0) (pc1 := 30) (L1 := [(0, vr 11 225), (1, vi k)]) (st1 := []) (h1 := xhp s) (pc2 := 18) (L2 := [(0, vr 11 225), (1, vi k)]) (st2 := []) (h2 := xhp s) 1 (fun _ _ _ _ => rfl) (fun hc => ?_) (fun hc => ?_)
    · replace g := g.1 (zb_eq0.mp hc)
      exact g
    · replace g := g.2 (zb_ne0.mp hc)
      refine xW.br (c := ¬ (gI s 228 2) = 0) (pc1 := 30) (L1 := [(0, vr 11 225), (1, vi k)]) (st1 := []) (h1 := xhp s) (pc2 := 28) (L2 := [(0, vr 11 225), (1, vi k)]) (st2 := []) (h2 := xhp s) 4 (fun _ _ _ _ => rfl) (fun hc => ?_) (fun hc => ?_)
      · replace g := g.1 hc
        exact g
      · replace g := g.2 (Decidable.not_not.mp hc)
        exact xW.ret (v0 := some (vi 5)) (h1 := xhp s) 2 (fun _ _ _ _ => rfl) g
noncomputable def tr_takeRowKey_d (s : xS) (k : Int32) : Int32 × xS := (if (ro_isOutOfPlace s 228 229 k) = true then (5, s) else (if (te_isOperation k) = false then (tr_takeRowKey_30 s k) else (if ¬ (gI s 228 2) = 0 then (tr_takeRowKey_30 s k) else (5, s))))
noncomputable def tr_takeRowKey : xS → Int32 → Int32 × xS := Classical.choose (⟨tr_takeRowKey_d, rfl⟩ : ∃ f, f = tr_takeRowKey_d)
set_option maxRecDepth 100000 in
theorem tr_takeRowKey_eq : tr_takeRowKey = tr_takeRowKey_d := Classical.choose_spec (⟨tr_takeRowKey_d, rfl⟩ : ∃ f, f = tr_takeRowKey_d)
def tr_takeRowKey_ok (s : xS) (k : Int32) : Prop := ((ro_isOutOfPlace_ok s 228 229 k) ∧ ((ro_isOutOfPlace s 228 229 k) = false → (((te_isOperation k) = false → (tr_takeRowKey_30_ok s k)) ∧ ((te_isOperation k) = true → (¬ (gI s 228 2) = 0 → (tr_takeRowKey_30_ok s k))))))
set_option maxRecDepth 100000 in
theorem m204 {xs : Nat → Int32} {Ls : Nat} {Ψ : xO → xH → Prop} (s : xS) (k : Int32) (gq : tr_takeRowKey_ok s k) (h : Ψ (.inl (some (vi (tr_takeRowKey s k).1))) (xhp (tr_takeRowKey s k).2)) : xM (xX0 xs Ls) 204 [vr 11 225, vi k] (xhp s) Ψ := by
  rw [tr_takeRowKey_eq] at h
  unfold tr_takeRowKey_d at h
  unfold tr_takeRowKey_ok at gq
  exact xM.of (P := p204) rfl rfl rfl (b204_0 s k (⟨gq.1, by replace gq := gq.2; exact ⟨fun hc => by rw [if_pos hc] at h; exact (by (try dsimp only at h); exact h), fun hc => by rw [if_neg (by rw [hc]; decide)] at h; replace gq := gq hc; exact ⟨fun hc => by rw [if_pos hc] at h; replace gq := gq.1 hc; exact n204_30 _ _ gq h, fun hc => by rw [if_neg (by rw [hc]; decide)] at h; replace gq := gq.2 hc; exact ⟨fun hc => by rw [if_pos hc] at h; replace gq := gq hc; exact n204_30 _ _ gq h, fun hc => by rw [if_neg (fun z => z hc)] at h; exact (by (try dsimp only at h); exact h)⟩⟩⟩⟩))
/-! tr_take -/
theorem b203_198 {xs : Nat → Int32} {Ls : Nat} {Φ : Option xV → xH → Prop} (s : xS) (x1 : Int32) (g : ((tr_emit_ok s x1) ∧ (((gI (tr_emit s x1) 225 5) = 0 ∨ (gI (tr_emit s x1) 225 5) = 1) ∧ Φ (some (vi 0)) (xhp (sI (sI (tr_emit s x1) 225 6 (gI (tr_emit s x1) 225 5)) 228 2 2))))) : xW (xX0 xs Ls) p203 198 [(0, vr 11 225), (1, vi x1)] [] (xhp s) Φ := by
  refine xW.call (y := 207) (as := [vr 11 225, vi x1]) (h0 := xhp s) (pc0 := 200) (len := 3) (L0 := [(0, vr 11 225), (1, vi x1)]) (rest := []) 3 (fun _ _ _ _ => rfl) (m207 _ _ g.1 ?_)
  show xW (xX0 xs Ls) p203 203 [(0, vr 11 225), (1, vi x1)] [] (xhp (tr_emit s x1)) Φ
  replace g := g.2
  refine xW.side (c := (gI (tr_emit s x1) 225 5) = 0 ∨ (gI (tr_emit s x1) 225 5) = 1) (pc1 := 211) (L1 := [(0, vr 11 225), (1, vi x1)]) (st1 := []) (h1 := xhp (sI (tr_emit s x1) 225 6 (gI (tr_emit s x1) 225 5))) 4 (fun _ _ _ _ => rfl) g.1 ?_
  replace g := g.2
  exact xW.ret (v0 := some (vi 0)) (h1 := xhp (sI (sI (tr_emit s x1) 225 6 (gI (tr_emit s x1) 225 5)) 228 2 2)) 6 (fun _ _ _ _ => rfl) g
noncomputable def tr_take_198_d (s : xS) (x1 : Int32) : Int32 × xS := (0, (sI (sI (tr_emit s x1) 225 6 (gI (tr_emit s x1) 225 5)) 228 2 2))
noncomputable def tr_take_198 : xS → Int32 → Int32 × xS := Classical.choose (⟨tr_take_198_d, rfl⟩ : ∃ f, f = tr_take_198_d)
set_option maxRecDepth 100000 in
theorem tr_take_198_eq : tr_take_198 = tr_take_198_d := Classical.choose_spec (⟨tr_take_198_d, rfl⟩ : ∃ f, f = tr_take_198_d)
def tr_take_198_ok (s : xS) (x1 : Int32) : Prop := ((tr_emit_ok s x1) ∧ ((gI (tr_emit s x1) 225 5) = 0 ∨ (gI (tr_emit s x1) 225 5) = 1))
set_option maxRecDepth 100000 in
theorem n203_198 {xs : Nat → Int32} {Ls : Nat} {Φ : Option xV → xH → Prop} (s : xS) (x1 : Int32) (gq : tr_take_198_ok s x1) (h : Φ (some (vi (tr_take_198 s x1).1)) (xhp (tr_take_198 s x1).2)) : xW (xX0 xs Ls) p203 198 [(0, vr 11 225), (1, vi x1)] [] (xhp s) Φ := by
  rw [tr_take_198_eq] at h
  unfold tr_take_198_d at h
  unfold tr_take_198_ok at gq
  exact b203_198 s x1 (⟨gq.1, by replace gq := gq.2; exact ⟨gq, (by (try dsimp only at h); exact h)⟩⟩)
set_option maxRecDepth 100000 in
theorem b203_178 {xs : Nat → Int32} {Ls : Nat} {Φ : Option xV → xH → Prop} (s : xS) (x1 : Int32) (g : (((gI s 225 6) = 0 → xW (xX0 xs Ls) p203 198 [(0, vr 11 225), (1, vi x1)] [] (xhp (sI s 225 5 (zb (te_beginsEntry x1)))) Φ) ∧ (¬ ((gI s 225 6) = 0) → ((tr_separate_ok (sI s 225 5 (zb (te_beginsEntry x1))) x1) ∧ xW (xX0 xs Ls) p203 198 [(0, vr 11 225), (1, vi x1)] [] (xhp (tr_separate (sI s 225 5 (zb (te_beginsEntry x1))) x1)) Φ)))) : xW (xX0 xs Ls) p203 178 [(0, vr 11 225), (1, vi x1)] [] (xhp s) Φ := by
  refine xW.call (y := 24) (as := [vi x1]) (h0 := xhp s) (pc0 := 180) (len := 3) (L0 := [(0, vr 11 225), (1, vi x1)]) (rest := [vr 11 225]) 3 (fun _ _ _ _ => rfl) (m24 _ _ ?_)
  show xW (xX0 xs Ls) p203 183 [(0, vr 11 225), (1, vi x1)] [vi (zb (te_beginsEntry x1)), vr 11 225] (xhp s) Φ
  refine xW.side (c := (zb (te_beginsEntry x1)) = 0 ∨ (zb (te_beginsEntry x1)) = 1) (pc1 := 186) (L1 := [(0, vr 11 225), (1, vi x1)]) (st1 := []) (h1 := xhp (sI s 225 5 (zb (te_beginsEntry x1)))) 1 (fun _ _ _ _ => rfl) (zb01 _) ?_
  refine xW.br (c := (gI s 225 6) = 0) (pc1 := 198) (L1 := [(0, vr 11 225), (1, vi x1)]) (st1 := []) (h1 := xhp (sI s 225 5 (zb (te_beginsEntry x1)))) (pc2 := 193) (L2 := [(0, vr 11 225), (1, vi x1)]) (st2 := []) (h2 := xhp (sI s 225 5 (zb (te_beginsEntry x1)))) 3 (fun _ _ _ _ => rfl) (fun hc => ?_) (fun hc => ?_)
  · replace g := g.1 hc
    exact g
  · replace g := g.2 hc
    refine xW.call (y := 205) (as := [vr 11 225, vi x1]) (h0 := xhp (sI s 225 5 (zb (te_beginsEntry x1)))) (pc0 := 195) (len := 3) (L0 := [(0, vr 11 225), (1, vi x1)]) (rest := []) 3 (fun _ _ _ _ => rfl) (m205 _ _ g.1 ?_)
    show xW (xX0 xs Ls) p203 198 [(0, vr 11 225), (1, vi x1)] [] (xhp (tr_separate (sI s 225 5 (zb (te_beginsEntry x1))) x1)) Φ
    replace g := g.2
    exact g
noncomputable def tr_take_178_d (s : xS) (x1 : Int32) : Int32 × xS := (if (gI s 225 6) = 0 then (tr_take_198 (sI s 225 5 (zb (te_beginsEntry x1))) x1) else (tr_take_198 (tr_separate (sI s 225 5 (zb (te_beginsEntry x1))) x1) x1))
noncomputable def tr_take_178 : xS → Int32 → Int32 × xS := Classical.choose (⟨tr_take_178_d, rfl⟩ : ∃ f, f = tr_take_178_d)
set_option maxRecDepth 100000 in
theorem tr_take_178_eq : tr_take_178 = tr_take_178_d := Classical.choose_spec (⟨tr_take_178_d, rfl⟩ : ∃ f, f = tr_take_178_d)
def tr_take_178_ok (s : xS) (x1 : Int32) : Prop := (((gI s 225 6) = 0 → (tr_take_198_ok (sI s 225 5 (zb (te_beginsEntry x1))) x1)) ∧ (¬ ((gI s 225 6) = 0) → ((tr_separate_ok (sI s 225 5 (zb (te_beginsEntry x1))) x1) ∧ (tr_take_198_ok (tr_separate (sI s 225 5 (zb (te_beginsEntry x1))) x1) x1))))
set_option maxRecDepth 100000 in
theorem n203_178 {xs : Nat → Int32} {Ls : Nat} {Φ : Option xV → xH → Prop} (s : xS) (x1 : Int32) (gq : tr_take_178_ok s x1) (h : Φ (some (vi (tr_take_178 s x1).1)) (xhp (tr_take_178 s x1).2)) : xW (xX0 xs Ls) p203 178 [(0, vr 11 225), (1, vi x1)] [] (xhp s) Φ := by
  rw [tr_take_178_eq] at h
  unfold tr_take_178_d at h
  unfold tr_take_178_ok at gq
  exact b203_178 s x1 (⟨fun hc => by rw [if_pos hc] at h; replace gq := gq.1 hc; exact n203_198 _ _ gq h, fun hc => by rw [if_neg hc] at h; replace gq := gq.2 hc; exact ⟨gq.1, by replace gq := gq.2; exact n203_198 _ _ gq h⟩⟩)
set_option maxRecDepth 100000 in
theorem b203_101 {xs : Nat → Int32} {Ls : Nat} {Φ : Option xV → xH → Prop} (s : xS) (x1 : Int32) (x2 : Int32) (x4 : Int32) (g : ((x4 = 0 → (((bif decide (x2 = 0) then (!decide ((gI s 228 2) = 2)) else (decide ((gI s 228 2) = 2))) = false → ((x2 = 0 → xW (xX0 xs Ls) p203 178 [(0, vr 11 225), (1, vi x1)] [] (xhp s) Φ) ∧ (¬ (x2 = 0) → ((ro_countNumbers_ok s 228 229) ∧ (((ro_countNumbers s 228 229) < 4 → xW (xX0 xs Ls) p203 178 [(0, vr 11 225), (1, vi x1)] [] (xhp s) Φ) ∧ (¬ ((ro_countNumbers s 228 229) < 4) → Φ (some (vi 6)) (xhp s))))))) ∧ ((bif decide (x2 = 0) then (!decide ((gI s 228 2) = 2)) else (decide ((gI s 228 2) = 2))) = true → Φ (some (vi 5)) (xhp s)))) ∧ (¬ (x4 = 0) → ((tr_takeRowKey_ok s x1) ∧ Φ (some (vi ((tr_takeRowKey s x1).1))) (xhp ((tr_takeRowKey s x1).2)))))) : xW (xX0 xs Ls) p203 101 [(0, vr 11 225), (1, vi x1), (2, vi x2), (4, vi x4)] [] (xhp s) Φ := by
  refine xW.br (c := x4 = 0) (pc1 := 112) (L1 := [(0, vr 11 225), (1, vi x1), (2, vi x2), (4, vi x4)]) (st1 := []) (h1 := xhp s) (pc2 := 106) (L2 := [(0, vr 11 225), (1, vi x1), (2, vi x2), (4, vi x4)]) (st2 := []) (h2 := xhp s) 2 (fun _ _ _ _ => rfl) (fun hc => ?_) (fun hc => ?_)
  · replace g := g.1 hc
    refine xW.seg (pc1 := 113) (L1 := [(0, vr 11 225), (1, vi x1), (2, vi x2), (4, vi x4)]) (st1 := [vi x2]) (h1 := xhp s) 1 (fun _ _ _ _ => rfl) ?_
    suffices J : xW (xX0 xs Ls) p203 151 [(0, vr 11 225), (1, vi x1), (2, vi x2), (4, vi x4)] [vi (zb (bif decide (x2 = 0) then (!decide ((gI s 228 2) = 2)) else (decide ((gI s 228 2) = 2))))] (xhp s) Φ by
      refine xW.br (c := x2 = 0) (pc1 := 135) (L1 := [(0, vr 11 225), (1, vi x1), (2, vi x2), (4, vi x4)]) (st1 := []) (h1 := xhp s) (pc2 := 116) (L2 := [(0, vr 11 225), (1, vi x1), (2, vi x2), (4, vi x4)]) (st2 := []) (h2 := xhp s) 1 (fun _ _ _ _ => rfl) (fun hc => ?_) (fun hc => ?_)
      · have hc1 : x2 = 0 := hc
        refine xW.br (c := (gI s 228 2) = 2) (pc1 := 150) (L1 := [(0, vr 11 225), (1, vi x1), (2, vi x2), (4, vi x4)]) (st1 := []) (h1 := xhp s) (pc2 := 146) (L2 := [(0, vr 11 225), (1, vi x1), (2, vi x2), (4, vi x4)]) (st2 := []) (h2 := xhp s) 5 (fun _ _ _ _ => rfl) (fun hc => ?_) (fun hc => ?_)
        · have hc2 : (gI s 228 2) = 2 := hc
          refine xW.seg (pc1 := 151) (L1 := [(0, vr 11 225), (1, vi x1), (2, vi x2), (4, vi x4)]) (st1 := [vi 0]) (h1 := xhp s) 1 (fun _ _ _ _ => rfl) ?_
          refine xW.to (v := vi (zb (bif decide (x2 = 0) then (!decide ((gI s 228 2) = 2)) else (decide ((gI s 228 2) = 2))))) (zb_f (by simp only [decide_eq_true hc1, decide_eq_true hc2, Bool.true_or, Bool.or_true, Bool.false_or, Bool.or_false, Bool.true_and, Bool.and_true, Bool.false_and, Bool.and_false, Bool.not_true, Bool.not_false, cond_true, cond_false])) ?_
          exact J
        · have hc2 : ¬ ((gI s 228 2) = 2) := hc
          refine xW.seg (pc1 := 151) (L1 := [(0, vr 11 225), (1, vi x1), (2, vi x2), (4, vi x4)]) (st1 := [vi 1]) (h1 := xhp s) 2 (fun _ _ _ _ => rfl) ?_
          refine xW.to (v := vi (zb (bif decide (x2 = 0) then (!decide ((gI s 228 2) = 2)) else (decide ((gI s 228 2) = 2))))) (zb_t (by simp only [decide_eq_true hc1, decide_eq_false hc2, Bool.true_or, Bool.or_true, Bool.false_or, Bool.or_false, Bool.true_and, Bool.and_true, Bool.false_and, Bool.and_false, Bool.not_true, Bool.not_false, cond_true, cond_false])) ?_
          exact J
      · have hc1 : ¬ (x2 = 0) := hc
        refine xW.br (c := ¬ (gI s 228 2) = 2) (pc1 := 131) (L1 := [(0, vr 11 225), (1, vi x1), (2, vi x2), (4, vi x4)]) (st1 := []) (h1 := xhp s) (pc2 := 127) (L2 := [(0, vr 11 225), (1, vi x1), (2, vi x2), (4, vi x4)]) (st2 := []) (h2 := xhp s) 5 (fun _ _ _ _ => rfl) (fun hc => ?_) (fun hc => ?_)
        · have hc3 : ¬ (gI s 228 2) = 2 := hc
          refine xW.seg (pc1 := 151) (L1 := [(0, vr 11 225), (1, vi x1), (2, vi x2), (4, vi x4)]) (st1 := [vi 0]) (h1 := xhp s) 2 (fun _ _ _ _ => rfl) ?_
          refine xW.to (v := vi (zb (bif decide (x2 = 0) then (!decide ((gI s 228 2) = 2)) else (decide ((gI s 228 2) = 2))))) (zb_f (by simp only [decide_eq_false hc1, decide_eq_false hc3, Bool.true_or, Bool.or_true, Bool.false_or, Bool.or_false, Bool.true_and, Bool.and_true, Bool.false_and, Bool.and_false, Bool.not_true, Bool.not_false, cond_true, cond_false])) ?_
          exact J
        · have hc3 : (gI s 228 2) = 2 := (Decidable.not_not.mp hc)
          refine xW.seg (pc1 := 151) (L1 := [(0, vr 11 225), (1, vi x1), (2, vi x2), (4, vi x4)]) (st1 := [vi 1]) (h1 := xhp s) 2 (fun _ _ _ _ => rfl) ?_
          refine xW.to (v := vi (zb (bif decide (x2 = 0) then (!decide ((gI s 228 2) = 2)) else (decide ((gI s 228 2) = 2))))) (zb_t (by simp only [decide_eq_false hc1, decide_eq_true hc3, Bool.true_or, Bool.or_true, Bool.false_or, Bool.or_false, Bool.true_and, Bool.and_true, Bool.false_and, Bool.and_false, Bool.not_true, Bool.not_false, cond_true, cond_false])) ?_
          exact J
    refine xW.br (c := (zb (bif decide (x2 = 0) then (!decide ((gI s 228 2) = 2)) else (decide ((gI s 228 2) = 2)))) = 0) (pc1 := 160) (L1 := [(5, vi (zb (bif decide (x2 = 0) then (!decide ((gI s 228 2) = 2)) else (decide ((gI s 228 2) = 2))))), (0, vr 11 225), (1, vi x1), (2, vi x2), (4, vi x4)]) (st1 := []) (h1 := xhp s) (pc2 := 158) (L2 := [(5, vi (zb (bif decide (x2 = 0) then (!decide ((gI s 228 2) = 2)) else (decide ((gI s 228 2) = 2))))), (0, vr 11 225), (1, vi x1), (2, vi x2), (4, vi x4)]) (st2 := []) (h2 := xhp s) 3 (fun _ _ _ _ => rfl) (fun hc => ?_) (fun hc => ?_)
    · replace g := g.1 (zb_eq0.mp hc)
      refine xW.br (c := x2 = 0) (pc1 := 178) (L1 := [(5, vi (zb (bif decide (x2 = 0) then (!decide ((gI s 228 2) = 2)) else (decide ((gI s 228 2) = 2))))), (0, vr 11 225), (1, vi x1), (2, vi x2), (4, vi x4)]) (st1 := []) (h1 := xhp s) (pc2 := 164) (L2 := [(5, vi (zb (bif decide (x2 = 0) then (!decide ((gI s 228 2) = 2)) else (decide ((gI s 228 2) = 2))))), (0, vr 11 225), (1, vi x1), (2, vi x2), (4, vi x4)]) (st2 := []) (h2 := xhp s) 2 (fun _ _ _ _ => rfl) (fun hc => ?_) (fun hc => ?_)
      · replace g := g.1 hc
        exact xW.locs (L := [(0, vr 11 225), (1, vi x1)]) ⟨rfl, rfl, trivial⟩ rfl g
      · replace g := g.2 hc
        refine xW.call (y := 188) (as := [vr 3 228]) (h0 := xhp s) (pc0 := 168) (len := 3) (L0 := [(5, vi (zb (bif decide (x2 = 0) then (!decide ((gI s 228 2) = 2)) else (decide ((gI s 228 2) = 2))))), (0, vr 11 225), (1, vi x1), (2, vi x2), (4, vi x4)]) (rest := []) 3 (fun _ _ _ _ => rfl) (m188 _ _ _ rfl rfl g.1 ?_)
        show xW (xX0 xs Ls) p203 171 [(5, vi (zb (bif decide (x2 = 0) then (!decide ((gI s 228 2) = 2)) else (decide ((gI s 228 2) = 2))))), (0, vr 11 225), (1, vi x1), (2, vi x2), (4, vi x4)] [vi (ro_countNumbers s 228 229)] (xhp s) Φ
        replace g := g.2
        refine xW.br (c := (ro_countNumbers s 228 229) < 4) (pc1 := 178) (L1 := [(5, vi (zb (bif decide (x2 = 0) then (!decide ((gI s 228 2) = 2)) else (decide ((gI s 228 2) = 2))))), (0, vr 11 225), (1, vi x1), (2, vi x2), (4, vi x4)]) (st1 := []) (h1 := xhp s) (pc2 := 175) (L2 := [(5, vi (zb (bif decide (x2 = 0) then (!decide ((gI s 228 2) = 2)) else (decide ((gI s 228 2) = 2))))), (0, vr 11 225), (1, vi x1), (2, vi x2), (4, vi x4)]) (st2 := []) (h2 := xhp s) 2 (fun _ _ _ _ => rfl) (fun hc => ?_) (fun hc => ?_)
        · replace g := g.1 hc
          exact xW.locs (L := [(0, vr 11 225), (1, vi x1)]) ⟨rfl, rfl, trivial⟩ rfl g
        · replace g := g.2 hc
          exact xW.ret (v0 := some (vi 6)) (h1 := xhp s) 2 (fun _ _ _ _ => rfl) g
    · replace g := g.2 (zb_ne0.mp hc)
      exact xW.ret (v0 := some (vi 5)) (h1 := xhp s) 2 (fun _ _ _ _ => rfl) g
  · replace g := g.2 hc
    refine xW.call (y := 204) (as := [vr 11 225, vi x1]) (h0 := xhp s) (pc0 := 108) (len := 3) (L0 := [(0, vr 11 225), (1, vi x1), (2, vi x2), (4, vi x4)]) (rest := []) 3 (fun _ _ _ _ => rfl) (m204 _ _ g.1 ?_)
    show xW (xX0 xs Ls) p203 111 [(0, vr 11 225), (1, vi x1), (2, vi x2), (4, vi x4)] [vi ((tr_takeRowKey s x1).1)] (xhp ((tr_takeRowKey s x1).2)) Φ
    replace g := g.2
    exact xW.ret (v0 := some (vi ((tr_takeRowKey s x1).1))) (h1 := xhp ((tr_takeRowKey s x1).2)) 1 (fun _ _ _ _ => rfl) g
noncomputable def tr_take_101_d (s : xS) (x1 : Int32) (x2 : Int32) (x4 : Int32) : Int32 × xS := (if x4 = 0 then (if (bif decide (x2 = 0) then (!decide ((gI s 228 2) = 2)) else (decide ((gI s 228 2) = 2))) = false then (if x2 = 0 then (tr_take_178 s x1) else (if (ro_countNumbers s 228 229) < 4 then (tr_take_178 s x1) else (6, s))) else (5, s)) else (tr_takeRowKey s x1))
noncomputable def tr_take_101 : xS → Int32 → Int32 → Int32 → Int32 × xS := Classical.choose (⟨tr_take_101_d, rfl⟩ : ∃ f, f = tr_take_101_d)
set_option maxRecDepth 100000 in
theorem tr_take_101_eq : tr_take_101 = tr_take_101_d := Classical.choose_spec (⟨tr_take_101_d, rfl⟩ : ∃ f, f = tr_take_101_d)
def tr_take_101_ok (s : xS) (x1 : Int32) (x2 : Int32) (x4 : Int32) : Prop := ((x4 = 0 → ((bif decide (x2 = 0) then (!decide ((gI s 228 2) = 2)) else (decide ((gI s 228 2) = 2))) = false → ((x2 = 0 → (tr_take_178_ok s x1)) ∧ (¬ (x2 = 0) → ((ro_countNumbers_ok s 228 229) ∧ ((ro_countNumbers s 228 229) < 4 → (tr_take_178_ok s x1))))))) ∧ (¬ (x4 = 0) → (tr_takeRowKey_ok s x1)))
set_option maxRecDepth 100000 in
theorem n203_101 {xs : Nat → Int32} {Ls : Nat} {Φ : Option xV → xH → Prop} (s : xS) (x1 : Int32) (x2 : Int32) (x4 : Int32) (gq : tr_take_101_ok s x1 x2 x4) (h : Φ (some (vi (tr_take_101 s x1 x2 x4).1)) (xhp (tr_take_101 s x1 x2 x4).2)) : xW (xX0 xs Ls) p203 101 [(0, vr 11 225), (1, vi x1), (2, vi x2), (4, vi x4)] [] (xhp s) Φ := by
  rw [tr_take_101_eq] at h
  unfold tr_take_101_d at h
  unfold tr_take_101_ok at gq
  exact b203_101 s x1 x2 x4 (⟨fun hc => by rw [if_pos hc] at h; replace gq := gq.1 hc; exact ⟨fun hc => by rw [if_pos hc] at h; replace gq := gq hc; exact ⟨fun hc => by rw [if_pos hc] at h; replace gq := gq.1 hc; exact n203_178 _ _ gq h, fun hc => by rw [if_neg hc] at h; replace gq := gq.2 hc; exact ⟨gq.1, by replace gq := gq.2; exact ⟨fun hc => by rw [if_pos hc] at h; replace gq := gq hc; exact n203_178 _ _ gq h, fun hc => by rw [if_neg hc] at h; exact (by (try dsimp only at h); exact h)⟩⟩⟩, fun hc => by rw [if_neg (by rw [hc]; decide)] at h; exact (by (try dsimp only at h); exact h)⟩, fun hc => by rw [if_neg hc] at h; replace gq := gq.2 hc; exact ⟨gq, (by (try dsimp only at h); exact h)⟩⟩)
set_option maxRecDepth 100000 in
theorem b203_94 {xs : Nat → Int32} {Ls : Nat} {Φ : Option xV → xH → Prop} (s : xS) (x1 : Int32) (g : ((tr_emit_ok s x1) ∧ Φ (some (vi 0)) (xhp (tr_emit s x1)))) : xW (xX0 xs Ls) p203 94 [(0, vr 11 225), (1, vi x1)] [] (xhp s) Φ := by
  refine xW.call (y := 207) (as := [vr 11 225, vi x1]) (h0 := xhp s) (pc0 := 96) (len := 3) (L0 := [(0, vr 11 225), (1, vi x1)]) (rest := []) 3 (fun _ _ _ _ => rfl) (m207 _ _ g.1 ?_)
  show xW (xX0 xs Ls) p203 99 [(0, vr 11 225), (1, vi x1)] [] (xhp (tr_emit s x1)) Φ
  replace g := g.2
  exact xW.ret (v0 := some (vi 0)) (h1 := xhp (tr_emit s x1)) 2 (fun _ _ _ _ => rfl) g
noncomputable def tr_take_94_d (s : xS) (x1 : Int32) : Int32 × xS := (0, (tr_emit s x1))
noncomputable def tr_take_94 : xS → Int32 → Int32 × xS := Classical.choose (⟨tr_take_94_d, rfl⟩ : ∃ f, f = tr_take_94_d)
set_option maxRecDepth 100000 in
theorem tr_take_94_eq : tr_take_94 = tr_take_94_d := Classical.choose_spec (⟨tr_take_94_d, rfl⟩ : ∃ f, f = tr_take_94_d)
def tr_take_94_ok (s : xS) (x1 : Int32) : Prop := (tr_emit_ok s x1)
set_option maxRecDepth 100000 in
theorem n203_94 {xs : Nat → Int32} {Ls : Nat} {Φ : Option xV → xH → Prop} (s : xS) (x1 : Int32) (gq : tr_take_94_ok s x1) (h : Φ (some (vi (tr_take_94 s x1).1)) (xhp (tr_take_94 s x1).2)) : xW (xX0 xs Ls) p203 94 [(0, vr 11 225), (1, vi x1)] [] (xhp s) Φ := by
  rw [tr_take_94_eq] at h
  unfold tr_take_94_d at h
  unfold tr_take_94_ok at gq
  exact b203_94 s x1 (⟨gq, (by (try dsimp only at h); exact h)⟩)
set_option maxRecDepth 100000 in
theorem b203_74 {xs : Nat → Int32} {Ls : Nat} {Φ : Option xV → xH → Prop} (s : xS) (x1 : Int32) (x2 : Int32) (x4 : Int32) (g : (((gI s 225 5) = 0 → xW (xX0 xs Ls) p203 101 [(0, vr 11 225), (1, vi x1), (2, vi x2), (4, vi x4)] [] (xhp s) Φ) ∧ (¬ ((gI s 225 5) = 0) → (((te_beginsEntry x1) = true → xW (xX0 xs Ls) p203 94 [(0, vr 11 225), (1, vi x1)] [] (xhp s) Φ) ∧ ((te_beginsEntry x1) = false → ((¬ x1 = 78 → xW (xX0 xs Ls) p203 101 [(0, vr 11 225), (1, vi x1), (2, vi x2), (4, vi x4)] [] (xhp s) Φ) ∧ (x1 = 78 → xW (xX0 xs Ls) p203 94 [(0, vr 11 225), (1, vi x1)] [] (xhp s) Φ))))))) : xW (xX0 xs Ls) p203 74 [(0, vr 11 225), (1, vi x1), (2, vi x2), (4, vi x4)] [] (xhp s) Φ := by
  refine xW.br (c := (gI s 225 5) = 0) (pc1 := 101) (L1 := [(0, vr 11 225), (1, vi x1), (2, vi x2), (4, vi x4)]) (st1 := []) (h1 := xhp s) (pc2 := 81) (L2 := [(0, vr 11 225), (1, vi x1), (2, vi x2), (4, vi x4)]) (st2 := []) (h2 := xhp s) 3 (fun _ _ _ _ => rfl) (fun hc => ?_) (fun hc => ?_)
  · replace g := g.1 hc
    exact g
  · replace g := g.2 hc
    refine xW.call (y := 24) (as := [vi x1]) (h0 := xhp s) (pc0 := 82) (len := 3) (L0 := [(0, vr 11 225), (1, vi x1), (2, vi x2), (4, vi x4)]) (rest := []) 2 (fun _ _ _ _ => rfl) (m24 _ _ ?_)
    show xW (xX0 xs Ls) p203 85 [(0, vr 11 225), (1, vi x1), (2, vi x2), (4, vi x4)] [vi (zb (te_beginsEntry x1))] (xhp s) Φ
    refine xW.br (c := ¬ (zb (te_beginsEntry x1)) = 0) (pc1 := 94) (L1 := [(0, vr 11 225), (1, vi x1), (2, vi x2), (4, vi x4)]) (st1 := []) (h1 := xhp s) (pc2 := 88) (L2 := [(0, vr 11 225), (1, vi x1), (2, vi x2), (4, vi x4)]) (st2 := []) (h2 := xhp s) 1 (fun _ _ _ _ => rfl) (fun hc => ?_) (fun hc => ?_)
    · replace g := g.1 (zb_ne0.mp hc)
      exact xW.locs (L := [(0, vr 11 225), (1, vi x1)]) ⟨rfl, rfl, trivial⟩ rfl g
    · replace g := g.2 (zb_eq0.mp (Decidable.not_not.mp hc))
      refine xW.br (c := ¬ x1 = 78) (pc1 := 101) (L1 := [(0, vr 11 225), (1, vi x1), (2, vi x2), (4, vi x4)]) (st1 := []) (h1 := xhp s) (pc2 := 94) (L2 := [(0, vr 11 225), (1, vi x1), (2, vi x2), (4, vi x4)]) (st2 := []) (h2 := xhp s) 3 (fun _ _ _ _ => rfl) (fun hc => ?_) (fun hc => ?_)
      · replace g := g.1 hc
        exact g
      · replace g := g.2 (Decidable.not_not.mp hc)
        exact xW.locs (L := [(0, vr 11 225), (1, vi x1)]) ⟨rfl, rfl, trivial⟩ rfl g
noncomputable def tr_take_74_d (s : xS) (x1 : Int32) (x2 : Int32) (x4 : Int32) : Int32 × xS := (if (gI s 225 5) = 0 then (tr_take_101 s x1 x2 x4) else (if (te_beginsEntry x1) = true then (tr_take_94 s x1) else (if ¬ x1 = 78 then (tr_take_101 s x1 x2 x4) else (tr_take_94 s x1))))
noncomputable def tr_take_74 : xS → Int32 → Int32 → Int32 → Int32 × xS := Classical.choose (⟨tr_take_74_d, rfl⟩ : ∃ f, f = tr_take_74_d)
set_option maxRecDepth 100000 in
theorem tr_take_74_eq : tr_take_74 = tr_take_74_d := Classical.choose_spec (⟨tr_take_74_d, rfl⟩ : ∃ f, f = tr_take_74_d)
def tr_take_74_ok (s : xS) (x1 : Int32) (x2 : Int32) (x4 : Int32) : Prop := (((gI s 225 5) = 0 → (tr_take_101_ok s x1 x2 x4)) ∧ (¬ ((gI s 225 5) = 0) → (((te_beginsEntry x1) = true → (tr_take_94_ok s x1)) ∧ ((te_beginsEntry x1) = false → ((¬ x1 = 78 → (tr_take_101_ok s x1 x2 x4)) ∧ (x1 = 78 → (tr_take_94_ok s x1)))))))
set_option maxRecDepth 100000 in
theorem n203_74 {xs : Nat → Int32} {Ls : Nat} {Φ : Option xV → xH → Prop} (s : xS) (x1 : Int32) (x2 : Int32) (x4 : Int32) (gq : tr_take_74_ok s x1 x2 x4) (h : Φ (some (vi (tr_take_74 s x1 x2 x4).1)) (xhp (tr_take_74 s x1 x2 x4).2)) : xW (xX0 xs Ls) p203 74 [(0, vr 11 225), (1, vi x1), (2, vi x2), (4, vi x4)] [] (xhp s) Φ := by
  rw [tr_take_74_eq] at h
  unfold tr_take_74_d at h
  unfold tr_take_74_ok at gq
  exact b203_74 s x1 x2 x4 (⟨fun hc => by rw [if_pos hc] at h; replace gq := gq.1 hc; exact n203_101 _ _ _ _ gq h, fun hc => by rw [if_neg hc] at h; replace gq := gq.2 hc; exact ⟨fun hc => by rw [if_pos hc] at h; replace gq := gq.1 hc; exact n203_94 _ _ gq h, fun hc => by rw [if_neg (by rw [hc]; decide)] at h; replace gq := gq.2 hc; exact ⟨fun hc => by rw [if_pos hc] at h; replace gq := gq.1 hc; exact n203_101 _ _ _ _ gq h, fun hc => by rw [if_neg (fun z => z hc)] at h; replace gq := gq.2 hc; exact n203_94 _ _ gq h⟩⟩⟩)
set_option maxRecDepth 100000 in
theorem b203_0 {xs : Nat → Int32} {Ls : Nat} {Φ : Option xV → xH → Prop} (s : xS) (k : Int32) (g : ((((te_beginsEntry k) || (te_isRecall k)) = true → xW (xX0 xs Ls) p203 74 [(0, vr 11 225), (1, vi k), (2, vi (zb ((te_beginsEntry k) || (te_isRecall k)))), (4, vi (zb ((te_isRowKey k) && (!decide (k = 61)))))] [] (xhp s) Φ) ∧ (((te_beginsEntry k) || (te_isRecall k)) = false → ((((te_isFunction k) || (decide (k = 78))) = true → xW (xX0 xs Ls) p203 74 [(0, vr 11 225), (1, vi k), (2, vi (zb ((te_beginsEntry k) || (te_isRecall k)))), (4, vi (zb ((te_isRowKey k) && (!decide (k = 61)))))] [] (xhp s) Φ) ∧ (((te_isFunction k) || (decide (k = 78))) = false → ((((te_isRowKey k) && (!decide (k = 61))) = true → xW (xX0 xs Ls) p203 74 [(0, vr 11 225), (1, vi k), (2, vi (zb ((te_beginsEntry k) || (te_isRecall k)))), (4, vi (zb ((te_isRowKey k) && (!decide (k = 61)))))] [] (xhp s) Φ) ∧ (((te_isRowKey k) && (!decide (k = 61))) = false → Φ (some (vi 1)) (xhp s)))))))) : xW (xX0 xs Ls) p203 0 [(0, vr 11 225), (1, vi k)] [] (xhp s) Φ := by
  refine xW.call (y := 24) (as := [vi k]) (h0 := xhp s) (pc0 := 1) (len := 3) (L0 := [(0, vr 11 225), (1, vi k)]) (rest := []) 2 (fun _ _ _ _ => rfl) (m24 _ _ ?_)
  show xW (xX0 xs Ls) p203 4 [(0, vr 11 225), (1, vi k)] [vi (zb (te_beginsEntry k))] (xhp s) Φ
  suffices J : xW (xX0 xs Ls) p203 19 [(0, vr 11 225), (1, vi k)] [vi (zb ((te_beginsEntry k) || (te_isRecall k)))] (xhp s) Φ by
    refine xW.br (c := ¬ (zb (te_beginsEntry k)) = 0) (pc1 := 14) (L1 := [(0, vr 11 225), (1, vi k)]) (st1 := []) (h1 := xhp s) (pc2 := 7) (L2 := [(0, vr 11 225), (1, vi k)]) (st2 := []) (h2 := xhp s) 1 (fun _ _ _ _ => rfl) (fun hc => ?_) (fun hc => ?_)
    · have hc1 : (te_beginsEntry k) = true := (zb_ne0.mp hc)
      refine xW.seg (pc1 := 19) (L1 := [(0, vr 11 225), (1, vi k)]) (st1 := [vi 1]) (h1 := xhp s) 2 (fun _ _ _ _ => rfl) ?_
      refine xW.to (v := vi (zb ((te_beginsEntry k) || (te_isRecall k)))) (zb_t (by simp only [hc1, Bool.true_or, Bool.or_true, Bool.false_or, Bool.or_false, Bool.true_and, Bool.and_true, Bool.false_and, Bool.and_false, Bool.not_true, Bool.not_false, cond_true, cond_false])) ?_
      exact J
    · have hc1 : (te_beginsEntry k) = false := (zb_eq0.mp (Decidable.not_not.mp hc))
      refine xW.call (y := 27) (as := [vi k]) (h0 := xhp s) (pc0 := 8) (len := 3) (L0 := [(0, vr 11 225), (1, vi k)]) (rest := []) 2 (fun _ _ _ _ => rfl) (m27 _ _ ?_)
      show xW (xX0 xs Ls) p203 11 [(0, vr 11 225), (1, vi k)] [vi (zb (te_isRecall k))] (xhp s) Φ
      refine xW.br (c := (zb (te_isRecall k)) = 0) (pc1 := 18) (L1 := [(0, vr 11 225), (1, vi k)]) (st1 := []) (h1 := xhp s) (pc2 := 14) (L2 := [(0, vr 11 225), (1, vi k)]) (st2 := []) (h2 := xhp s) 1 (fun _ _ _ _ => rfl) (fun hc => ?_) (fun hc => ?_)
      · have hc2 : (te_isRecall k) = false := (zb_eq0.mp hc)
        refine xW.seg (pc1 := 19) (L1 := [(0, vr 11 225), (1, vi k)]) (st1 := [vi 0]) (h1 := xhp s) 1 (fun _ _ _ _ => rfl) ?_
        refine xW.to (v := vi (zb ((te_beginsEntry k) || (te_isRecall k)))) (zb_f (by simp only [hc1, hc2, Bool.true_or, Bool.or_true, Bool.false_or, Bool.or_false, Bool.true_and, Bool.and_true, Bool.false_and, Bool.and_false, Bool.not_true, Bool.not_false, cond_true, cond_false])) ?_
        exact J
      · have hc2 : (te_isRecall k) = true := (zb_ne0.mp hc)
        refine xW.seg (pc1 := 19) (L1 := [(0, vr 11 225), (1, vi k)]) (st1 := [vi 1]) (h1 := xhp s) 2 (fun _ _ _ _ => rfl) ?_
        refine xW.to (v := vi (zb ((te_beginsEntry k) || (te_isRecall k)))) (zb_t (by simp only [hc1, hc2, Bool.true_or, Bool.or_true, Bool.false_or, Bool.or_false, Bool.true_and, Bool.and_true, Bool.false_and, Bool.and_false, Bool.not_true, Bool.not_false, cond_true, cond_false])) ?_
        exact J
  refine xW.call (y := 26) (as := [vi k]) (h0 := xhp s) (pc0 := 21) (len := 3) (L0 := [(2, vi (zb ((te_beginsEntry k) || (te_isRecall k)))), (0, vr 11 225), (1, vi k)]) (rest := []) 3 (fun _ _ _ _ => rfl) (m26 _ _ ?_)
  show xW (xX0 xs Ls) p203 24 [(2, vi (zb ((te_beginsEntry k) || (te_isRecall k)))), (0, vr 11 225), (1, vi k)] [vi (zb (te_isFunction k))] (xhp s) Φ
  suffices J : xW (xX0 xs Ls) p203 38 [(2, vi (zb ((te_beginsEntry k) || (te_isRecall k)))), (0, vr 11 225), (1, vi k)] [vi (zb ((te_isFunction k) || (decide (k = 78))))] (xhp s) Φ by
    refine xW.br (c := ¬ (zb (te_isFunction k)) = 0) (pc1 := 33) (L1 := [(2, vi (zb ((te_beginsEntry k) || (te_isRecall k)))), (0, vr 11 225), (1, vi k)]) (st1 := []) (h1 := xhp s) (pc2 := 27) (L2 := [(2, vi (zb ((te_beginsEntry k) || (te_isRecall k)))), (0, vr 11 225), (1, vi k)]) (st2 := []) (h2 := xhp s) 1 (fun _ _ _ _ => rfl) (fun hc => ?_) (fun hc => ?_)
    · have hc3 : (te_isFunction k) = true := (zb_ne0.mp hc)
      refine xW.seg (pc1 := 38) (L1 := [(2, vi (zb ((te_beginsEntry k) || (te_isRecall k)))), (0, vr 11 225), (1, vi k)]) (st1 := [vi 1]) (h1 := xhp s) 2 (fun _ _ _ _ => rfl) ?_
      refine xW.to (v := vi (zb ((te_isFunction k) || (decide (k = 78))))) (zb_t (by simp only [hc3, Bool.true_or, Bool.or_true, Bool.false_or, Bool.or_false, Bool.true_and, Bool.and_true, Bool.false_and, Bool.and_false, Bool.not_true, Bool.not_false, cond_true, cond_false])) ?_
      exact J
    · have hc3 : (te_isFunction k) = false := (zb_eq0.mp (Decidable.not_not.mp hc))
      refine xW.br (c := ¬ k = 78) (pc1 := 37) (L1 := [(2, vi (zb ((te_beginsEntry k) || (te_isRecall k)))), (0, vr 11 225), (1, vi k)]) (st1 := []) (h1 := xhp s) (pc2 := 33) (L2 := [(2, vi (zb ((te_beginsEntry k) || (te_isRecall k)))), (0, vr 11 225), (1, vi k)]) (st2 := []) (h2 := xhp s) 3 (fun _ _ _ _ => rfl) (fun hc => ?_) (fun hc => ?_)
      · have hc4 : ¬ k = 78 := hc
        refine xW.seg (pc1 := 38) (L1 := [(2, vi (zb ((te_beginsEntry k) || (te_isRecall k)))), (0, vr 11 225), (1, vi k)]) (st1 := [vi 0]) (h1 := xhp s) 1 (fun _ _ _ _ => rfl) ?_
        refine xW.to (v := vi (zb ((te_isFunction k) || (decide (k = 78))))) (zb_f (by simp only [hc3, decide_eq_false hc4, Bool.true_or, Bool.or_true, Bool.false_or, Bool.or_false, Bool.true_and, Bool.and_true, Bool.false_and, Bool.and_false, Bool.not_true, Bool.not_false, cond_true, cond_false])) ?_
        exact J
      · have hc4 : k = 78 := (Decidable.not_not.mp hc)
        refine xW.seg (pc1 := 38) (L1 := [(2, vi (zb ((te_beginsEntry k) || (te_isRecall k)))), (0, vr 11 225), (1, vi k)]) (st1 := [vi 1]) (h1 := xhp s) 2 (fun _ _ _ _ => rfl) ?_
        refine xW.to (v := vi (zb ((te_isFunction k) || (decide (k = 78))))) (zb_t (by simp only [hc3, decide_eq_true hc4, Bool.true_or, Bool.or_true, Bool.false_or, Bool.or_false, Bool.true_and, Bool.and_true, Bool.false_and, Bool.and_false, Bool.not_true, Bool.not_false, cond_true, cond_false])) ?_
        exact J
  refine xW.call (y := 28) (as := [vi k]) (h0 := xhp s) (pc0 := 40) (len := 3) (L0 := [(3, vi (zb ((te_isFunction k) || (decide (k = 78))))), (2, vi (zb ((te_beginsEntry k) || (te_isRecall k)))), (0, vr 11 225), (1, vi k)]) (rest := []) 3 (fun _ _ _ _ => rfl) (m28 _ _ ?_)
  show xW (xX0 xs Ls) p203 43 [(3, vi (zb ((te_isFunction k) || (decide (k = 78))))), (2, vi (zb ((te_beginsEntry k) || (te_isRecall k)))), (0, vr 11 225), (1, vi k)] [vi (zb (te_isRowKey k))] (xhp s) Φ
  suffices J : xW (xX0 xs Ls) p203 57 [(3, vi (zb ((te_isFunction k) || (decide (k = 78))))), (2, vi (zb ((te_beginsEntry k) || (te_isRecall k)))), (0, vr 11 225), (1, vi k)] [vi (zb ((te_isRowKey k) && (!decide (k = 61))))] (xhp s) Φ by
    refine xW.br (c := (zb (te_isRowKey k)) = 0) (pc1 := 56) (L1 := [(3, vi (zb ((te_isFunction k) || (decide (k = 78))))), (2, vi (zb ((te_beginsEntry k) || (te_isRecall k)))), (0, vr 11 225), (1, vi k)]) (st1 := []) (h1 := xhp s) (pc2 := 46) (L2 := [(3, vi (zb ((te_isFunction k) || (decide (k = 78))))), (2, vi (zb ((te_beginsEntry k) || (te_isRecall k)))), (0, vr 11 225), (1, vi k)]) (st2 := []) (h2 := xhp s) 1 (fun _ _ _ _ => rfl) (fun hc => ?_) (fun hc => ?_)
    · have hc5 : (te_isRowKey k) = false := (zb_eq0.mp hc)
      refine xW.seg (pc1 := 57) (L1 := [(3, vi (zb ((te_isFunction k) || (decide (k = 78))))), (2, vi (zb ((te_beginsEntry k) || (te_isRecall k)))), (0, vr 11 225), (1, vi k)]) (st1 := [vi 0]) (h1 := xhp s) 1 (fun _ _ _ _ => rfl) ?_
      refine xW.to (v := vi (zb ((te_isRowKey k) && (!decide (k = 61))))) (zb_f (by simp only [hc5, Bool.true_or, Bool.or_true, Bool.false_or, Bool.or_false, Bool.true_and, Bool.and_true, Bool.false_and, Bool.and_false, Bool.not_true, Bool.not_false, cond_true, cond_false])) ?_
      exact J
    · have hc5 : (te_isRowKey k) = true := (zb_ne0.mp hc)
      refine xW.br (c := k = 61) (pc1 := 56) (L1 := [(3, vi (zb ((te_isFunction k) || (decide (k = 78))))), (2, vi (zb ((te_beginsEntry k) || (te_isRecall k)))), (0, vr 11 225), (1, vi k)]) (st1 := []) (h1 := xhp s) (pc2 := 52) (L2 := [(3, vi (zb ((te_isFunction k) || (decide (k = 78))))), (2, vi (zb ((te_beginsEntry k) || (te_isRecall k)))), (0, vr 11 225), (1, vi k)]) (st2 := []) (h2 := xhp s) 3 (fun _ _ _ _ => rfl) (fun hc => ?_) (fun hc => ?_)
      · have hc6 : k = 61 := hc
        refine xW.seg (pc1 := 57) (L1 := [(3, vi (zb ((te_isFunction k) || (decide (k = 78))))), (2, vi (zb ((te_beginsEntry k) || (te_isRecall k)))), (0, vr 11 225), (1, vi k)]) (st1 := [vi 0]) (h1 := xhp s) 1 (fun _ _ _ _ => rfl) ?_
        refine xW.to (v := vi (zb ((te_isRowKey k) && (!decide (k = 61))))) (zb_f (by simp only [hc5, decide_eq_true hc6, Bool.true_or, Bool.or_true, Bool.false_or, Bool.or_false, Bool.true_and, Bool.and_true, Bool.false_and, Bool.and_false, Bool.not_true, Bool.not_false, cond_true, cond_false])) ?_
        exact J
      · have hc6 : ¬ (k = 61) := hc
        refine xW.seg (pc1 := 57) (L1 := [(3, vi (zb ((te_isFunction k) || (decide (k = 78))))), (2, vi (zb ((te_beginsEntry k) || (te_isRecall k)))), (0, vr 11 225), (1, vi k)]) (st1 := [vi 1]) (h1 := xhp s) 2 (fun _ _ _ _ => rfl) ?_
        refine xW.to (v := vi (zb ((te_isRowKey k) && (!decide (k = 61))))) (zb_t (by simp only [hc5, decide_eq_false hc6, Bool.true_or, Bool.or_true, Bool.false_or, Bool.or_false, Bool.true_and, Bool.and_true, Bool.false_and, Bool.and_false, Bool.not_true, Bool.not_false, cond_true, cond_false])) ?_
        exact J
  refine xW.br (c := ¬ (zb ((te_beginsEntry k) || (te_isRecall k))) = 0) (pc1 := 74) (L1 := [(4, vi (zb ((te_isRowKey k) && (!decide (k = 61))))), (3, vi (zb ((te_isFunction k) || (decide (k = 78))))), (2, vi (zb ((te_beginsEntry k) || (te_isRecall k)))), (0, vr 11 225), (1, vi k)]) (st1 := []) (h1 := xhp s) (pc2 := 63) (L2 := [(4, vi (zb ((te_isRowKey k) && (!decide (k = 61))))), (3, vi (zb ((te_isFunction k) || (decide (k = 78))))), (2, vi (zb ((te_beginsEntry k) || (te_isRecall k)))), (0, vr 11 225), (1, vi k)]) (st2 := []) (h2 := xhp s) 3 (fun _ _ _ _ => rfl) (fun hc => ?_) (fun hc => ?_)
  · replace g := g.1 (zb_ne0.mp hc)
    exact xW.locs (L := [(0, vr 11 225), (1, vi k), (2, vi (zb ((te_beginsEntry k) || (te_isRecall k)))), (4, vi (zb ((te_isRowKey k) && (!decide (k = 61)))))]) ⟨rfl, rfl, rfl, rfl, trivial⟩ rfl g
  · replace g := g.2 (zb_eq0.mp (Decidable.not_not.mp hc))
    refine xW.br (c := ¬ (zb ((te_isFunction k) || (decide (k = 78)))) = 0) (pc1 := 74) (L1 := [(4, vi (zb ((te_isRowKey k) && (!decide (k = 61))))), (3, vi (zb ((te_isFunction k) || (decide (k = 78))))), (2, vi (zb ((te_beginsEntry k) || (te_isRecall k)))), (0, vr 11 225), (1, vi k)]) (st1 := []) (h1 := xhp s) (pc2 := 67) (L2 := [(4, vi (zb ((te_isRowKey k) && (!decide (k = 61))))), (3, vi (zb ((te_isFunction k) || (decide (k = 78))))), (2, vi (zb ((te_beginsEntry k) || (te_isRecall k)))), (0, vr 11 225), (1, vi k)]) (st2 := []) (h2 := xhp s) 2 (fun _ _ _ _ => rfl) (fun hc => ?_) (fun hc => ?_)
    · replace g := g.1 (zb_ne0.mp hc)
      exact xW.locs (L := [(0, vr 11 225), (1, vi k), (2, vi (zb ((te_beginsEntry k) || (te_isRecall k)))), (4, vi (zb ((te_isRowKey k) && (!decide (k = 61)))))]) ⟨rfl, rfl, rfl, rfl, trivial⟩ rfl g
    · replace g := g.2 (zb_eq0.mp (Decidable.not_not.mp hc))
      refine xW.br (c := ¬ (zb ((te_isRowKey k) && (!decide (k = 61)))) = 0) (pc1 := 74) (L1 := [(4, vi (zb ((te_isRowKey k) && (!decide (k = 61))))), (3, vi (zb ((te_isFunction k) || (decide (k = 78))))), (2, vi (zb ((te_beginsEntry k) || (te_isRecall k)))), (0, vr 11 225), (1, vi k)]) (st1 := []) (h1 := xhp s) (pc2 := 72) (L2 := [(4, vi (zb ((te_isRowKey k) && (!decide (k = 61))))), (3, vi (zb ((te_isFunction k) || (decide (k = 78))))), (2, vi (zb ((te_beginsEntry k) || (te_isRecall k)))), (0, vr 11 225), (1, vi k)]) (st2 := []) (h2 := xhp s) 2 (fun _ _ _ _ => rfl) (fun hc => ?_) (fun hc => ?_)
      · replace g := g.1 (zb_ne0.mp hc)
        exact xW.locs (L := [(0, vr 11 225), (1, vi k), (2, vi (zb ((te_beginsEntry k) || (te_isRecall k)))), (4, vi (zb ((te_isRowKey k) && (!decide (k = 61)))))]) ⟨rfl, rfl, rfl, rfl, trivial⟩ rfl g
      · replace g := g.2 (zb_eq0.mp (Decidable.not_not.mp hc))
        exact xW.ret (v0 := some (vi 1)) (h1 := xhp s) 2 (fun _ _ _ _ => rfl) g
noncomputable def tr_take_d (s : xS) (k : Int32) : Int32 × xS := (if ((te_beginsEntry k) || (te_isRecall k)) = true then (tr_take_74 s k (zb ((te_beginsEntry k) || (te_isRecall k))) (zb ((te_isRowKey k) && (!decide (k = 61))))) else (if ((te_isFunction k) || (decide (k = 78))) = true then (tr_take_74 s k (zb ((te_beginsEntry k) || (te_isRecall k))) (zb ((te_isRowKey k) && (!decide (k = 61))))) else (if ((te_isRowKey k) && (!decide (k = 61))) = true then (tr_take_74 s k (zb ((te_beginsEntry k) || (te_isRecall k))) (zb ((te_isRowKey k) && (!decide (k = 61))))) else (1, s))))
noncomputable def tr_take : xS → Int32 → Int32 × xS := Classical.choose (⟨tr_take_d, rfl⟩ : ∃ f, f = tr_take_d)
set_option maxRecDepth 100000 in
theorem tr_take_eq : tr_take = tr_take_d := Classical.choose_spec (⟨tr_take_d, rfl⟩ : ∃ f, f = tr_take_d)
def tr_take_ok (s : xS) (k : Int32) : Prop := ((((te_beginsEntry k) || (te_isRecall k)) = true → (tr_take_74_ok s k (zb ((te_beginsEntry k) || (te_isRecall k))) (zb ((te_isRowKey k) && (!decide (k = 61)))))) ∧ (((te_beginsEntry k) || (te_isRecall k)) = false → ((((te_isFunction k) || (decide (k = 78))) = true → (tr_take_74_ok s k (zb ((te_beginsEntry k) || (te_isRecall k))) (zb ((te_isRowKey k) && (!decide (k = 61)))))) ∧ (((te_isFunction k) || (decide (k = 78))) = false → (((te_isRowKey k) && (!decide (k = 61))) = true → (tr_take_74_ok s k (zb ((te_beginsEntry k) || (te_isRecall k))) (zb ((te_isRowKey k) && (!decide (k = 61))))))))))
set_option maxRecDepth 100000 in
theorem m203 {xs : Nat → Int32} {Ls : Nat} {Ψ : xO → xH → Prop} (s : xS) (k : Int32) (gq : tr_take_ok s k) (h : Ψ (.inl (some (vi (tr_take s k).1))) (xhp (tr_take s k).2)) : xM (xX0 xs Ls) 203 [vr 11 225, vi k] (xhp s) Ψ := by
  rw [tr_take_eq] at h
  unfold tr_take_d at h
  unfold tr_take_ok at gq
  exact xM.of (P := p203) rfl rfl rfl (b203_0 s k (⟨fun hc => by rw [if_pos hc] at h; replace gq := gq.1 hc; exact n203_74 _ _ _ _ gq h, fun hc => by rw [if_neg (by rw [hc]; decide)] at h; replace gq := gq.2 hc; exact ⟨fun hc => by rw [if_pos hc] at h; replace gq := gq.1 hc; exact n203_74 _ _ _ _ gq h, fun hc => by rw [if_neg (by rw [hc]; decide)] at h; replace gq := gq.2 hc; exact ⟨fun hc => by rw [if_pos hc] at h; replace gq := gq hc; exact n203_74 _ _ _ _ gq h, fun hc => by rw [if_neg (by rw [hc]; decide)] at h; exact (by (try dsimp only at h); exact h)⟩⟩⟩))
/-! tr_follow -/
theorem b202_49 {xs : Nat → Int32} {Ls : Nat} {Φ : Option xV → xH → Prop} (s : xS) (x2 : Int32) (x3 : Int32) (g : ((x2 ≤ x3 → ((¬ (gI s 228 2) = 2 → Φ (some (vi 5)) (xhp s)) ∧ ((gI s 228 2) = 2 → ((ro_hasBracket_ok s 228 229) ∧ (((ro_hasBracket s 228 229) = false → ((tr_close_ok s 0) ∧ Φ (some (vi 0)) (xhp (tr_close s 0)))) ∧ ((ro_hasBracket s 228 229) = true → Φ (some (vi 5)) (xhp s))))))) ∧ (¬ (x2 ≤ x3) → ((vp_in x3 40) ∧ ((tr_take_ok s (gI s 227 x3.toNatClampNeg)) ∧ (((tr_take s (gI s 227 x3.toNatClampNeg)).1 = 0 → xW (xX0 xs Ls) p202 49 [(0, vr 11 225), (2, vi x2), (3, vi (x3 + 1))] [] (xhp ((tr_take s (gI s 227 x3.toNatClampNeg)).2)) Φ) ∧ (¬ ((tr_take s (gI s 227 x3.toNatClampNeg)).1 = 0) → Φ (some (vi ((tr_take s (gI s 227 x3.toNatClampNeg)).1))) (xhp ((tr_take s (gI s 227 x3.toNatClampNeg)).2))))))))) : xW (xX0 xs Ls) p202 49 [(0, vr 11 225), (2, vi x2), (3, vi x3)] [] (xhp s) Φ := by
  refine xW.br (c := x2 ≤ x3) (pc1 := 80) (L1 := [(0, vr 11 225), (2, vi x2), (3, vi x3)]) (st1 := []) (h1 := xhp s) (pc2 := 54) (L2 := [(0, vr 11 225), (2, vi x2), (3, vi x3)]) (st2 := []) (h2 := xhp s) 3 (fun _ _ _ _ => rfl) (fun hc => ?_) (fun hc => ?_)
  · replace g := g.1 hc
    refine xW.br (c := ¬ (gI s 228 2) = 2) (pc1 := 101) (L1 := [(0, vr 11 225), (2, vi x2), (3, vi x3)]) (st1 := []) (h1 := xhp s) (pc2 := 91) (L2 := [(0, vr 11 225), (2, vi x2), (3, vi x3)]) (st2 := []) (h2 := xhp s) 5 (fun _ _ _ _ => rfl) (fun hc => ?_) (fun hc => ?_)
    · replace g := g.1 hc
      exact xW.ret (v0 := some (vi 5)) (h1 := xhp s) 2 (fun _ _ _ _ => rfl) g
    · replace g := g.2 (Decidable.not_not.mp hc)
      refine xW.call (y := 187) (as := [vr 3 228]) (h0 := xhp s) (pc0 := 95) (len := 3) (L0 := [(0, vr 11 225), (2, vi x2), (3, vi x3)]) (rest := []) 3 (fun _ _ _ _ => rfl) (m187 _ _ _ rfl rfl g.1 ?_)
      show xW (xX0 xs Ls) p202 98 [(0, vr 11 225), (2, vi x2), (3, vi x3)] [vi (zb (ro_hasBracket s 228 229))] (xhp s) Φ
      replace g := g.2
      refine xW.br (c := (zb (ro_hasBracket s 228 229)) = 0) (pc1 := 103) (L1 := [(0, vr 11 225), (2, vi x2), (3, vi x3)]) (st1 := []) (h1 := xhp s) (pc2 := 101) (L2 := [(0, vr 11 225), (2, vi x2), (3, vi x3)]) (st2 := []) (h2 := xhp s) 1 (fun _ _ _ _ => rfl) (fun hc => ?_) (fun hc => ?_)
      · replace g := g.1 (zb_eq0.mp hc)
        refine xW.call (y := 206) (as := [vr 11 225, vi 0]) (h0 := xhp s) (pc0 := 105) (len := 3) (L0 := [(0, vr 11 225), (2, vi x2), (3, vi x3)]) (rest := []) 3 (fun _ _ _ _ => rfl) (m206 _ _ g.1 ?_)
        show xW (xX0 xs Ls) p202 108 [(0, vr 11 225), (2, vi x2), (3, vi x3)] [] (xhp (tr_close s 0)) Φ
        replace g := g.2
        exact xW.ret (v0 := some (vi 0)) (h1 := xhp (tr_close s 0)) 2 (fun _ _ _ _ => rfl) g
      · replace g := g.2 (zb_ne0.mp hc)
        exact xW.ret (v0 := some (vi 5)) (h1 := xhp s) 2 (fun _ _ _ _ => rfl) g
  · replace g := g.2 hc
    refine xW.side (c := vp_in x3 40) (pc1 := 61) (L1 := [(0, vr 11 225), (2, vi x2), (3, vi x3)]) (st1 := [vi (gI s 227 x3.toNatClampNeg), vr 11 225]) (h1 := xhp s) 5 (fun _ _ _ _ => rfl) g.1 ?_
    replace g := g.2
    refine xW.call (y := 203) (as := [vr 11 225, vi (gI s 227 x3.toNatClampNeg)]) (h0 := xhp s) (pc0 := 61) (len := 3) (L0 := [(0, vr 11 225), (2, vi x2), (3, vi x3)]) (rest := []) 1 (fun _ _ _ _ => rfl) (m203 _ _ g.1 ?_)
    show xW (xX0 xs Ls) p202 64 [(0, vr 11 225), (2, vi x2), (3, vi x3)] [vi ((tr_take s (gI s 227 x3.toNatClampNeg)).1)] (xhp ((tr_take s (gI s 227 x3.toNatClampNeg)).2)) Φ
    replace g := g.2
    refine xW.br (c := (tr_take s (gI s 227 x3.toNatClampNeg)).1 = 0) (pc1 := 74) (L1 := [(4, vi ((tr_take s (gI s 227 x3.toNatClampNeg)).1)), (0, vr 11 225), (2, vi x2), (3, vi x3)]) (st1 := []) (h1 := xhp ((tr_take s (gI s 227 x3.toNatClampNeg)).2)) (pc2 := 71) (L2 := [(4, vi ((tr_take s (gI s 227 x3.toNatClampNeg)).1)), (0, vr 11 225), (2, vi x2), (3, vi x3)]) (st2 := []) (h2 := xhp ((tr_take s (gI s 227 x3.toNatClampNeg)).2)) 3 (fun _ _ _ _ => rfl) (fun hc => ?_) (fun hc => ?_)
    · replace g := g.1 hc
      refine xW.seg (pc1 := 49) (L1 := [(3, vi (x3 + 1)), (4, vi ((tr_take s (gI s 227 x3.toNatClampNeg)).1)), (0, vr 11 225), (2, vi x2)]) (st1 := []) (h1 := xhp ((tr_take s (gI s 227 x3.toNatClampNeg)).2)) 2 (fun _ _ _ _ => rfl) ?_
      exact xW.locs (L := [(0, vr 11 225), (2, vi x2), (3, vi (x3 + 1))]) ⟨rfl, rfl, rfl, trivial⟩ rfl g
    · replace g := g.2 hc
      exact xW.ret (v0 := some (vi ((tr_take s (gI s 227 x3.toNatClampNeg)).1))) (h1 := xhp ((tr_take s (gI s 227 x3.toNatClampNeg)).2)) 2 (fun _ _ _ _ => rfl) g
noncomputable def tr_follow_49 : Nat → xS → Int32 → Int32 → Int32 × xS
  | 0, s, _, _ => (0, s)
  | n + 1, s, x2, x3 => (if x2 ≤ x3 then (if ¬ (gI s 228 2) = 2 then (5, s) else (if (ro_hasBracket s 228 229) = false then (0, (tr_close s 0)) else (5, s))) else (if (tr_take s (gI s 227 x3.toNatClampNeg)).1 = 0 then (tr_follow_49 n ((tr_take s (gI s 227 x3.toNatClampNeg)).2) x2 (x3 + 1)) else (tr_take s (gI s 227 x3.toNatClampNeg))))
def tr_follow_49_ok : Nat → xS → Int32 → Int32 → Prop
  | 0, _, _, _ => False
  | n + 1, s, x2, x3 => ((x2 ≤ x3 → ((gI s 228 2) = 2 → ((ro_hasBracket_ok s 228 229) ∧ ((ro_hasBracket s 228 229) = false → (tr_close_ok s 0))))) ∧ (¬ (x2 ≤ x3) → ((vp_in x3 40) ∧ ((tr_take_ok s (gI s 227 x3.toNatClampNeg)) ∧ ((tr_take s (gI s 227 x3.toNatClampNeg)).1 = 0 → (tr_follow_49_ok n ((tr_take s (gI s 227 x3.toNatClampNeg)).2) x2 (x3 + 1)))))))
set_option maxRecDepth 100000 in
theorem n202_49 {xs : Nat → Int32} {Ls : Nat} {Φ : Option xV → xH → Prop} : ∀ (n : Nat) (s : xS) (x2 : Int32) (x3 : Int32), tr_follow_49_ok n s x2 x3 → Φ (some (vi (tr_follow_49 n s x2 x3).1)) (xhp (tr_follow_49 n s x2 x3).2) → xW (xX0 xs Ls) p202 49 [(0, vr 11 225), (2, vi x2), (3, vi x3)] [] (xhp s) Φ := by
  intro n
  induction n with
  | zero => intro s _ _ gq; exact gq.elim
  | succ n ih =>
    intro s x2 x3 gq h
    unfold tr_follow_49_ok at gq
    unfold tr_follow_49 at h
    exact b202_49 s x2 x3 (⟨fun hc => by rw [if_pos hc] at h; replace gq := gq.1 hc; exact ⟨fun hc => by rw [if_pos hc] at h; exact (by (try dsimp only at h); exact h), fun hc => by rw [if_neg (fun z => z hc)] at h; replace gq := gq hc; exact ⟨gq.1, by replace gq := gq.2; exact ⟨fun hc => by rw [if_pos hc] at h; replace gq := gq hc; exact ⟨gq, (by (try dsimp only at h); exact h)⟩, fun hc => by rw [if_neg (by rw [hc]; decide)] at h; exact (by (try dsimp only at h); exact h)⟩⟩⟩, fun hc => by rw [if_neg hc] at h; replace gq := gq.2 hc; exact ⟨gq.1, by replace gq := gq.2; exact ⟨gq.1, by replace gq := gq.2; exact ⟨fun hc => by rw [if_pos hc] at h; replace gq := gq hc; exact ih _ _ _ gq h, fun hc => by rw [if_neg hc] at h; exact (by (try dsimp only at h); exact h)⟩⟩⟩⟩)
set_option maxRecDepth 100000 in
theorem b202_28 {xs : Nat → Int32} {Ls : Nat} {Φ : Option xV → xH → Prop} (s : xS) (y0 : Int32) (g : xW (xX0 xs Ls) p202 49 [(0, vr 11 225), (2, vi (if y0 = 0 then (gI s 225 2) else ((gI s 225 2) - 1))), (3, vi 0)] [] (xhp s) Φ) : xW (xX0 xs Ls) p202 28 [(0, vr 11 225)] [vi y0] (xhp s) Φ := by
  refine xW.seg (pc1 := 30) (L1 := [(1, vi y0), (0, vr 11 225)]) (st1 := [vi y0]) (h1 := xhp s) 2 (fun _ _ _ _ => rfl) ?_
  suffices J : xW (xX0 xs Ls) p202 46 [(1, vi y0), (0, vr 11 225)] [vi (if y0 = 0 then (gI s 225 2) else ((gI s 225 2) - 1))] (xhp s) Φ by
    refine xW.br (c := y0 = 0) (pc1 := 42) (L1 := [(1, vi y0), (0, vr 11 225)]) (st1 := []) (h1 := xhp s) (pc2 := 33) (L2 := [(1, vi y0), (0, vr 11 225)]) (st2 := []) (h2 := xhp s) 1 (fun _ _ _ _ => rfl) (fun hc => ?_) (fun hc => ?_)
    · have hc1 : y0 = 0 := hc
      refine xW.seg (pc1 := 46) (L1 := [(1, vi y0), (0, vr 11 225)]) (st1 := [vi (gI s 225 2)]) (h1 := xhp s) 2 (fun _ _ _ _ => rfl) ?_
      refine xW.to (v := vi (if y0 = 0 then (gI s 225 2) else ((gI s 225 2) - 1))) ((congrArg vi (if_pos hc1)).symm) ?_
      exact J
    · have hc1 : ¬ (y0 = 0) := hc
      refine xW.seg (pc1 := 46) (L1 := [(1, vi y0), (0, vr 11 225)]) (st1 := [vi ((gI s 225 2) - 1)]) (h1 := xhp s) 5 (fun _ _ _ _ => rfl) ?_
      refine xW.to (v := vi (if y0 = 0 then (gI s 225 2) else ((gI s 225 2) - 1))) ((congrArg vi (if_neg hc1)).symm) ?_
      exact J
  refine xW.seg (pc1 := 49) (L1 := [(3, vi 0), (2, vi (if y0 = 0 then (gI s 225 2) else ((gI s 225 2) - 1))), (1, vi y0), (0, vr 11 225)]) (st1 := []) (h1 := xhp s) 3 (fun _ _ _ _ => rfl) ?_
  exact xW.locs (L := [(0, vr 11 225), (2, vi (if y0 = 0 then (gI s 225 2) else ((gI s 225 2) - 1))), (3, vi 0)]) ⟨rfl, rfl, rfl, trivial⟩ rfl g
noncomputable def tr_follow_28_d (s : xS) (y0 : Int32) : Int32 × xS := (tr_follow_49 xfu s (if y0 = 0 then (gI s 225 2) else ((gI s 225 2) - 1)) 0)
noncomputable def tr_follow_28 : xS → Int32 → Int32 × xS := Classical.choose (⟨tr_follow_28_d, rfl⟩ : ∃ f, f = tr_follow_28_d)
set_option maxRecDepth 100000 in
theorem tr_follow_28_eq : tr_follow_28 = tr_follow_28_d := Classical.choose_spec (⟨tr_follow_28_d, rfl⟩ : ∃ f, f = tr_follow_28_d)
def tr_follow_28_ok (s : xS) (y0 : Int32) : Prop := (tr_follow_49_ok xfu s (if y0 = 0 then (gI s 225 2) else ((gI s 225 2) - 1)) 0)
set_option maxRecDepth 100000 in
theorem n202_28 {xs : Nat → Int32} {Ls : Nat} {Φ : Option xV → xH → Prop} (s : xS) (y0 : Int32) (gq : tr_follow_28_ok s y0) (h : Φ (some (vi (tr_follow_28 s y0).1)) (xhp (tr_follow_28 s y0).2)) : xW (xX0 xs Ls) p202 28 [(0, vr 11 225)] [vi y0] (xhp s) Φ := by
  rw [tr_follow_28_eq] at h
  unfold tr_follow_28_d at h
  unfold tr_follow_28_ok at gq
  exact b202_28 s y0 (n202_49 _ _ _ _ gq h)
set_option maxRecDepth 100000 in
theorem b202_27 {xs : Nat → Int32} {Ls : Nat} {Φ : Option xV → xH → Prop} (s : xS) (g : xW (xX0 xs Ls) p202 28 [(0, vr 11 225)] [vi 0] (xhp s) Φ) : xW (xX0 xs Ls) p202 27 [(0, vr 11 225)] [] (xhp s) Φ := by
  refine xW.seg (pc1 := 28) (L1 := [(0, vr 11 225)]) (st1 := [vi 0]) (h1 := xhp s) 1 (fun _ _ _ _ => rfl) ?_
  exact g
noncomputable def tr_follow_27_d (s : xS) : Int32 × xS := (tr_follow_28 s 0)
noncomputable def tr_follow_27 : xS → Int32 × xS := Classical.choose (⟨tr_follow_27_d, rfl⟩ : ∃ f, f = tr_follow_27_d)
set_option maxRecDepth 100000 in
theorem tr_follow_27_eq : tr_follow_27 = tr_follow_27_d := Classical.choose_spec (⟨tr_follow_27_d, rfl⟩ : ∃ f, f = tr_follow_27_d)
def tr_follow_27_ok (s : xS) : Prop := (tr_follow_28_ok s 0)
set_option maxRecDepth 100000 in
theorem n202_27 {xs : Nat → Int32} {Ls : Nat} {Φ : Option xV → xH → Prop} (s : xS) (gq : tr_follow_27_ok s) (h : Φ (some (vi (tr_follow_27 s).1)) (xhp (tr_follow_27 s).2)) : xW (xX0 xs Ls) p202 27 [(0, vr 11 225)] [] (xhp s) Φ := by
  rw [tr_follow_27_eq] at h
  unfold tr_follow_27_d at h
  unfold tr_follow_27_ok at gq
  exact b202_27 s (n202_28 _ _ gq h)
set_option maxRecDepth 100000 in
theorem b202_0 {xs : Nat → Int32} {Ls : Nat} {Φ : Option xV → xH → Prop} (s : xS) (g : (((gI s 225 2) ≤ 0 → xW (xX0 xs Ls) p202 27 [(0, vr 11 225)] [] (xhp s) Φ) ∧ (¬ ((gI s 225 2) ≤ 0) → ((vp_in ((gI s 225 2) - 1) 40) ∧ xW (xX0 xs Ls) p202 49 [(0, vr 11 225), (2, vi (if (decide ((gI s 227 (((gI s 225 2) - 1).toNatClampNeg)) = 61)) = true then ((gI s 225 2) - 1) else (gI s 225 2))), (3, vi 0)] [] (xhp s) Φ)))) : xW (xX0 xs Ls) p202 0 [(0, vr 11 225)] [] (xhp s) Φ := by
  refine xW.br (c := (gI s 225 2) ≤ 0) (pc1 := 27) (L1 := [(0, vr 11 225)]) (st1 := []) (h1 := xhp s) (pc2 := 7) (L2 := [(0, vr 11 225)]) (st2 := []) (h2 := xhp s) 3 (fun _ _ _ _ => rfl) (fun hc => ?_) (fun hc => ?_)
  · replace g := g.1 hc
    exact g
  · replace g := g.2 hc
    refine xW.side (c := vp_in ((gI s 225 2) - 1) 40) (pc1 := 18) (L1 := [(0, vr 11 225)]) (st1 := [vi (gI s 227 (((gI s 225 2) - 1).toNatClampNeg))]) (h1 := xhp s) 7 (fun _ _ _ _ => rfl) g.1 ?_
    replace g := g.2
    refine xW.seg (pc1 := 20) (L1 := [(0, vr 11 225)]) (st1 := [vi 61, vi (gI s 227 (((gI s 225 2) - 1).toNatClampNeg))]) (h1 := xhp s) 1 (fun _ _ _ _ => rfl) ?_
    suffices J : xW (xX0 xs Ls) p202 28 [(0, vr 11 225)] [vi (zb (decide ((gI s 227 (((gI s 225 2) - 1).toNatClampNeg)) = 61)))] (xhp s) Φ by
      refine xW.br (c := ¬ (gI s 227 (((gI s 225 2) - 1).toNatClampNeg)) = 61) (pc1 := 27) (L1 := [(0, vr 11 225)]) (st1 := []) (h1 := xhp s) (pc2 := 23) (L2 := [(0, vr 11 225)]) (st2 := []) (h2 := xhp s) 1 (fun _ _ _ _ => rfl) (fun hc => ?_) (fun hc => ?_)
      · have hc1 : ¬ (gI s 227 (((gI s 225 2) - 1).toNatClampNeg)) = 61 := hc
        refine xW.seg (pc1 := 28) (L1 := [(0, vr 11 225)]) (st1 := [vi 0]) (h1 := xhp s) 1 (fun _ _ _ _ => rfl) ?_
        refine xW.to (v := vi (zb (decide ((gI s 227 (((gI s 225 2) - 1).toNatClampNeg)) = 61)))) (zb_f (by simp only [decide_eq_false hc1, Bool.true_or, Bool.or_true, Bool.false_or, Bool.or_false, Bool.true_and, Bool.and_true, Bool.false_and, Bool.and_false, Bool.not_true, Bool.not_false, cond_true, cond_false])) ?_
        exact J
      · have hc1 : (gI s 227 (((gI s 225 2) - 1).toNatClampNeg)) = 61 := (Decidable.not_not.mp hc)
        refine xW.seg (pc1 := 28) (L1 := [(0, vr 11 225)]) (st1 := [vi 1]) (h1 := xhp s) 2 (fun _ _ _ _ => rfl) ?_
        refine xW.to (v := vi (zb (decide ((gI s 227 (((gI s 225 2) - 1).toNatClampNeg)) = 61)))) (zb_t (by simp only [decide_eq_true hc1, Bool.true_or, Bool.or_true, Bool.false_or, Bool.or_false, Bool.true_and, Bool.and_true, Bool.false_and, Bool.and_false, Bool.not_true, Bool.not_false, cond_true, cond_false])) ?_
        exact J
    refine xW.seg (pc1 := 30) (L1 := [(1, vi (zb (decide ((gI s 227 (((gI s 225 2) - 1).toNatClampNeg)) = 61)))), (0, vr 11 225)]) (st1 := [vi (zb (decide ((gI s 227 (((gI s 225 2) - 1).toNatClampNeg)) = 61)))]) (h1 := xhp s) 2 (fun _ _ _ _ => rfl) ?_
    suffices J : xW (xX0 xs Ls) p202 46 [(1, vi (zb (decide ((gI s 227 (((gI s 225 2) - 1).toNatClampNeg)) = 61)))), (0, vr 11 225)] [vi (if (decide ((gI s 227 (((gI s 225 2) - 1).toNatClampNeg)) = 61)) = true then ((gI s 225 2) - 1) else (gI s 225 2))] (xhp s) Φ by
      refine xW.br (c := (zb (decide ((gI s 227 (((gI s 225 2) - 1).toNatClampNeg)) = 61))) = 0) (pc1 := 42) (L1 := [(1, vi (zb (decide ((gI s 227 (((gI s 225 2) - 1).toNatClampNeg)) = 61)))), (0, vr 11 225)]) (st1 := []) (h1 := xhp s) (pc2 := 33) (L2 := [(1, vi (zb (decide ((gI s 227 (((gI s 225 2) - 1).toNatClampNeg)) = 61)))), (0, vr 11 225)]) (st2 := []) (h2 := xhp s) 1 (fun _ _ _ _ => rfl) (fun hc => ?_) (fun hc => ?_)
      · have hc2 : (decide ((gI s 227 (((gI s 225 2) - 1).toNatClampNeg)) = 61)) = false := (zb_eq0.mp hc)
        refine xW.seg (pc1 := 46) (L1 := [(1, vi (zb (decide ((gI s 227 (((gI s 225 2) - 1).toNatClampNeg)) = 61)))), (0, vr 11 225)]) (st1 := [vi (gI s 225 2)]) (h1 := xhp s) 2 (fun _ _ _ _ => rfl) ?_
        refine xW.to (v := vi (if (decide ((gI s 227 (((gI s 225 2) - 1).toNatClampNeg)) = 61)) = true then ((gI s 225 2) - 1) else (gI s 225 2))) ((congrArg vi (if_neg (by rw [hc2]; decide : ¬ ((decide ((gI s 227 (((gI s 225 2) - 1).toNatClampNeg)) = 61)) = true)))).symm) ?_
        exact J
      · have hc2 : (decide ((gI s 227 (((gI s 225 2) - 1).toNatClampNeg)) = 61)) = true := (zb_ne0.mp hc)
        refine xW.seg (pc1 := 46) (L1 := [(1, vi (zb (decide ((gI s 227 (((gI s 225 2) - 1).toNatClampNeg)) = 61)))), (0, vr 11 225)]) (st1 := [vi ((gI s 225 2) - 1)]) (h1 := xhp s) 5 (fun _ _ _ _ => rfl) ?_
        refine xW.to (v := vi (if (decide ((gI s 227 (((gI s 225 2) - 1).toNatClampNeg)) = 61)) = true then ((gI s 225 2) - 1) else (gI s 225 2))) ((congrArg vi (if_pos hc2)).symm) ?_
        exact J
    refine xW.seg (pc1 := 49) (L1 := [(3, vi 0), (2, vi (if (decide ((gI s 227 (((gI s 225 2) - 1).toNatClampNeg)) = 61)) = true then ((gI s 225 2) - 1) else (gI s 225 2))), (1, vi (zb (decide ((gI s 227 (((gI s 225 2) - 1).toNatClampNeg)) = 61)))), (0, vr 11 225)]) (st1 := []) (h1 := xhp s) 3 (fun _ _ _ _ => rfl) ?_
    exact xW.locs (L := [(0, vr 11 225), (2, vi (if (decide ((gI s 227 (((gI s 225 2) - 1).toNatClampNeg)) = 61)) = true then ((gI s 225 2) - 1) else (gI s 225 2))), (3, vi 0)]) ⟨rfl, rfl, rfl, trivial⟩ rfl g
noncomputable def tr_follow_d (s : xS) : Int32 × xS := (if (gI s 225 2) ≤ 0 then (tr_follow_27 s) else (tr_follow_49 xfu s (if (decide ((gI s 227 (((gI s 225 2) - 1).toNatClampNeg)) = 61)) = true then ((gI s 225 2) - 1) else (gI s 225 2)) 0))
noncomputable def tr_follow : xS → Int32 × xS := Classical.choose (⟨tr_follow_d, rfl⟩ : ∃ f, f = tr_follow_d)
set_option maxRecDepth 100000 in
theorem tr_follow_eq : tr_follow = tr_follow_d := Classical.choose_spec (⟨tr_follow_d, rfl⟩ : ∃ f, f = tr_follow_d)
def tr_follow_ok (s : xS) : Prop := (((gI s 225 2) ≤ 0 → (tr_follow_27_ok s)) ∧ (¬ ((gI s 225 2) ≤ 0) → ((vp_in ((gI s 225 2) - 1) 40) ∧ (tr_follow_49_ok xfu s (if (decide ((gI s 227 (((gI s 225 2) - 1).toNatClampNeg)) = 61)) = true then ((gI s 225 2) - 1) else (gI s 225 2)) 0))))
set_option maxRecDepth 100000 in
theorem m202 {xs : Nat → Int32} {Ls : Nat} {Ψ : xO → xH → Prop} (s : xS) (gq : tr_follow_ok s) (h : Ψ (.inl (some (vi (tr_follow s).1))) (xhp (tr_follow s).2)) : xM (xX0 xs Ls) 202 [vr 11 225] (xhp s) Ψ := by
  rw [tr_follow_eq] at h
  unfold tr_follow_d at h
  unfold tr_follow_ok at gq
  exact xM.of (P := p202) rfl rfl rfl (b202_0 s (⟨fun hc => by rw [if_pos hc] at h; replace gq := gq.1 hc; exact n202_27 _ gq h, fun hc => by rw [if_neg hc] at h; replace gq := gq.2 hc; exact ⟨gq.1, by replace gq := gq.2; exact n202_49 _ _ _ _ gq h⟩⟩))
/-! tr_work -/
theorem b201_0 {xs : Nat → Int32} {Ls : Nat} {Φ : Option xV → xH → Prop} (s : xS) (g : ((tr_follow_ok (sI (sI (ro_clear (sI s 225 1 0) 228) 225 5 0) 225 6 0)) ∧ (((tr_follow (sI (sI (ro_clear (sI s 225 1 0) 228) 225 5 0) 225 6 0)).1 = 0 → Φ (some (vi (gI ((tr_follow (sI (sI (ro_clear (sI s 225 1 0) 228) 225 5 0) 225 6 0)).2) 225 1))) (xhp ((tr_follow (sI (sI (ro_clear (sI s 225 1 0) 228) 225 5 0) 225 6 0)).2))) ∧ (¬ ((tr_follow (sI (sI (ro_clear (sI s 225 1 0) 228) 225 5 0) 225 6 0)).1 = 0) → Φ (some (vi (-(tr_follow (sI (sI (ro_clear (sI s 225 1 0) 228) 225 5 0) 225 6 0)).1))) (xhp (sI ((tr_follow (sI (sI (ro_clear (sI s 225 1 0) 228) 225 5 0) 225 6 0)).2) 225 1 0)))))) : xW (xX0 xs Ls) p201 0 [(0, vr 11 225)] [] (xhp s) Φ := by
  refine xW.call (y := 185) (as := [vr 3 228]) (h0 := xhp (sI s 225 1 0)) (pc0 := 9) (len := 3) (L0 := [(0, vr 11 225)]) (rest := []) 6 (fun _ _ _ _ => rfl) (m185 _ _ ?_)
  show xW (xX0 xs Ls) p201 12 [(0, vr 11 225)] [] (xhp (ro_clear (sI s 225 1 0) 228)) Φ
  refine xW.side (c := (0 : Int32) = 0 ∨ (0 : Int32) = 1) (pc1 := 17) (L1 := [(0, vr 11 225)]) (st1 := []) (h1 := xhp (sI (ro_clear (sI s 225 1 0) 228) 225 5 0)) 3 (fun _ _ _ _ => rfl) (Or.inl rfl) ?_
  refine xW.side (c := (0 : Int32) = 0 ∨ (0 : Int32) = 1) (pc1 := 22) (L1 := [(0, vr 11 225)]) (st1 := []) (h1 := xhp (sI (sI (ro_clear (sI s 225 1 0) 228) 225 5 0) 225 6 0)) 3 (fun _ _ _ _ => rfl) (Or.inl rfl) ?_
  refine xW.call (y := 202) (as := [vr 11 225]) (h0 := xhp (sI (sI (ro_clear (sI s 225 1 0) 228) 225 5 0) 225 6 0)) (pc0 := 23) (len := 3) (L0 := [(0, vr 11 225)]) (rest := []) 2 (fun _ _ _ _ => rfl) (m202 _ g.1 ?_)
  show xW (xX0 xs Ls) p201 26 [(0, vr 11 225)] [vi ((tr_follow (sI (sI (ro_clear (sI s 225 1 0) 228) 225 5 0) 225 6 0)).1)] (xhp ((tr_follow (sI (sI (ro_clear (sI s 225 1 0) 228) 225 5 0) 225 6 0)).2)) Φ
  replace g := g.2
  refine xW.br (c := (tr_follow (sI (sI (ro_clear (sI s 225 1 0) 228) 225 5 0) 225 6 0)).1 = 0) (pc1 := 39) (L1 := [(1, vi ((tr_follow (sI (sI (ro_clear (sI s 225 1 0) 228) 225 5 0) 225 6 0)).1)), (0, vr 11 225)]) (st1 := []) (h1 := xhp ((tr_follow (sI (sI (ro_clear (sI s 225 1 0) 228) 225 5 0) 225 6 0)).2)) (pc2 := 31) (L2 := [(1, vi ((tr_follow (sI (sI (ro_clear (sI s 225 1 0) 228) 225 5 0) 225 6 0)).1)), (0, vr 11 225)]) (st2 := []) (h2 := xhp ((tr_follow (sI (sI (ro_clear (sI s 225 1 0) 228) 225 5 0) 225 6 0)).2)) 3 (fun _ _ _ _ => rfl) (fun hc => ?_) (fun hc => ?_)
  · replace g := g.1 hc
    exact xW.ret (v0 := some (vi (gI ((tr_follow (sI (sI (ro_clear (sI s 225 1 0) 228) 225 5 0) 225 6 0)).2) 225 1))) (h1 := xhp ((tr_follow (sI (sI (ro_clear (sI s 225 1 0) 228) 225 5 0) 225 6 0)).2)) 3 (fun _ _ _ _ => rfl) g
  · replace g := g.2 hc
    exact xW.ret (v0 := some (vi (-(tr_follow (sI (sI (ro_clear (sI s 225 1 0) 228) 225 5 0) 225 6 0)).1))) (h1 := xhp (sI ((tr_follow (sI (sI (ro_clear (sI s 225 1 0) 228) 225 5 0) 225 6 0)).2) 225 1 0)) 6 (fun _ _ _ _ => rfl) g
noncomputable def tr_work_d (s : xS) : Int32 × xS := (if (tr_follow (sI (sI (ro_clear (sI s 225 1 0) 228) 225 5 0) 225 6 0)).1 = 0 then ((gI ((tr_follow (sI (sI (ro_clear (sI s 225 1 0) 228) 225 5 0) 225 6 0)).2) 225 1), ((tr_follow (sI (sI (ro_clear (sI s 225 1 0) 228) 225 5 0) 225 6 0)).2)) else ((-(tr_follow (sI (sI (ro_clear (sI s 225 1 0) 228) 225 5 0) 225 6 0)).1), (sI ((tr_follow (sI (sI (ro_clear (sI s 225 1 0) 228) 225 5 0) 225 6 0)).2) 225 1 0)))
noncomputable def tr_work : xS → Int32 × xS := Classical.choose (⟨tr_work_d, rfl⟩ : ∃ f, f = tr_work_d)
set_option maxRecDepth 100000 in
theorem tr_work_eq : tr_work = tr_work_d := Classical.choose_spec (⟨tr_work_d, rfl⟩ : ∃ f, f = tr_work_d)
def tr_work_ok (s : xS) : Prop := (tr_follow_ok (sI (sI (ro_clear (sI s 225 1 0) 228) 225 5 0) 225 6 0))
set_option maxRecDepth 100000 in
theorem m201 {xs : Nat → Int32} {Ls : Nat} {Ψ : xO → xH → Prop} (s : xS) (gq : tr_work_ok s) (h : Ψ (.inl (some (vi (tr_work s).1))) (xhp (tr_work s).2)) : xM (xX0 xs Ls) 201 [vr 11 225] (xhp s) Ψ := by
  rw [tr_work_eq] at h
  unfold tr_work_d at h
  unfold tr_work_ok at gq
  exact xM.of (P := p201) rfl rfl rfl (b201_0 s (⟨gq, ⟨fun hc => by rw [if_pos hc] at h; exact (by (try dsimp only at h); exact h), fun hc => by rw [if_neg hc] at h; exact (by (try dsimp only at h); exact h)⟩⟩))
/-! tr_append -/
theorem b200_46 {xs : Nat → Int32} {Ls : Nat} {Φ : Option xV → xH → Prop} (s : xS) (x1 : Int64) (x4 : Int32) (g : ((8 ≤ x4 → Φ (some (vi (gI s 225 2))) (xhp s)) ∧ (¬ (8 ≤ x4) → (((te_byteOf x1 x4) = 0 → xW (xX0 xs Ls) p200 46 [(0, vr 11 225), (1, vl x1), (4, vi (x4 + 1))] [] (xhp s) Φ) ∧ (¬ ((te_byteOf x1 x4) = 0) → ((40 ≤ (gI s 225 2) → xW (xX0 xs Ls) p200 46 [(0, vr 11 225), (1, vl x1), (4, vi (x4 + 1))] [] (xhp s) Φ) ∧ (¬ (40 ≤ (gI s 225 2)) → ((vp_in (gI s 225 2) 40) ∧ xW (xX0 xs Ls) p200 46 [(0, vr 11 225), (1, vl x1), (4, vi (x4 + 1))] [] (xhp (sI (sI s 227 ((gI s 225 2).toNatClampNeg) (te_byteOf x1 x4)) 225 2 ((gI s 225 2) + 1))) Φ)))))))) : xW (xX0 xs Ls) p200 46 [(0, vr 11 225), (1, vl x1), (4, vi x4)] [] (xhp s) Φ := by
  refine xW.br (c := 8 ≤ x4) (pc1 := 102) (L1 := [(0, vr 11 225), (1, vl x1), (4, vi x4)]) (st1 := []) (h1 := xhp s) (pc2 := 53) (L2 := [(0, vr 11 225), (1, vl x1), (4, vi x4)]) (st2 := []) (h2 := xhp s) 3 (fun _ _ _ _ => rfl) (fun hc => ?_) (fun hc => ?_)
  · replace g := g.1 hc
    exact xW.ret (v0 := some (vi (gI s 225 2))) (h1 := xhp s) 3 (fun _ _ _ _ => rfl) g
  · replace g := g.2 hc
    refine xW.call (y := 22) (as := [vl x1, vi x4]) (h0 := xhp s) (pc0 := 56) (len := 3) (L0 := [(0, vr 11 225), (1, vl x1), (4, vi x4)]) (rest := []) 3 (fun _ _ _ _ => rfl) (m22 _ _ _ ?_)
    show xW (xX0 xs Ls) p200 59 [(0, vr 11 225), (1, vl x1), (4, vi x4)] [vi (te_byteOf x1 x4)] (xhp s) Φ
    refine xW.br (c := (te_byteOf x1 x4) = 0) (pc1 := 96) (L1 := [(5, vi (te_byteOf x1 x4)), (0, vr 11 225), (1, vl x1), (4, vi x4)]) (st1 := []) (h1 := xhp s) (pc2 := 66) (L2 := [(5, vi (te_byteOf x1 x4)), (0, vr 11 225), (1, vl x1), (4, vi x4)]) (st2 := []) (h2 := xhp s) 3 (fun _ _ _ _ => rfl) (fun hc => ?_) (fun hc => ?_)
    · replace g := g.1 hc
      refine xW.seg (pc1 := 46) (L1 := [(4, vi (x4 + 1)), (5, vi (te_byteOf x1 x4)), (0, vr 11 225), (1, vl x1)]) (st1 := []) (h1 := xhp s) 2 (fun _ _ _ _ => rfl) ?_
      exact xW.locs (L := [(0, vr 11 225), (1, vl x1), (4, vi (x4 + 1))]) ⟨rfl, rfl, rfl, trivial⟩ rfl g
    · replace g := g.2 hc
      refine xW.br (c := 40 ≤ (gI s 225 2)) (pc1 := 96) (L1 := [(5, vi (te_byteOf x1 x4)), (0, vr 11 225), (1, vl x1), (4, vi x4)]) (st1 := []) (h1 := xhp s) (pc2 := 75) (L2 := [(5, vi (te_byteOf x1 x4)), (0, vr 11 225), (1, vl x1), (4, vi x4)]) (st2 := []) (h2 := xhp s) 4 (fun _ _ _ _ => rfl) (fun hc => ?_) (fun hc => ?_)
      · replace g := g.1 hc
        refine xW.seg (pc1 := 46) (L1 := [(4, vi (x4 + 1)), (5, vi (te_byteOf x1 x4)), (0, vr 11 225), (1, vl x1)]) (st1 := []) (h1 := xhp s) 2 (fun _ _ _ _ => rfl) ?_
        exact xW.locs (L := [(0, vr 11 225), (1, vl x1), (4, vi (x4 + 1))]) ⟨rfl, rfl, rfl, trivial⟩ rfl g
      · replace g := g.2 hc
        refine xW.side (c := vp_in (gI s 225 2) 40) (pc1 := 86) (L1 := [(5, vi (te_byteOf x1 x4)), (0, vr 11 225), (1, vl x1), (4, vi x4)]) (st1 := []) (h1 := xhp (sI s 227 ((gI s 225 2).toNatClampNeg) (te_byteOf x1 x4))) 6 (fun _ _ _ _ => rfl) g.1 ?_
        replace g := g.2
        refine xW.seg (pc1 := 46) (L1 := [(4, vi (x4 + 1)), (5, vi (te_byteOf x1 x4)), (0, vr 11 225), (1, vl x1)]) (st1 := []) (h1 := xhp (sI (sI s 227 ((gI s 225 2).toNatClampNeg) (te_byteOf x1 x4)) 225 2 ((gI s 225 2) + 1))) 8 (fun _ _ _ _ => rfl) ?_
        exact xW.locs (L := [(0, vr 11 225), (1, vl x1), (4, vi (x4 + 1))]) ⟨rfl, rfl, rfl, trivial⟩ rfl g
noncomputable def tr_append_46 : Nat → xS → Int64 → Int32 → Int32 × xS
  | 0, s, _, _ => (0, s)
  | n + 1, s, x1, x4 => (if 8 ≤ x4 then ((gI s 225 2), s) else (if (te_byteOf x1 x4) = 0 then (tr_append_46 n s x1 (x4 + 1)) else (if 40 ≤ (gI s 225 2) then (tr_append_46 n s x1 (x4 + 1)) else (tr_append_46 n (sI (sI s 227 ((gI s 225 2).toNatClampNeg) (te_byteOf x1 x4)) 225 2 ((gI s 225 2) + 1)) x1 (x4 + 1)))))
def tr_append_46_ok : Nat → xS → Int64 → Int32 → Prop
  | 0, _, _, _ => False
  | n + 1, s, x1, x4 => (¬ (8 ≤ x4) → (((te_byteOf x1 x4) = 0 → (tr_append_46_ok n s x1 (x4 + 1))) ∧ (¬ ((te_byteOf x1 x4) = 0) → ((40 ≤ (gI s 225 2) → (tr_append_46_ok n s x1 (x4 + 1))) ∧ (¬ (40 ≤ (gI s 225 2)) → ((vp_in (gI s 225 2) 40) ∧ (tr_append_46_ok n (sI (sI s 227 ((gI s 225 2).toNatClampNeg) (te_byteOf x1 x4)) 225 2 ((gI s 225 2) + 1)) x1 (x4 + 1))))))))
set_option maxRecDepth 100000 in
theorem n200_46 {xs : Nat → Int32} {Ls : Nat} {Φ : Option xV → xH → Prop} : ∀ (n : Nat) (s : xS) (x1 : Int64) (x4 : Int32), tr_append_46_ok n s x1 x4 → Φ (some (vi (tr_append_46 n s x1 x4).1)) (xhp (tr_append_46 n s x1 x4).2) → xW (xX0 xs Ls) p200 46 [(0, vr 11 225), (1, vl x1), (4, vi x4)] [] (xhp s) Φ := by
  intro n
  induction n with
  | zero => intro s _ _ gq; exact gq.elim
  | succ n ih =>
    intro s x1 x4 gq h
    unfold tr_append_46_ok at gq
    unfold tr_append_46 at h
    exact b200_46 s x1 x4 (⟨fun hc => by rw [if_pos hc] at h; exact (by (try dsimp only at h); exact h), fun hc => by rw [if_neg hc] at h; replace gq := gq hc; exact ⟨fun hc => by rw [if_pos hc] at h; replace gq := gq.1 hc; exact ih _ _ _ gq h, fun hc => by rw [if_neg hc] at h; replace gq := gq.2 hc; exact ⟨fun hc => by rw [if_pos hc] at h; replace gq := gq.1 hc; exact ih _ _ _ gq h, fun hc => by rw [if_neg hc] at h; replace gq := gq.2 hc; exact ⟨gq.1, by replace gq := gq.2; exact ih _ _ _ gq h⟩⟩⟩⟩)
set_option maxRecDepth 100000 in
theorem b200_5 {xs : Nat → Int32} {Ls : Nat} {Φ : Option xV → xH → Prop} (s : xS) (x1 : Int64) (x3 : Int32) (x4 : Int32) (g : ((8 ≤ x4 → ((((gI s 225 2) + x3) ≤ 40 → xW (xX0 xs Ls) p200 46 [(0, vr 11 225), (1, vl x1), (4, vi 0)] [] (xhp s) Φ) ∧ (¬ (((gI s 225 2) + x3) ≤ 40) → Φ (some (vi (-1))) (xhp s)))) ∧ (¬ (8 ≤ x4) → (((te_byteOf x1 x4) = 0 → xW (xX0 xs Ls) p200 5 [(0, vr 11 225), (1, vl x1), (3, vi x3), (4, vi (x4 + 1))] [] (xhp s) Φ) ∧ (¬ ((te_byteOf x1 x4) = 0) → xW (xX0 xs Ls) p200 5 [(0, vr 11 225), (1, vl x1), (3, vi (x3 + 1)), (4, vi (x4 + 1))] [] (xhp s) Φ))))) : xW (xX0 xs Ls) p200 5 [(0, vr 11 225), (1, vl x1), (3, vi x3), (4, vi x4)] [] (xhp s) Φ := by
  refine xW.br (c := 8 ≤ x4) (pc1 := 30) (L1 := [(0, vr 11 225), (1, vl x1), (3, vi x3), (4, vi x4)]) (st1 := []) (h1 := xhp s) (pc2 := 12) (L2 := [(0, vr 11 225), (1, vl x1), (3, vi x3), (4, vi x4)]) (st2 := []) (h2 := xhp s) 3 (fun _ _ _ _ => rfl) (fun hc => ?_) (fun hc => ?_)
  · replace g := g.1 hc
    refine xW.br (c := ((gI s 225 2) + x3) ≤ 40) (pc1 := 43) (L1 := [(0, vr 11 225), (1, vl x1), (3, vi x3), (4, vi x4)]) (st1 := []) (h1 := xhp s) (pc2 := 41) (L2 := [(0, vr 11 225), (1, vl x1), (3, vi x3), (4, vi x4)]) (st2 := []) (h2 := xhp s) 6 (fun _ _ _ _ => rfl) (fun hc => ?_) (fun hc => ?_)
    · replace g := g.1 hc
      refine xW.seg (pc1 := 46) (L1 := [(4, vi 0), (0, vr 11 225), (1, vl x1), (3, vi x3)]) (st1 := []) (h1 := xhp s) 2 (fun _ _ _ _ => rfl) ?_
      exact xW.locs (L := [(0, vr 11 225), (1, vl x1), (4, vi 0)]) ⟨rfl, rfl, rfl, trivial⟩ rfl g
    · replace g := g.2 hc
      exact xW.ret (v0 := some (vi (-1))) (h1 := xhp s) 2 (fun _ _ _ _ => rfl) g
  · replace g := g.2 hc
    refine xW.call (y := 22) (as := [vl x1, vi x4]) (h0 := xhp s) (pc0 := 15) (len := 3) (L0 := [(0, vr 11 225), (1, vl x1), (3, vi x3), (4, vi x4)]) (rest := []) 3 (fun _ _ _ _ => rfl) (m22 _ _ _ ?_)
    show xW (xX0 xs Ls) p200 18 [(0, vr 11 225), (1, vl x1), (3, vi x3), (4, vi x4)] [vi (te_byteOf x1 x4)] (xhp s) Φ
    refine xW.br (c := (te_byteOf x1 x4) = 0) (pc1 := 24) (L1 := [(0, vr 11 225), (1, vl x1), (3, vi x3), (4, vi x4)]) (st1 := []) (h1 := xhp s) (pc2 := 21) (L2 := [(0, vr 11 225), (1, vl x1), (3, vi x3), (4, vi x4)]) (st2 := []) (h2 := xhp s) 1 (fun _ _ _ _ => rfl) (fun hc => ?_) (fun hc => ?_)
    · replace g := g.1 hc
      refine xW.seg (pc1 := 5) (L1 := [(4, vi (x4 + 1)), (0, vr 11 225), (1, vl x1), (3, vi x3)]) (st1 := []) (h1 := xhp s) 2 (fun _ _ _ _ => rfl) ?_
      exact xW.locs (L := [(0, vr 11 225), (1, vl x1), (3, vi x3), (4, vi (x4 + 1))]) ⟨rfl, rfl, rfl, rfl, trivial⟩ rfl g
    · replace g := g.2 hc
      refine xW.seg (pc1 := 5) (L1 := [(4, vi (x4 + 1)), (3, vi (x3 + 1)), (0, vr 11 225), (1, vl x1)]) (st1 := []) (h1 := xhp s) 3 (fun _ _ _ _ => rfl) ?_
      exact xW.locs (L := [(0, vr 11 225), (1, vl x1), (3, vi (x3 + 1)), (4, vi (x4 + 1))]) ⟨rfl, rfl, rfl, rfl, trivial⟩ rfl g
noncomputable def tr_append_5 : Nat → xS → Int64 → Int32 → Int32 → Int32 × xS
  | 0, s, _, _, _ => (0, s)
  | n + 1, s, x1, x3, x4 => (if 8 ≤ x4 then (if ((gI s 225 2) + x3) ≤ 40 then (tr_append_46 xfu s x1 0) else ((-1), s)) else (if (te_byteOf x1 x4) = 0 then (tr_append_5 n s x1 x3 (x4 + 1)) else (tr_append_5 n s x1 (x3 + 1) (x4 + 1))))
def tr_append_5_ok : Nat → xS → Int64 → Int32 → Int32 → Prop
  | 0, _, _, _, _ => False
  | n + 1, s, x1, x3, x4 => ((8 ≤ x4 → (((gI s 225 2) + x3) ≤ 40 → (tr_append_46_ok xfu s x1 0))) ∧ (¬ (8 ≤ x4) → (((te_byteOf x1 x4) = 0 → (tr_append_5_ok n s x1 x3 (x4 + 1))) ∧ (¬ ((te_byteOf x1 x4) = 0) → (tr_append_5_ok n s x1 (x3 + 1) (x4 + 1))))))
set_option maxRecDepth 100000 in
theorem n200_5 {xs : Nat → Int32} {Ls : Nat} {Φ : Option xV → xH → Prop} : ∀ (n : Nat) (s : xS) (x1 : Int64) (x3 : Int32) (x4 : Int32), tr_append_5_ok n s x1 x3 x4 → Φ (some (vi (tr_append_5 n s x1 x3 x4).1)) (xhp (tr_append_5 n s x1 x3 x4).2) → xW (xX0 xs Ls) p200 5 [(0, vr 11 225), (1, vl x1), (3, vi x3), (4, vi x4)] [] (xhp s) Φ := by
  intro n
  induction n with
  | zero => intro s _ _ _ gq; exact gq.elim
  | succ n ih =>
    intro s x1 x3 x4 gq h
    unfold tr_append_5_ok at gq
    unfold tr_append_5 at h
    exact b200_5 s x1 x3 x4 (⟨fun hc => by rw [if_pos hc] at h; replace gq := gq.1 hc; exact ⟨fun hc => by rw [if_pos hc] at h; replace gq := gq hc; exact n200_46 _ _ _ _ gq h, fun hc => by rw [if_neg hc] at h; exact (by (try dsimp only at h); exact h)⟩, fun hc => by rw [if_neg hc] at h; replace gq := gq.2 hc; exact ⟨fun hc => by rw [if_pos hc] at h; replace gq := gq.1 hc; exact ih _ _ _ _ gq h, fun hc => by rw [if_neg hc] at h; replace gq := gq.2 hc; exact ih _ _ _ _ gq h⟩⟩)
set_option maxRecDepth 100000 in
theorem b200_0 {xs : Nat → Int32} {Ls : Nat} {Φ : Option xV → xH → Prop} (s : xS) (b : Int64) (g : xW (xX0 xs Ls) p200 5 [(0, vr 11 225), (1, vl b), (3, vi 0), (4, vi 0)] [] (xhp s) Φ) : xW (xX0 xs Ls) p200 0 [(0, vr 11 225), (1, vl b)] [] (xhp s) Φ := by
  refine xW.seg (pc1 := 5) (L1 := [(4, vi 0), (3, vi 0), (0, vr 11 225), (1, vl b)]) (st1 := []) (h1 := xhp s) 4 (fun _ _ _ _ => rfl) ?_
  exact xW.locs (L := [(0, vr 11 225), (1, vl b), (3, vi 0), (4, vi 0)]) ⟨rfl, rfl, rfl, rfl, trivial⟩ rfl g
noncomputable def tr_append_d (s : xS) (b : Int64) : Int32 × xS := (tr_append_5 xfu s b 0 0)
noncomputable def tr_append : xS → Int64 → Int32 × xS := Classical.choose (⟨tr_append_d, rfl⟩ : ∃ f, f = tr_append_d)
set_option maxRecDepth 100000 in
theorem tr_append_eq : tr_append = tr_append_d := Classical.choose_spec (⟨tr_append_d, rfl⟩ : ∃ f, f = tr_append_d)
def tr_append_ok (s : xS) (b : Int64) : Prop := (tr_append_5_ok xfu s b 0 0)
set_option maxRecDepth 100000 in
theorem m200 {xs : Nat → Int32} {Ls : Nat} {Ψ : xO → xH → Prop} (s : xS) (b : Int64) (gq : tr_append_ok s b) (h : Ψ (.inl (some (vi (tr_append s b).1))) (xhp (tr_append s b).2)) : xM (xX0 xs Ls) 200 [vr 11 225, vl b] (xhp s) Ψ := by
  rw [tr_append_eq] at h
  unfold tr_append_d at h
  unfold tr_append_ok at gq
  exact xM.of (P := p200) rfl rfl rfl (b200_0 s b (n200_5 _ _ _ _ _ gq h))
