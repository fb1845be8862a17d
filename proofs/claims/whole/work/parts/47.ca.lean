/-! ca_endEntry -/
theorem b126_0 {xs : Nat → Int32} {Ls : Nat} {Φ : Option xV → xH → Prop} (s : xS) (g : (((gI s 7 0) = 0 → Φ none (xhp s)) ∧ (¬ ((gI s 7 0) = 0) → Φ none (xhp (sI (sI s 7 0 0) 2 9 1))))) : xW (xX0 xs Ls) p126 0 [(0, vr 1 1)] [] (xhp s) Φ := by
  refine xW.br (c := (gI s 7 0) = 0) (pc1 := 32) (L1 := [(0, vr 1 1)]) (st1 := []) (h1 := xhp s) (pc2 := 13) (L2 := [(0, vr 1 1)]) (st2 := []) (h2 := xhp s) 5 (fun _ _ _ _ => rfl) (fun hc => ?_) (fun hc => ?_)
  · replace g := g.1 hc
    exact xW.ret (v0 := none) (h1 := xhp s) 1 (fun _ _ _ _ => rfl) g
  · replace g := g.2 hc
    refine xW.side (c := (0 : Int32) = 0 ∨ (0 : Int32) = 1) (pc1 := 24) (L1 := [(0, vr 1 1)]) (st1 := []) (h1 := xhp (sI s 7 0 0)) 5 (fun _ _ _ _ => rfl) (Or.inl rfl) ?_
    refine xW.side (c := (1 : Int32) = 0 ∨ (1 : Int32) = 1) (pc1 := 32) (L1 := [(0, vr 1 1)]) (st1 := []) (h1 := xhp (sI (sI s 7 0 0) 2 9 1)) 4 (fun _ _ _ _ => rfl) (Or.inr rfl) ?_
    exact xW.ret (v0 := none) (h1 := xhp (sI (sI s 7 0 0) 2 9 1)) 1 (fun _ _ _ _ => rfl) g
noncomputable def ca_endEntry_d (s : xS) : xS := (if (gI s 7 0) = 0 then s else (sI (sI s 7 0 0) 2 9 1))
noncomputable def ca_endEntry : xS → xS := Classical.choose (⟨ca_endEntry_d, rfl⟩ : ∃ f, f = ca_endEntry_d)
set_option maxRecDepth 100000 in
theorem ca_endEntry_eq : ca_endEntry = ca_endEntry_d := Classical.choose_spec (⟨ca_endEntry_d, rfl⟩ : ∃ f, f = ca_endEntry_d)
set_option maxRecDepth 100000 in
theorem m126 {xs : Nat → Int32} {Ls : Nat} {Ψ : xO → xH → Prop} (s : xS) (h : Ψ (.inl none) (xhp (ca_endEntry s))) : xM (xX0 xs Ls) 126 [vr 1 1] (xhp s) Ψ := by
  rw [ca_endEntry_eq] at h
  unfold ca_endEntry_d at h
  exact xM.of (P := p126) rfl rfl rfl (b126_0 s (⟨fun hc => by rw [if_pos hc] at h; exact h, fun hc => by rw [if_neg hc] at h; exact h⟩))
/-! ca_countDown -/
theorem b127_0 {xs : Nat → Int32} {Ls : Nat} {Φ : Option xV → xH → Prop} (s : xS) (r : Int32) (g : ((vp_in r 15 ∧ xRok 3 r.toNatClampNeg 5) ∧ ((ar_combine_ok s 45 (xR0 3 r.toNatClampNeg - 1) 33 (xR0 3 r.toNatClampNeg - 1)) ∧ Φ (some (vi ((ar_combine s 45 (xR0 3 r.toNatClampNeg - 1) 33 (xR0 3 r.toNatClampNeg - 1)).1))) (xhp ((ar_combine s 45 (xR0 3 r.toNatClampNeg - 1) 33 (xR0 3 r.toNatClampNeg - 1)).2))))) : xW (xX0 xs Ls) p127 0 [(0, vr 1 1), (1, vi r)] [] (xhp s) Φ := by
  refine xW.refr (r := xR0 3 r.toNatClampNeg) (a := (xR0 3 r.toNatClampNeg - 1)) (kind := 5) (c := vp_in r 15) (h0 := xhp s) (pc1 := 9) (L1 := [(0, vr 1 1), (1, vi r)]) (st1 := []) (h1 := xhp s) 5 (fun _ _ _ _ => rfl) g.1.1 g.1.2.1 g.1.2.2 ?_
  replace g := g.2
  refine xW.call (y := 116) (as := [vr 6 31, vi 45, vr 5 (xR0 3 r.toNatClampNeg - 1), vr 5 33, vr 5 (xR0 3 r.toNatClampNeg - 1)]) (h0 := xhp s) (pc0 := 22) (len := 3) (L0 := [(2, vr 5 (xR0 3 r.toNatClampNeg - 1)), (0, vr 1 1), (1, vi r)]) (rest := []) 9 (fun _ _ _ _ => rfl) (m116 _ _ _ _ _ g.1 ?_)
  show xW (xX0 xs Ls) p127 25 [(2, vr 5 (xR0 3 r.toNatClampNeg - 1)), (0, vr 1 1), (1, vi r)] [vi ((ar_combine s 45 (xR0 3 r.toNatClampNeg - 1) 33 (xR0 3 r.toNatClampNeg - 1)).1)] (xhp ((ar_combine s 45 (xR0 3 r.toNatClampNeg - 1) 33 (xR0 3 r.toNatClampNeg - 1)).2)) Φ
  replace g := g.2
  exact xW.ret (v0 := some (vi ((ar_combine s 45 (xR0 3 r.toNatClampNeg - 1) 33 (xR0 3 r.toNatClampNeg - 1)).1))) (h1 := xhp ((ar_combine s 45 (xR0 3 r.toNatClampNeg - 1) 33 (xR0 3 r.toNatClampNeg - 1)).2)) 1 (fun _ _ _ _ => rfl) g
noncomputable def ca_countDown_d (s : xS) (r : Int32) : Int32 × xS := (ar_combine s 45 (xR0 3 r.toNatClampNeg - 1) 33 (xR0 3 r.toNatClampNeg - 1))
noncomputable def ca_countDown : xS → Int32 → Int32 × xS := Classical.choose (⟨ca_countDown_d, rfl⟩ : ∃ f, f = ca_countDown_d)
set_option maxRecDepth 100000 in
theorem ca_countDown_eq : ca_countDown = ca_countDown_d := Classical.choose_spec (⟨ca_countDown_d, rfl⟩ : ∃ f, f = ca_countDown_d)
def ca_countDown_ok (s : xS) (r : Int32) : Prop := ((vp_in r 15 ∧ xRok 3 r.toNatClampNeg 5) ∧ (ar_combine_ok s 45 (xR0 3 r.toNatClampNeg - 1) 33 (xR0 3 r.toNatClampNeg - 1)))
set_option maxRecDepth 100000 in
theorem m127 {xs : Nat → Int32} {Ls : Nat} {Ψ : xO → xH → Prop} (s : xS) (r : Int32) (gq : ca_countDown_ok s r) (h : Ψ (.inl (some (vi (ca_countDown s r).1))) (xhp (ca_countDown s r).2)) : xM (xX0 xs Ls) 127 [vr 1 1, vi r] (xhp s) Ψ := by
  rw [ca_countDown_eq] at h
  unfold ca_countDown_d at h
  unfold ca_countDown_ok at gq
  exact xM.of (P := p127) rfl rfl rfl (b127_0 s r (⟨gq.1, by replace gq := gq.2; exact ⟨gq, (by (try dsimp only at h); exact h)⟩⟩))
/-! ca_bring -/
theorem b129_39 {xs : Nat → Int32} {Ls : Nat} {Φ : Option xV → xH → Prop} (s : xS) (a : Nat) (g : Φ none (xhp (de_set s 18 a))) : xW (xX0 xs Ls) p129 39 [(0, vr 1 1), (1, vr 5 a)] [] (xhp s) Φ := by
  refine xW.call (y := 137) (as := [vr 5 18, vr 5 a]) (h0 := xhp s) (pc0 := 47) (len := 3) (L0 := [(0, vr 1 1), (1, vr 5 a)]) (rest := []) 5 (fun _ _ _ _ => rfl) (m137 _ _ _ ?_)
  show xW (xX0 xs Ls) p129 50 [(0, vr 1 1), (1, vr 5 a)] [] (xhp (de_set s 18 a)) Φ
  exact xW.ret (v0 := none) (h1 := xhp (de_set s 18 a)) 1 (fun _ _ _ _ => rfl) g
noncomputable def ca_bring_39_d (s : xS) (a : Nat) : xS := (de_set s 18 a)
noncomputable def ca_bring_39 : xS → Nat → xS := Classical.choose (⟨ca_bring_39_d, rfl⟩ : ∃ f, f = ca_bring_39_d)
set_option maxRecDepth 100000 in
theorem ca_bring_39_eq : ca_bring_39 = ca_bring_39_d := Classical.choose_spec (⟨ca_bring_39_d, rfl⟩ : ∃ f, f = ca_bring_39_d)
set_option maxRecDepth 100000 in
theorem n129_39 {xs : Nat → Int32} {Ls : Nat} {Φ : Option xV → xH → Prop} (s : xS) (a : Nat) (h : Φ none (xhp (ca_bring_39 s a))) : xW (xX0 xs Ls) p129 39 [(0, vr 1 1), (1, vr 5 a)] [] (xhp s) Φ := by
  rw [ca_bring_39_eq] at h
  unfold ca_bring_39_d at h
  exact b129_39 s a (h)
set_option maxRecDepth 100000 in
theorem b129_0 {xs : Nat → Int32} {Ls : Nat} {Φ : Option xV → xH → Prop} (s : xS) (a : Nat) (g : ((¬ (gI s 1 2) = 1 → (((gI s 2 9) = 0 → xW (xX0 xs Ls) p129 39 [(0, vr 1 1), (1, vr 5 a)] [] (xhp s) Φ) ∧ (¬ ((gI s 2 9) = 0) → xW (xX0 xs Ls) p129 39 [(0, vr 1 1), (1, vr 5 a)] [] (xhp (dk_raise s)) Φ))) ∧ ((gI s 1 2) = 1 → xW (xX0 xs Ls) p129 39 [(0, vr 1 1), (1, vr 5 a)] [] (xhp (sI s 5 2 2)) Φ))) : xW (xX0 xs Ls) p129 0 [(0, vr 1 1), (1, vr 5 a)] [] (xhp s) Φ := by
  refine xW.br (c := ¬ (gI s 1 2) = 1) (pc1 := 22) (L1 := [(0, vr 1 1), (1, vr 5 a)]) (st1 := []) (h1 := xhp s) (pc2 := 8) (L2 := [(0, vr 1 1), (1, vr 5 a)]) (st2 := []) (h2 := xhp s) 4 (fun _ _ _ _ => rfl) (fun hc => ?_) (fun hc => ?_)
  · replace g := g.1 hc
    refine xW.br (c := (gI s 2 9) = 0) (pc1 := 39) (L1 := [(0, vr 1 1), (1, vr 5 a)]) (st1 := []) (h1 := xhp s) (pc2 := 32) (L2 := [(0, vr 1 1), (1, vr 5 a)]) (st2 := []) (h2 := xhp s) 4 (fun _ _ _ _ => rfl) (fun hc => ?_) (fun hc => ?_)
    · replace g := g.1 hc
      exact g
    · replace g := g.2 hc
      refine xW.call (y := 146) (as := [vr 2 2]) (h0 := xhp s) (pc0 := 36) (len := 3) (L0 := [(0, vr 1 1), (1, vr 5 a)]) (rest := []) 3 (fun _ _ _ _ => rfl) (m146 _ ?_)
      show xW (xX0 xs Ls) p129 39 [(0, vr 1 1), (1, vr 5 a)] [] (xhp (dk_raise s)) Φ
      exact g
  · replace g := g.2 (Decidable.not_not.mp hc)
    refine xW.seg (pc1 := 39) (L1 := [(0, vr 1 1), (1, vr 5 a)]) (st1 := []) (h1 := xhp (sI s 5 2 2)) 6 (fun _ _ _ _ => rfl) ?_
    exact g
noncomputable def ca_bring_d (s : xS) (a : Nat) : xS := (if ¬ (gI s 1 2) = 1 then (if (gI s 2 9) = 0 then (ca_bring_39 s a) else (ca_bring_39 (dk_raise s) a)) else (ca_bring_39 (sI s 5 2 2) a))
noncomputable def ca_bring : xS → Nat → xS := Classical.choose (⟨ca_bring_d, rfl⟩ : ∃ f, f = ca_bring_d)
set_option maxRecDepth 100000 in
theorem ca_bring_eq : ca_bring = ca_bring_d := Classical.choose_spec (⟨ca_bring_d, rfl⟩ : ∃ f, f = ca_bring_d)
set_option maxRecDepth 100000 in
theorem m129 {xs : Nat → Int32} {Ls : Nat} {Ψ : xO → xH → Prop} (s : xS) (a : Nat) (h : Ψ (.inl none) (xhp (ca_bring s a))) : xM (xX0 xs Ls) 129 [vr 1 1, vr 5 a] (xhp s) Ψ := by
  rw [ca_bring_eq] at h
  unfold ca_bring_d at h
  exact xM.of (P := p129) rfl rfl rfl (b129_0 s a (⟨fun hc => by rw [if_pos hc] at h; exact ⟨fun hc => by rw [if_pos hc] at h; exact n129_39 _ _ h, fun hc => by rw [if_neg hc] at h; exact n129_39 _ _ h⟩, fun hc => by rw [if_neg (fun z => z hc)] at h; exact n129_39 _ _ h⟩))
/-! ca_keyEntry -/
theorem b128_44 {xs : Nat → Int32} {Ls : Nat} {Φ : Option xV → xH → Prop} (s : xS) (x1 : Int32) (x2 : Int32) (g : ((¬ (gI (en_take s 34 x1) 34 0) = 0 → ((ar_read_ok (en_take s 34 x1) 34 32) ∧ (((ar_read (en_take s 34 x1) 34 32).1 = 0 → ((en_set_ok ((ar_read (en_take s 34 x1) 34 32).2) 7 34) ∧ ((x2 = 0 → Φ (some (vi 0)) (xhp (de_set (en_set ((ar_read (en_take s 34 x1) 34 32).2) 7 34) 18 32))) ∧ (¬ (x2 = 0) → Φ (some (vi 0)) (xhp (ca_bring (en_set ((ar_read (en_take s 34 x1) 34 32).2) 7 34) 32)))))) ∧ (¬ ((ar_read (en_take s 34 x1) 34 32).1 = 0) → Φ (some (vi ((ar_read (en_take s 34 x1) 34 32).1))) (xhp ((ar_read (en_take s 34 x1) 34 32).2)))))) ∧ ((gI (en_take s 34 x1) 34 0) = 0 → ((en_set_ok (en_take s 34 x1) 7 34) ∧ Φ (some (vi 0)) (xhp (sI (de_clear (en_set (en_take s 34 x1) 7 34) 18) 2 9 0)))))) : xW (xX0 xs Ls) p128 44 [(0, vr 1 1), (1, vi x1), (2, vi x2)] [] (xhp s) Φ := by
  refine xW.call (y := 151) (as := [vr 4 34, vi x1]) (h0 := xhp s) (pc0 := 49) (len := 3) (L0 := [(0, vr 1 1), (1, vi x1), (2, vi x2)]) (rest := []) 4 (fun _ _ _ _ => rfl) (m151 _ _ _ ?_)
  show xW (xX0 xs Ls) p128 52 [(0, vr 1 1), (1, vi x1), (2, vi x2)] [] (xhp (en_take s 34 x1)) Φ
  refine xW.br (c := ¬ (gI (en_take s 34 x1) 34 0) = 0) (pc1 := 96) (L1 := [(0, vr 1 1), (1, vi x1), (2, vi x2)]) (st1 := []) (h1 := xhp (en_take s 34 x1)) (pc2 := 62) (L2 := [(0, vr 1 1), (1, vi x1), (2, vi x2)]) (st2 := []) (h2 := xhp (en_take s 34 x1)) 4 (fun _ _ _ _ => rfl) (fun hc => ?_) (fun hc => ?_)
  · replace g := g.1 hc
    refine xW.call (y := 118) (as := [vr 6 31, vr 4 34, vr 5 32]) (h0 := xhp (en_take s 34 x1)) (pc0 := 108) (len := 3) (L0 := [(0, vr 1 1), (1, vi x1), (2, vi x2)]) (rest := []) 7 (fun _ _ _ _ => rfl) (m118 _ _ _ g.1 ?_)
    show xW (xX0 xs Ls) p128 111 [(0, vr 1 1), (1, vi x1), (2, vi x2)] [vi ((ar_read (en_take s 34 x1) 34 32).1)] (xhp ((ar_read (en_take s 34 x1) 34 32).2)) Φ
    replace g := g.2
    refine xW.br (c := (ar_read (en_take s 34 x1) 34 32).1 = 0) (pc1 := 118) (L1 := [(3, vi ((ar_read (en_take s 34 x1) 34 32).1)), (0, vr 1 1), (1, vi x1), (2, vi x2)]) (st1 := []) (h1 := xhp ((ar_read (en_take s 34 x1) 34 32).2)) (pc2 := 116) (L2 := [(3, vi ((ar_read (en_take s 34 x1) 34 32).1)), (0, vr 1 1), (1, vi x1), (2, vi x2)]) (st2 := []) (h2 := xhp ((ar_read (en_take s 34 x1) 34 32).2)) 3 (fun _ _ _ _ => rfl) (fun hc => ?_) (fun hc => ?_)
    · replace g := g.1 hc
      refine xW.call (y := 149) (as := [vr 4 7, vr 4 34]) (h0 := xhp ((ar_read (en_take s 34 x1) 34 32).2)) (pc0 := 129) (len := 3) (L0 := [(3, vi ((ar_read (en_take s 34 x1) 34 32).1)), (0, vr 1 1), (1, vi x1), (2, vi x2)]) (rest := []) 6 (fun _ _ _ _ => rfl) (m149 _ _ _ g.1 ?_)
      show xW (xX0 xs Ls) p128 132 [(3, vi ((ar_read (en_take s 34 x1) 34 32).1)), (0, vr 1 1), (1, vi x1), (2, vi x2)] [] (xhp (en_set ((ar_read (en_take s 34 x1) 34 32).2) 7 34)) Φ
      replace g := g.2
      refine xW.br (c := x2 = 0) (pc1 := 147) (L1 := [(3, vi ((ar_read (en_take s 34 x1) 34 32).1)), (0, vr 1 1), (1, vi x1), (2, vi x2)]) (st1 := []) (h1 := xhp (en_set ((ar_read (en_take s 34 x1) 34 32).2) 7 34)) (pc2 := 136) (L2 := [(3, vi ((ar_read (en_take s 34 x1) 34 32).1)), (0, vr 1 1), (1, vi x1), (2, vi x2)]) (st2 := []) (h2 := xhp (en_set ((ar_read (en_take s 34 x1) 34 32).2) 7 34)) 2 (fun _ _ _ _ => rfl) (fun hc => ?_) (fun hc => ?_)
      · replace g := g.1 hc
        refine xW.call (y := 137) (as := [vr 5 18, vr 5 32]) (h0 := xhp (en_set ((ar_read (en_take s 34 x1) 34 32).2) 7 34)) (pc0 := 158) (len := 3) (L0 := [(3, vi ((ar_read (en_take s 34 x1) 34 32).1)), (0, vr 1 1), (1, vi x1), (2, vi x2)]) (rest := []) 6 (fun _ _ _ _ => rfl) (m137 _ _ _ ?_)
        show xW (xX0 xs Ls) p128 161 [(3, vi ((ar_read (en_take s 34 x1) 34 32).1)), (0, vr 1 1), (1, vi x1), (2, vi x2)] [] (xhp (de_set (en_set ((ar_read (en_take s 34 x1) 34 32).2) 7 34) 18 32)) Φ
        exact xW.ret (v0 := some (vi 0)) (h1 := xhp (de_set (en_set ((ar_read (en_take s 34 x1) 34 32).2) 7 34) 18 32)) 2 (fun _ _ _ _ => rfl) g
      · replace g := g.2 hc
        refine xW.call (y := 129) (as := [vr 1 1, vr 5 32]) (h0 := xhp (en_set ((ar_read (en_take s 34 x1) 34 32).2) 7 34)) (pc0 := 141) (len := 3) (L0 := [(3, vi ((ar_read (en_take s 34 x1) 34 32).1)), (0, vr 1 1), (1, vi x1), (2, vi x2)]) (rest := []) 4 (fun _ _ _ _ => rfl) (m129 _ _ ?_)
        show xW (xX0 xs Ls) p128 144 [(3, vi ((ar_read (en_take s 34 x1) 34 32).1)), (0, vr 1 1), (1, vi x1), (2, vi x2)] [] (xhp (ca_bring (en_set ((ar_read (en_take s 34 x1) 34 32).2) 7 34) 32)) Φ
        exact xW.ret (v0 := some (vi 0)) (h1 := xhp (ca_bring (en_set ((ar_read (en_take s 34 x1) 34 32).2) 7 34) 32)) 3 (fun _ _ _ _ => rfl) g
    · replace g := g.2 hc
      exact xW.ret (v0 := some (vi ((ar_read (en_take s 34 x1) 34 32).1))) (h1 := xhp ((ar_read (en_take s 34 x1) 34 32).2)) 2 (fun _ _ _ _ => rfl) g
  · replace g := g.2 (Decidable.not_not.mp hc)
    refine xW.call (y := 149) (as := [vr 4 7, vr 4 34]) (h0 := xhp (en_take s 34 x1)) (pc0 := 73) (len := 3) (L0 := [(0, vr 1 1), (1, vi x1), (2, vi x2)]) (rest := []) 6 (fun _ _ _ _ => rfl) (m149 _ _ _ g.1 ?_)
    show xW (xX0 xs Ls) p128 76 [(0, vr 1 1), (1, vi x1), (2, vi x2)] [] (xhp (en_set (en_take s 34 x1) 7 34)) Φ
    replace g := g.2
    refine xW.call (y := 139) (as := [vr 5 18]) (h0 := xhp (en_set (en_take s 34 x1) 7 34)) (pc0 := 83) (len := 3) (L0 := [(0, vr 1 1), (1, vi x1), (2, vi x2)]) (rest := []) 4 (fun _ _ _ _ => rfl) (m139 _ _ ?_)
    show xW (xX0 xs Ls) p128 86 [(0, vr 1 1), (1, vi x1), (2, vi x2)] [] (xhp (de_clear (en_set (en_take s 34 x1) 7 34) 18)) Φ
    refine xW.side (c := (0 : Int32) = 0 ∨ (0 : Int32) = 1) (pc1 := 94) (L1 := [(0, vr 1 1), (1, vi x1), (2, vi x2)]) (st1 := []) (h1 := xhp (sI (de_clear (en_set (en_take s 34 x1) 7 34) 18) 2 9 0)) 4 (fun _ _ _ _ => rfl) (Or.inl rfl) ?_
    exact xW.ret (v0 := some (vi 0)) (h1 := xhp (sI (de_clear (en_set (en_take s 34 x1) 7 34) 18) 2 9 0)) 2 (fun _ _ _ _ => rfl) g
noncomputable def ca_keyEntry_44_d (s : xS) (x1 : Int32) (x2 : Int32) : Int32 × xS := (if ¬ (gI (en_take s 34 x1) 34 0) = 0 then (if (ar_read (en_take s 34 x1) 34 32).1 = 0 then (if x2 = 0 then (0, (de_set (en_set ((ar_read (en_take s 34 x1) 34 32).2) 7 34) 18 32)) else (0, (ca_bring (en_set ((ar_read (en_take s 34 x1) 34 32).2) 7 34) 32))) else (ar_read (en_take s 34 x1) 34 32)) else (0, (sI (de_clear (en_set (en_take s 34 x1) 7 34) 18) 2 9 0)))
noncomputable def ca_keyEntry_44 : xS → Int32 → Int32 → Int32 × xS := Classical.choose (⟨ca_keyEntry_44_d, rfl⟩ : ∃ f, f = ca_keyEntry_44_d)
set_option maxRecDepth 100000 in
theorem ca_keyEntry_44_eq : ca_keyEntry_44 = ca_keyEntry_44_d := Classical.choose_spec (⟨ca_keyEntry_44_d, rfl⟩ : ∃ f, f = ca_keyEntry_44_d)
def ca_keyEntry_44_ok (s : xS) (x1 : Int32) (x2 : Int32) : Prop := ((¬ (gI (en_take s 34 x1) 34 0) = 0 → ((ar_read_ok (en_take s 34 x1) 34 32) ∧ ((ar_read (en_take s 34 x1) 34 32).1 = 0 → (en_set_ok ((ar_read (en_take s 34 x1) 34 32).2) 7 34)))) ∧ ((gI (en_take s 34 x1) 34 0) = 0 → (en_set_ok (en_take s 34 x1) 7 34)))
set_option maxRecDepth 100000 in
theorem n128_44 {xs : Nat → Int32} {Ls : Nat} {Φ : Option xV → xH → Prop} (s : xS) (x1 : Int32) (x2 : Int32) (gq : ca_keyEntry_44_ok s x1 x2) (h : Φ (some (vi (ca_keyEntry_44 s x1 x2).1)) (xhp (ca_keyEntry_44 s x1 x2).2)) : xW (xX0 xs Ls) p128 44 [(0, vr 1 1), (1, vi x1), (2, vi x2)] [] (xhp s) Φ := by
  rw [ca_keyEntry_44_eq] at h
  unfold ca_keyEntry_44_d at h
  unfold ca_keyEntry_44_ok at gq
  exact b128_44 s x1 x2 (⟨fun hc => by rw [if_pos hc] at h; replace gq := gq.1 hc; exact ⟨gq.1, by replace gq := gq.2; exact ⟨fun hc => by rw [if_pos hc] at h; replace gq := gq hc; exact ⟨gq, ⟨fun hc => by rw [if_pos hc] at h; exact (by (try dsimp only at h); exact h), fun hc => by rw [if_neg hc] at h; exact (by (try dsimp only at h); exact h)⟩⟩, fun hc => by rw [if_neg hc] at h; exact (by (try dsimp only at h); exact h)⟩⟩, fun hc => by rw [if_neg (fun z => z hc)] at h; replace gq := gq.2 hc; exact ⟨gq, (by (try dsimp only at h); exact h)⟩⟩)
set_option maxRecDepth 100000 in
theorem b128_0 {xs : Nat → Int32} {Ls : Nat} {Φ : Option xV → xH → Prop} (s : xS) (k : Int32) (g : ((en_set_ok s 34 7) ∧ (((decide ((gI s 7 0) = 0)) = false → xW (xX0 xs Ls) p128 44 [(0, vr 1 1), (1, vi k), (2, vi (zb (decide ((gI s 7 0) = 0))))] [] (xhp (en_set s 34 7)) Φ) ∧ ((decide ((gI s 7 0) = 0)) = true → xW (xX0 xs Ls) p128 44 [(0, vr 1 1), (1, vi k), (2, vi (zb (decide ((gI s 7 0) = 0))))] [] (xhp (en_begin (en_set s 34 7) 34)) Φ)))) : xW (xX0 xs Ls) p128 0 [(0, vr 1 1), (1, vi k)] [] (xhp s) Φ := by
  refine xW.seg (pc1 := 10) (L1 := [(0, vr 1 1), (1, vi k)]) (st1 := [vi (gI s 7 0)]) (h1 := xhp s) 4 (fun _ _ _ _ => rfl) ?_
  suffices J : xW (xX0 xs Ls) p128 18 [(0, vr 1 1), (1, vi k)] [vi (zb (decide ((gI s 7 0) = 0)))] (xhp s) Φ by
    refine xW.br (c := ¬ (gI s 7 0) = 0) (pc1 := 17) (L1 := [(0, vr 1 1), (1, vi k)]) (st1 := []) (h1 := xhp s) (pc2 := 13) (L2 := [(0, vr 1 1), (1, vi k)]) (st2 := []) (h2 := xhp s) 1 (fun _ _ _ _ => rfl) (fun hc => ?_) (fun hc => ?_)
    · have hc1 : ¬ (gI s 7 0) = 0 := hc
      refine xW.seg (pc1 := 18) (L1 := [(0, vr 1 1), (1, vi k)]) (st1 := [vi 0]) (h1 := xhp s) 1 (fun _ _ _ _ => rfl) ?_
      refine xW.to (v := vi (zb (decide ((gI s 7 0) = 0)))) (zb_f (by simp only [decide_eq_false hc1, Bool.true_or, Bool.or_true, Bool.false_or, Bool.or_false, Bool.true_and, Bool.and_true, Bool.false_and, Bool.and_false, Bool.not_true, Bool.not_false, cond_true, cond_false])) ?_
      exact J
    · have hc1 : (gI s 7 0) = 0 := (Decidable.not_not.mp hc)
      refine xW.seg (pc1 := 18) (L1 := [(0, vr 1 1), (1, vi k)]) (st1 := [vi 1]) (h1 := xhp s) 2 (fun _ _ _ _ => rfl) ?_
      refine xW.to (v := vi (zb (decide ((gI s 7 0) = 0)))) (zb_t (by simp only [decide_eq_true hc1, Bool.true_or, Bool.or_true, Bool.false_or, Bool.or_false, Bool.true_and, Bool.and_true, Bool.false_and, Bool.and_false, Bool.not_true, Bool.not_false, cond_true, cond_false])) ?_
      exact J
  refine xW.call (y := 149) (as := [vr 4 34, vr 4 7]) (h0 := xhp s) (pc0 := 30) (len := 3) (L0 := [(2, vi (zb (decide ((gI s 7 0) = 0)))), (0, vr 1 1), (1, vi k)]) (rest := []) 7 (fun _ _ _ _ => rfl) (m149 _ _ _ g.1 ?_)
  show xW (xX0 xs Ls) p128 33 [(2, vi (zb (decide ((gI s 7 0) = 0)))), (0, vr 1 1), (1, vi k)] [] (xhp (en_set s 34 7)) Φ
  replace g := g.2
  refine xW.br (c := (zb (decide ((gI s 7 0) = 0))) = 0) (pc1 := 44) (L1 := [(2, vi (zb (decide ((gI s 7 0) = 0)))), (0, vr 1 1), (1, vi k)]) (st1 := []) (h1 := xhp (en_set s 34 7)) (pc2 := 37) (L2 := [(2, vi (zb (decide ((gI s 7 0) = 0)))), (0, vr 1 1), (1, vi k)]) (st2 := []) (h2 := xhp (en_set s 34 7)) 2 (fun _ _ _ _ => rfl) (fun hc => ?_) (fun hc => ?_)
  · replace g := g.1 (zb_eq0.mp hc)
    exact xW.locs (L := [(0, vr 1 1), (1, vi k), (2, vi (zb (decide ((gI s 7 0) = 0))))]) ⟨rfl, rfl, rfl, trivial⟩ rfl g
  · replace g := g.2 (zb_ne0.mp hc)
    refine xW.call (y := 150) (as := [vr 4 34]) (h0 := xhp (en_set s 34 7)) (pc0 := 41) (len := 3) (L0 := [(2, vi (zb (decide ((gI s 7 0) = 0)))), (0, vr 1 1), (1, vi k)]) (rest := []) 3 (fun _ _ _ _ => rfl) (m150 _ _ ?_)
    show xW (xX0 xs Ls) p128 44 [(2, vi (zb (decide ((gI s 7 0) = 0)))), (0, vr 1 1), (1, vi k)] [] (xhp (en_begin (en_set s 34 7) 34)) Φ
    exact xW.locs (L := [(0, vr 1 1), (1, vi k), (2, vi (zb (decide ((gI s 7 0) = 0))))]) ⟨rfl, rfl, rfl, trivial⟩ rfl g
noncomputable def ca_keyEntry_d (s : xS) (k : Int32) : Int32 × xS := (if (decide ((gI s 7 0) = 0)) = false then (ca_keyEntry_44 (en_set s 34 7) k (zb (decide ((gI s 7 0) = 0)))) else (ca_keyEntry_44 (en_begin (en_set s 34 7) 34) k (zb (decide ((gI s 7 0) = 0)))))
noncomputable def ca_keyEntry : xS → Int32 → Int32 × xS := Classical.choose (⟨ca_keyEntry_d, rfl⟩ : ∃ f, f = ca_keyEntry_d)
set_option maxRecDepth 100000 in
theorem ca_keyEntry_eq : ca_keyEntry = ca_keyEntry_d := Classical.choose_spec (⟨ca_keyEntry_d, rfl⟩ : ∃ f, f = ca_keyEntry_d)
def ca_keyEntry_ok (s : xS) (k : Int32) : Prop := ((en_set_ok s 34 7) ∧ (((decide ((gI s 7 0) = 0)) = false → (ca_keyEntry_44_ok (en_set s 34 7) k (zb (decide ((gI s 7 0) = 0))))) ∧ ((decide ((gI s 7 0) = 0)) = true → (ca_keyEntry_44_ok (en_begin (en_set s 34 7) 34) k (zb (decide ((gI s 7 0) = 0)))))))
set_option maxRecDepth 100000 in
theorem m128 {xs : Nat → Int32} {Ls : Nat} {Ψ : xO → xH → Prop} (s : xS) (k : Int32) (gq : ca_keyEntry_ok s k) (h : Ψ (.inl (some (vi (ca_keyEntry s k).1))) (xhp (ca_keyEntry s k).2)) : xM (xX0 xs Ls) 128 [vr 1 1, vi k] (xhp s) Ψ := by
  rw [ca_keyEntry_eq] at h
  unfold ca_keyEntry_d at h
  unfold ca_keyEntry_ok at gq
  exact xM.of (P := p128) rfl rfl rfl (b128_0 s k (⟨gq.1, by replace gq := gq.2; exact ⟨fun hc => by rw [if_pos hc] at h; replace gq := gq.1 hc; exact n128_44 _ _ _ gq h, fun hc => by rw [if_neg (by rw [hc]; decide)] at h; replace gq := gq.2 hc; exact n128_44 _ _ _ gq h⟩⟩))
/-! ca_workOutFunction -/
theorem b130_0 {xs : Nat → Int32} {Ls : Nat} {Φ : Option xV → xH → Prop} (s : xS) (k : Int32) (g : ((¬ k = 81 → ((¬ k = 83 → ((ar_combine_ok s 47 33 18 32) ∧ Φ (some (vi ((ar_combine s 47 33 18 32).1))) (xhp ((ar_combine s 47 33 18 32).2)))) ∧ (k = 83 → ((ar_combine_ok s 42 18 18 32) ∧ Φ (some (vi ((ar_combine s 42 18 18 32).1))) (xhp ((ar_combine s 42 18 18 32).2)))))) ∧ (k = 81 → ((ar_root_ok s 18 32) ∧ Φ (some (vi ((ar_root s 18 32).1))) (xhp ((ar_root s 18 32).2)))))) : xW (xX0 xs Ls) p130 0 [(0, vr 1 1), (1, vi k)] [] (xhp s) Φ := by
  refine xW.br (c := ¬ k = 81) (pc1 := 25) (L1 := [(0, vr 1 1), (1, vi k)]) (st1 := []) (h1 := xhp s) (pc2 := 6) (L2 := [(0, vr 1 1), (1, vi k)]) (st2 := []) (h2 := xhp s) 3 (fun _ _ _ _ => rfl) (fun hc => ?_) (fun hc => ?_)
  · replace g := g.1 hc
    refine xW.br (c := ¬ k = 83) (pc1 := 59) (L1 := [(0, vr 1 1), (1, vi k)]) (st1 := []) (h1 := xhp s) (pc2 := 31) (L2 := [(0, vr 1 1), (1, vi k)]) (st2 := []) (h2 := xhp s) 3 (fun _ _ _ _ => rfl) (fun hc => ?_) (fun hc => ?_)
    · replace g := g.1 hc
      refine xW.call (y := 116) (as := [vr 6 31, vi 47, vr 5 33, vr 5 18, vr 5 32]) (h0 := xhp s) (pc0 := 80) (len := 3) (L0 := [(0, vr 1 1), (1, vi k)]) (rest := []) 11 (fun _ _ _ _ => rfl) (m116 _ _ _ _ _ g.1 ?_)
      show xW (xX0 xs Ls) p130 83 [(0, vr 1 1), (1, vi k)] [vi ((ar_combine s 47 33 18 32).1)] (xhp ((ar_combine s 47 33 18 32).2)) Φ
      replace g := g.2
      exact xW.ret (v0 := some (vi ((ar_combine s 47 33 18 32).1))) (h1 := xhp ((ar_combine s 47 33 18 32).2)) 1 (fun _ _ _ _ => rfl) g
    · replace g := g.2 (Decidable.not_not.mp hc)
      refine xW.call (y := 116) (as := [vr 6 31, vi 42, vr 5 18, vr 5 18, vr 5 32]) (h0 := xhp s) (pc0 := 55) (len := 3) (L0 := [(0, vr 1 1), (1, vi k)]) (rest := []) 12 (fun _ _ _ _ => rfl) (m116 _ _ _ _ _ g.1 ?_)
      show xW (xX0 xs Ls) p130 58 [(0, vr 1 1), (1, vi k)] [vi ((ar_combine s 42 18 18 32).1)] (xhp ((ar_combine s 42 18 18 32).2)) Φ
      replace g := g.2
      exact xW.ret (v0 := some (vi ((ar_combine s 42 18 18 32).1))) (h1 := xhp ((ar_combine s 42 18 18 32).2)) 1 (fun _ _ _ _ => rfl) g
  · replace g := g.2 (Decidable.not_not.mp hc)
    refine xW.call (y := 117) (as := [vr 6 31, vr 5 18, vr 5 32]) (h0 := xhp s) (pc0 := 21) (len := 3) (L0 := [(0, vr 1 1), (1, vi k)]) (rest := []) 8 (fun _ _ _ _ => rfl) (m117 _ _ _ g.1 ?_)
    show xW (xX0 xs Ls) p130 24 [(0, vr 1 1), (1, vi k)] [vi ((ar_root s 18 32).1)] (xhp ((ar_root s 18 32).2)) Φ
    replace g := g.2
    exact xW.ret (v0 := some (vi ((ar_root s 18 32).1))) (h1 := xhp ((ar_root s 18 32).2)) 1 (fun _ _ _ _ => rfl) g
noncomputable def ca_workOutFunction_d (s : xS) (k : Int32) : Int32 × xS := (if ¬ k = 81 then (if ¬ k = 83 then (ar_combine s 47 33 18 32) else (ar_combine s 42 18 18 32)) else (ar_root s 18 32))
noncomputable def ca_workOutFunction : xS → Int32 → Int32 × xS := Classical.choose (⟨ca_workOutFunction_d, rfl⟩ : ∃ f, f = ca_workOutFunction_d)
set_option maxRecDepth 100000 in
theorem ca_workOutFunction_eq : ca_workOutFunction = ca_workOutFunction_d := Classical.choose_spec (⟨ca_workOutFunction_d, rfl⟩ : ∃ f, f = ca_workOutFunction_d)
def ca_workOutFunction_ok (s : xS) (k : Int32) : Prop := ((¬ k = 81 → ((¬ k = 83 → (ar_combine_ok s 47 33 18 32)) ∧ (k = 83 → (ar_combine_ok s 42 18 18 32)))) ∧ (k = 81 → (ar_root_ok s 18 32)))
set_option maxRecDepth 100000 in
theorem m130 {xs : Nat → Int32} {Ls : Nat} {Ψ : xO → xH → Prop} (s : xS) (k : Int32) (gq : ca_workOutFunction_ok s k) (h : Ψ (.inl (some (vi (ca_workOutFunction s k).1))) (xhp (ca_workOutFunction s k).2)) : xM (xX0 xs Ls) 130 [vr 1 1, vi k] (xhp s) Ψ := by
  rw [ca_workOutFunction_eq] at h
  unfold ca_workOutFunction_d at h
  unfold ca_workOutFunction_ok at gq
  exact xM.of (P := p130) rfl rfl rfl (b130_0 s k (⟨fun hc => by rw [if_pos hc] at h; replace gq := gq.1 hc; exact ⟨fun hc => by rw [if_pos hc] at h; replace gq := gq.1 hc; exact ⟨gq, (by (try dsimp only at h); exact h)⟩, fun hc => by rw [if_neg (fun z => z hc)] at h; replace gq := gq.2 hc; exact ⟨gq, (by (try dsimp only at h); exact h)⟩⟩, fun hc => by rw [if_neg (fun z => z hc)] at h; replace gq := gq.2 hc; exact ⟨gq, (by (try dsimp only at h); exact h)⟩⟩))
/-! ca_keyFunction -/
theorem b131_50 {xs : Nat → Int32} {Ls : Nat} {Φ : Option xV → xH → Prop} (s : xS) (g : Φ none (xhp (de_set s 18 32))) : xW (xX0 xs Ls) p131 50 [(0, vr 1 1)] [] (xhp s) Φ := by
  refine xW.call (y := 137) (as := [vr 5 18, vr 5 32]) (h0 := xhp s) (pc0 := 61) (len := 3) (L0 := [(0, vr 1 1)]) (rest := []) 6 (fun _ _ _ _ => rfl) (m137 _ _ _ ?_)
  show xW (xX0 xs Ls) p131 64 [(0, vr 1 1)] [] (xhp (de_set s 18 32)) Φ
  exact xW.ret (v0 := none) (h1 := xhp (de_set s 18 32)) 1 (fun _ _ _ _ => rfl) g
noncomputable def ca_keyFunction_50_d (s : xS) : xS := (de_set s 18 32)
noncomputable def ca_keyFunction_50 : xS → xS := Classical.choose (⟨ca_keyFunction_50_d, rfl⟩ : ∃ f, f = ca_keyFunction_50_d)
set_option maxRecDepth 100000 in
theorem ca_keyFunction_50_eq : ca_keyFunction_50 = ca_keyFunction_50_d := Classical.choose_spec (⟨ca_keyFunction_50_d, rfl⟩ : ∃ f, f = ca_keyFunction_50_d)
set_option maxRecDepth 100000 in
theorem n131_50 {xs : Nat → Int32} {Ls : Nat} {Φ : Option xV → xH → Prop} (s : xS) (h : Φ none (xhp (ca_keyFunction_50 s))) : xW (xX0 xs Ls) p131 50 [(0, vr 1 1)] [] (xhp s) Φ := by
  rw [ca_keyFunction_50_eq] at h
  unfold ca_keyFunction_50_d at h
  exact b131_50 s (h)
set_option maxRecDepth 100000 in
theorem b131_0 {xs : Nat → Int32} {Ls : Nat} {Φ : Option xV → xH → Prop} (s : xS) (g : ((¬ (gI (ca_endEntry s) 1 2) = 0 → xW (xX0 xs Ls) p131 50 [(0, vr 1 1)] [] (xhp (sI (ca_endEntry s) 5 2 2)) Φ) ∧ ((gI (ca_endEntry s) 1 2) = 0 → xW (xX0 xs Ls) p131 50 [(0, vr 1 1)] [] (xhp (sI (de_set (ca_endEntry s) 22 18) 2 9 1)) Φ))) : xW (xX0 xs Ls) p131 0 [(0, vr 1 1)] [] (xhp s) Φ := by
  refine xW.call (y := 126) (as := [vr 1 1]) (h0 := xhp s) (pc0 := 1) (len := 3) (L0 := [(0, vr 1 1)]) (rest := []) 2 (fun _ _ _ _ => rfl) (m126 _ ?_)
  show xW (xX0 xs Ls) p131 4 [(0, vr 1 1)] [] (xhp (ca_endEntry s)) Φ
  refine xW.br (c := ¬ (gI (ca_endEntry s) 1 2) = 0) (pc1 := 39) (L1 := [(0, vr 1 1)]) (st1 := []) (h1 := xhp (ca_endEntry s)) (pc2 := 11) (L2 := [(0, vr 1 1)]) (st2 := []) (h2 := xhp (ca_endEntry s)) 3 (fun _ _ _ _ => rfl) (fun hc => ?_) (fun hc => ?_)
  · replace g := g.1 hc
    refine xW.seg (pc1 := 50) (L1 := [(0, vr 1 1)]) (st1 := []) (h1 := xhp (sI (ca_endEntry s) 5 2 2)) 5 (fun _ _ _ _ => rfl) ?_
    exact g
  · replace g := g.2 (Decidable.not_not.mp hc)
    refine xW.call (y := 137) (as := [vr 5 22, vr 5 18]) (h0 := xhp (ca_endEntry s)) (pc0 := 25) (len := 3) (L0 := [(0, vr 1 1)]) (rest := []) 7 (fun _ _ _ _ => rfl) (m137 _ _ _ ?_)
    show xW (xX0 xs Ls) p131 28 [(0, vr 1 1)] [] (xhp (de_set (ca_endEntry s) 22 18)) Φ
    refine xW.side (c := (1 : Int32) = 0 ∨ (1 : Int32) = 1) (pc1 := 36) (L1 := [(0, vr 1 1)]) (st1 := []) (h1 := xhp (sI (de_set (ca_endEntry s) 22 18) 2 9 1)) 4 (fun _ _ _ _ => rfl) (Or.inr rfl) ?_
    refine xW.seg (pc1 := 50) (L1 := [(0, vr 1 1)]) (st1 := []) (h1 := xhp (sI (de_set (ca_endEntry s) 22 18) 2 9 1)) 1 (fun _ _ _ _ => rfl) ?_
    exact g
noncomputable def ca_keyFunction_d (s : xS) : xS := (if ¬ (gI (ca_endEntry s) 1 2) = 0 then (ca_keyFunction_50 (sI (ca_endEntry s) 5 2 2)) else (ca_keyFunction_50 (sI (de_set (ca_endEntry s) 22 18) 2 9 1)))
noncomputable def ca_keyFunction : xS → xS := Classical.choose (⟨ca_keyFunction_d, rfl⟩ : ∃ f, f = ca_keyFunction_d)
set_option maxRecDepth 100000 in
theorem ca_keyFunction_eq : ca_keyFunction = ca_keyFunction_d := Classical.choose_spec (⟨ca_keyFunction_d, rfl⟩ : ∃ f, f = ca_keyFunction_d)
set_option maxRecDepth 100000 in
theorem m131 {xs : Nat → Int32} {Ls : Nat} {Ψ : xO → xH → Prop} (s : xS) (h : Ψ (.inl none) (xhp (ca_keyFunction s))) : xM (xX0 xs Ls) 131 [vr 1 1] (xhp s) Ψ := by
  rw [ca_keyFunction_eq] at h
  unfold ca_keyFunction_d at h
  exact xM.of (P := p131) rfl rfl rfl (b131_0 s (⟨fun hc => by rw [if_pos hc] at h; exact n131_50 _ h, fun hc => by rw [if_neg (fun z => z hc)] at h; exact n131_50 _ h⟩))
/-! ca_keyNumber -/
theorem b132_127 {xs : Nat → Int32} {Ls : Nat} {Φ : Option xV → xH → Prop} (s : xS) (x2 : Int32) (x3 : Int32) (g : ((¬ (gI s 1 2) = 0 → ((¬ x2 = 0 → Φ none (xhp s)) ∧ (x2 = 0 → Φ none (xhp (sI s 5 2 2))))) ∧ ((gI s 1 2) = 0 → Φ none (xhp (sI s 2 9 (zb (decide (x3 = 0)))))))) : xW (xX0 xs Ls) p132 127 [(0, vr 1 1), (2, vi x2), (3, vi x3)] [] (xhp s) Φ := by
  refine xW.br (c := ¬ (gI s 1 2) = 0) (pc1 := 153) (L1 := [(0, vr 1 1), (2, vi x2), (3, vi x3)]) (st1 := []) (h1 := xhp s) (pc2 := 134) (L2 := [(0, vr 1 1), (2, vi x2), (3, vi x3)]) (st2 := []) (h2 := xhp s) 3 (fun _ _ _ _ => rfl) (fun hc => ?_) (fun hc => ?_)
  · replace g := g.1 hc
    refine xW.br (c := ¬ x2 = 0) (pc1 := 168) (L1 := [(0, vr 1 1), (2, vi x2), (3, vi x3)]) (st1 := []) (h1 := xhp s) (pc2 := 157) (L2 := [(0, vr 1 1), (2, vi x2), (3, vi x3)]) (st2 := []) (h2 := xhp s) 2 (fun _ _ _ _ => rfl) (fun hc => ?_) (fun hc => ?_)
    · replace g := g.1 hc
      exact xW.ret (v0 := none) (h1 := xhp s) 1 (fun _ _ _ _ => rfl) g
    · replace g := g.2 (Decidable.not_not.mp hc)
      exact xW.ret (v0 := none) (h1 := xhp (sI s 5 2 2)) 6 (fun _ _ _ _ => rfl) g
  · replace g := g.2 (Decidable.not_not.mp hc)
    refine xW.seg (pc1 := 139) (L1 := [(0, vr 1 1), (2, vi x2), (3, vi x3)]) (st1 := [vi x3, vr 2 2]) (h1 := xhp s) 3 (fun _ _ _ _ => rfl) ?_
    suffices J : xW (xX0 xs Ls) p132 147 [(0, vr 1 1), (2, vi x2), (3, vi x3)] [vi (zb (decide (x3 = 0))), vr 2 2] (xhp s) Φ by
      refine xW.br (c := ¬ x3 = 0) (pc1 := 146) (L1 := [(0, vr 1 1), (2, vi x2), (3, vi x3)]) (st1 := [vr 2 2]) (h1 := xhp s) (pc2 := 142) (L2 := [(0, vr 1 1), (2, vi x2), (3, vi x3)]) (st2 := [vr 2 2]) (h2 := xhp s) 1 (fun _ _ _ _ => rfl) (fun hc => ?_) (fun hc => ?_)
      · have hc1 : ¬ x3 = 0 := hc
        refine xW.seg (pc1 := 147) (L1 := [(0, vr 1 1), (2, vi x2), (3, vi x3)]) (st1 := [vi 0, vr 2 2]) (h1 := xhp s) 1 (fun _ _ _ _ => rfl) ?_
        refine xW.to (v := vi (zb (decide (x3 = 0)))) (zb_f (by simp only [decide_eq_false hc1, Bool.true_or, Bool.or_true, Bool.false_or, Bool.or_false, Bool.true_and, Bool.and_true, Bool.false_and, Bool.and_false, Bool.not_true, Bool.not_false, cond_true, cond_false])) ?_
        exact J
      · have hc1 : x3 = 0 := (Decidable.not_not.mp hc)
        refine xW.seg (pc1 := 147) (L1 := [(0, vr 1 1), (2, vi x2), (3, vi x3)]) (st1 := [vi 1, vr 2 2]) (h1 := xhp s) 2 (fun _ _ _ _ => rfl) ?_
        refine xW.to (v := vi (zb (decide (x3 = 0)))) (zb_t (by simp only [decide_eq_true hc1, Bool.true_or, Bool.or_true, Bool.false_or, Bool.or_false, Bool.true_and, Bool.and_true, Bool.false_and, Bool.and_false, Bool.not_true, Bool.not_false, cond_true, cond_false])) ?_
        exact J
    refine xW.side (c := (zb (decide (x3 = 0))) = 0 ∨ (zb (decide (x3 = 0))) = 1) (pc1 := 150) (L1 := [(0, vr 1 1), (2, vi x2), (3, vi x3)]) (st1 := []) (h1 := xhp (sI s 2 9 (zb (decide (x3 = 0))))) 1 (fun _ _ _ _ => rfl) (zb01 _) ?_
    exact xW.ret (v0 := none) (h1 := xhp (sI s 2 9 (zb (decide (x3 = 0))))) 2 (fun _ _ _ _ => rfl) g
noncomputable def ca_keyNumber_127_d (s : xS) (x2 : Int32) (x3 : Int32) : xS := (if ¬ (gI s 1 2) = 0 then (if ¬ x2 = 0 then s else (sI s 5 2 2)) else (sI s 2 9 (zb (decide (x3 = 0)))))
noncomputable def ca_keyNumber_127 : xS → Int32 → Int32 → xS := Classical.choose (⟨ca_keyNumber_127_d, rfl⟩ : ∃ f, f = ca_keyNumber_127_d)
set_option maxRecDepth 100000 in
theorem ca_keyNumber_127_eq : ca_keyNumber_127 = ca_keyNumber_127_d := Classical.choose_spec (⟨ca_keyNumber_127_d, rfl⟩ : ∃ f, f = ca_keyNumber_127_d)
set_option maxRecDepth 100000 in
theorem n132_127 {xs : Nat → Int32} {Ls : Nat} {Φ : Option xV → xH → Prop} (s : xS) (x2 : Int32) (x3 : Int32) (h : Φ none (xhp (ca_keyNumber_127 s x2 x3))) : xW (xX0 xs Ls) p132 127 [(0, vr 1 1), (2, vi x2), (3, vi x3)] [] (xhp s) Φ := by
  rw [ca_keyNumber_127_eq] at h
  unfold ca_keyNumber_127_d at h
  exact b132_127 s x2 x3 (⟨fun hc => by rw [if_pos hc] at h; exact ⟨fun hc => by rw [if_pos hc] at h; exact h, fun hc => by rw [if_neg (fun z => z hc)] at h; exact h⟩, fun hc => by rw [if_neg (fun z => z hc)] at h; exact h⟩)
set_option maxRecDepth 100000 in
theorem b132_0 {xs : Nat → Int32} {Ls : Nat} {Φ : Option xV → xH → Prop} (s : xS) (k : Int32) (g : (((!decide (k < 107)) = false → (((te_isRecall k) = false → ((((decide (k = 67)) || (decide (k = 66))) = false → xW (xX0 xs Ls) p132 127 [(0, vr 1 1), (2, vi (zb (!decide (k < 107)))), (3, vi (zb ((decide (k = 67)) || (decide (k = 66)))))] [] (xhp (sJ (ca_endEntry s) 18 0 (-(gJ (ca_endEntry s) 18 0)))) Φ) ∧ (((decide (k = 67)) || (decide (k = 66))) = true → xW (xX0 xs Ls) p132 127 [(0, vr 1 1), (2, vi (zb (!decide (k < 107)))), (3, vi (zb ((decide (k = 67)) || (decide (k = 66)))))] [] (xhp (de_clear (ca_endEntry s) 18)) Φ))) ∧ ((te_isRecall k) = true → ((vp_in (k - 97) 15 ∧ xRok 3 ((k - 97).toNatClampNeg) 5) ∧ xW (xX0 xs Ls) p132 127 [(0, vr 1 1), (2, vi (zb (!decide (k < 107)))), (3, vi (zb ((decide (k = 67)) || (decide (k = 66)))))] [] (xhp (ca_bring (ca_endEntry s) (xR0 3 ((k - 97).toNatClampNeg) - 1))) Φ)))) ∧ ((!decide (k < 107)) = true → ((vp_in (k - 107) 15 ∧ xRok 3 ((k - 107).toNatClampNeg) 5) ∧ xW (xX0 xs Ls) p132 127 [(0, vr 1 1), (2, vi (zb (!decide (k < 107)))), (3, vi (zb ((decide (k = 67)) || (decide (k = 66)))))] [] (xhp (de_set (ca_endEntry s) (xR0 3 ((k - 107).toNatClampNeg) - 1) 18)) Φ)))) : xW (xX0 xs Ls) p132 0 [(0, vr 1 1), (1, vi k)] [] (xhp s) Φ := by
  refine xW.call (y := 126) (as := [vr 1 1]) (h0 := xhp s) (pc0 := 1) (len := 3) (L0 := [(0, vr 1 1), (1, vi k)]) (rest := []) 2 (fun _ _ _ _ => rfl) (m126 _ ?_)
  show xW (xX0 xs Ls) p132 4 [(0, vr 1 1), (1, vi k)] [] (xhp (ca_endEntry s)) Φ
  refine xW.seg (pc1 := 7) (L1 := [(0, vr 1 1), (1, vi k)]) (st1 := [vi 107, vi k]) (h1 := xhp (ca_endEntry s)) 2 (fun _ _ _ _ => rfl) ?_
  suffices J : xW (xX0 xs Ls) p132 15 [(0, vr 1 1), (1, vi k)] [vi (zb (!decide (k < 107)))] (xhp (ca_endEntry s)) Φ by
    refine xW.br (c := k < 107) (pc1 := 14) (L1 := [(0, vr 1 1), (1, vi k)]) (st1 := []) (h1 := xhp (ca_endEntry s)) (pc2 := 10) (L2 := [(0, vr 1 1), (1, vi k)]) (st2 := []) (h2 := xhp (ca_endEntry s)) 1 (fun _ _ _ _ => rfl) (fun hc => ?_) (fun hc => ?_)
    · have hc1 : k < 107 := hc
      refine xW.seg (pc1 := 15) (L1 := [(0, vr 1 1), (1, vi k)]) (st1 := [vi 0]) (h1 := xhp (ca_endEntry s)) 1 (fun _ _ _ _ => rfl) ?_
      refine xW.to (v := vi (zb (!decide (k < 107)))) (zb_f (by simp only [decide_eq_true hc1, Bool.true_or, Bool.or_true, Bool.false_or, Bool.or_false, Bool.true_and, Bool.and_true, Bool.false_and, Bool.and_false, Bool.not_true, Bool.not_false, cond_true, cond_false])) ?_
      exact J
    · have hc1 : ¬ (k < 107) := hc
      refine xW.seg (pc1 := 15) (L1 := [(0, vr 1 1), (1, vi k)]) (st1 := [vi 1]) (h1 := xhp (ca_endEntry s)) 2 (fun _ _ _ _ => rfl) ?_
      refine xW.to (v := vi (zb (!decide (k < 107)))) (zb_t (by simp only [decide_eq_false hc1, Bool.true_or, Bool.or_true, Bool.false_or, Bool.or_false, Bool.true_and, Bool.and_true, Bool.false_and, Bool.and_false, Bool.not_true, Bool.not_false, cond_true, cond_false])) ?_
      exact J
  refine xW.seg (pc1 := 19) (L1 := [(2, vi (zb (!decide (k < 107)))), (0, vr 1 1), (1, vi k)]) (st1 := [vi 67, vi k]) (h1 := xhp (ca_endEntry s)) 3 (fun _ _ _ _ => rfl) ?_
  suffices J : xW (xX0 xs Ls) p132 33 [(2, vi (zb (!decide (k < 107)))), (0, vr 1 1), (1, vi k)] [vi (zb ((decide (k = 67)) || (decide (k = 66))))] (xhp (ca_endEntry s)) Φ by
    refine xW.br (c := k = 67) (pc1 := 28) (L1 := [(2, vi (zb (!decide (k < 107)))), (0, vr 1 1), (1, vi k)]) (st1 := []) (h1 := xhp (ca_endEntry s)) (pc2 := 22) (L2 := [(2, vi (zb (!decide (k < 107)))), (0, vr 1 1), (1, vi k)]) (st2 := []) (h2 := xhp (ca_endEntry s)) 1 (fun _ _ _ _ => rfl) (fun hc => ?_) (fun hc => ?_)
    · have hc2 : k = 67 := hc
      refine xW.seg (pc1 := 33) (L1 := [(2, vi (zb (!decide (k < 107)))), (0, vr 1 1), (1, vi k)]) (st1 := [vi 1]) (h1 := xhp (ca_endEntry s)) 2 (fun _ _ _ _ => rfl) ?_
      refine xW.to (v := vi (zb ((decide (k = 67)) || (decide (k = 66))))) (zb_t (by simp only [decide_eq_true hc2, Bool.true_or, Bool.or_true, Bool.false_or, Bool.or_false, Bool.true_and, Bool.and_true, Bool.false_and, Bool.and_false, Bool.not_true, Bool.not_false, cond_true, cond_false])) ?_
      exact J
    · have hc2 : ¬ (k = 67) := hc
      refine xW.br (c := ¬ k = 66) (pc1 := 32) (L1 := [(2, vi (zb (!decide (k < 107)))), (0, vr 1 1), (1, vi k)]) (st1 := []) (h1 := xhp (ca_endEntry s)) (pc2 := 28) (L2 := [(2, vi (zb (!decide (k < 107)))), (0, vr 1 1), (1, vi k)]) (st2 := []) (h2 := xhp (ca_endEntry s)) 3 (fun _ _ _ _ => rfl) (fun hc => ?_) (fun hc => ?_)
      · have hc3 : ¬ k = 66 := hc
        refine xW.seg (pc1 := 33) (L1 := [(2, vi (zb (!decide (k < 107)))), (0, vr 1 1), (1, vi k)]) (st1 := [vi 0]) (h1 := xhp (ca_endEntry s)) 1 (fun _ _ _ _ => rfl) ?_
        refine xW.to (v := vi (zb ((decide (k = 67)) || (decide (k = 66))))) (zb_f (by simp only [decide_eq_false hc2, decide_eq_false hc3, Bool.true_or, Bool.or_true, Bool.false_or, Bool.or_false, Bool.true_and, Bool.and_true, Bool.false_and, Bool.and_false, Bool.not_true, Bool.not_false, cond_true, cond_false])) ?_
        exact J
      · have hc3 : k = 66 := (Decidable.not_not.mp hc)
        refine xW.seg (pc1 := 33) (L1 := [(2, vi (zb (!decide (k < 107)))), (0, vr 1 1), (1, vi k)]) (st1 := [vi 1]) (h1 := xhp (ca_endEntry s)) 2 (fun _ _ _ _ => rfl) ?_
        refine xW.to (v := vi (zb ((decide (k = 67)) || (decide (k = 66))))) (zb_t (by simp only [decide_eq_false hc2, decide_eq_true hc3, Bool.true_or, Bool.or_true, Bool.false_or, Bool.or_false, Bool.true_and, Bool.and_true, Bool.false_and, Bool.and_false, Bool.not_true, Bool.not_false, cond_true, cond_false])) ?_
        exact J
  refine xW.br (c := (zb (!decide (k < 107))) = 0) (pc1 := 63) (L1 := [(3, vi (zb ((decide (k = 67)) || (decide (k = 66))))), (2, vi (zb (!decide (k < 107)))), (0, vr 1 1), (1, vi k)]) (st1 := []) (h1 := xhp (ca_endEntry s)) (pc2 := 38) (L2 := [(3, vi (zb ((decide (k = 67)) || (decide (k = 66))))), (2, vi (zb (!decide (k < 107)))), (0, vr 1 1), (1, vi k)]) (st2 := []) (h2 := xhp (ca_endEntry s)) 3 (fun _ _ _ _ => rfl) (fun hc => ?_) (fun hc => ?_)
  · replace g := g.1 (zb_eq0.mp hc)
    refine xW.call (y := 27) (as := [vi k]) (h0 := xhp (ca_endEntry s)) (pc0 := 64) (len := 3) (L0 := [(3, vi (zb ((decide (k = 67)) || (decide (k = 66))))), (2, vi (zb (!decide (k < 107)))), (0, vr 1 1), (1, vi k)]) (rest := []) 2 (fun _ _ _ _ => rfl) (m27 _ _ ?_)
    show xW (xX0 xs Ls) p132 67 [(3, vi (zb ((decide (k = 67)) || (decide (k = 66))))), (2, vi (zb (!decide (k < 107)))), (0, vr 1 1), (1, vi k)] [vi (zb (te_isRecall k))] (xhp (ca_endEntry s)) Φ
    refine xW.br (c := (zb (te_isRecall k)) = 0) (pc1 := 89) (L1 := [(3, vi (zb ((decide (k = 67)) || (decide (k = 66))))), (2, vi (zb (!decide (k < 107)))), (0, vr 1 1), (1, vi k)]) (st1 := []) (h1 := xhp (ca_endEntry s)) (pc2 := 70) (L2 := [(3, vi (zb ((decide (k = 67)) || (decide (k = 66))))), (2, vi (zb (!decide (k < 107)))), (0, vr 1 1), (1, vi k)]) (st2 := []) (h2 := xhp (ca_endEntry s)) 1 (fun _ _ _ _ => rfl) (fun hc => ?_) (fun hc => ?_)
    · replace g := g.1 (zb_eq0.mp hc)
      refine xW.br (c := (zb ((decide (k = 67)) || (decide (k = 66)))) = 0) (pc1 := 106) (L1 := [(3, vi (zb ((decide (k = 67)) || (decide (k = 66))))), (2, vi (zb (!decide (k < 107)))), (0, vr 1 1), (1, vi k)]) (st1 := []) (h1 := xhp (ca_endEntry s)) (pc2 := 93) (L2 := [(3, vi (zb ((decide (k = 67)) || (decide (k = 66))))), (2, vi (zb (!decide (k < 107)))), (0, vr 1 1), (1, vi k)]) (st2 := []) (h2 := xhp (ca_endEntry s)) 2 (fun _ _ _ _ => rfl) (fun hc => ?_) (fun hc => ?_)
      · replace g := g.1 (zb_eq0.mp hc)
        refine xW.seg (pc1 := 127) (L1 := [(3, vi (zb ((decide (k = 67)) || (decide (k = 66))))), (2, vi (zb (!decide (k < 107)))), (0, vr 1 1), (1, vi k)]) (st1 := []) (h1 := xhp (sJ (ca_endEntry s) 18 0 (-(gJ (ca_endEntry s) 18 0)))) 9 (fun _ _ _ _ => rfl) ?_
        exact xW.locs (L := [(0, vr 1 1), (2, vi (zb (!decide (k < 107)))), (3, vi (zb ((decide (k = 67)) || (decide (k = 66)))))]) ⟨rfl, rfl, rfl, trivial⟩ rfl g
      · replace g := g.2 (zb_ne0.mp hc)
        refine xW.call (y := 139) (as := [vr 5 18]) (h0 := xhp (ca_endEntry s)) (pc0 := 100) (len := 3) (L0 := [(3, vi (zb ((decide (k = 67)) || (decide (k = 66))))), (2, vi (zb (!decide (k < 107)))), (0, vr 1 1), (1, vi k)]) (rest := []) 4 (fun _ _ _ _ => rfl) (m139 _ _ ?_)
        show xW (xX0 xs Ls) p132 103 [(3, vi (zb ((decide (k = 67)) || (decide (k = 66))))), (2, vi (zb (!decide (k < 107)))), (0, vr 1 1), (1, vi k)] [] (xhp (de_clear (ca_endEntry s) 18)) Φ
        refine xW.seg (pc1 := 127) (L1 := [(3, vi (zb ((decide (k = 67)) || (decide (k = 66))))), (2, vi (zb (!decide (k < 107)))), (0, vr 1 1), (1, vi k)]) (st1 := []) (h1 := xhp (de_clear (ca_endEntry s) 18)) 1 (fun _ _ _ _ => rfl) ?_
        exact xW.locs (L := [(0, vr 1 1), (2, vi (zb (!decide (k < 107)))), (3, vi (zb ((decide (k = 67)) || (decide (k = 66)))))]) ⟨rfl, rfl, rfl, trivial⟩ rfl g
    · replace g := g.2 (zb_ne0.mp hc)
      refine xW.refr (r := xR0 3 ((k - 97).toNatClampNeg)) (a := (xR0 3 ((k - 97).toNatClampNeg) - 1)) (kind := 5) (c := vp_in (k - 97) 15) (h0 := xhp (ca_endEntry s)) (pc1 := 83) (L1 := [(3, vi (zb ((decide (k = 67)) || (decide (k = 66))))), (2, vi (zb (!decide (k < 107)))), (0, vr 1 1), (1, vi k)]) (st1 := [vr 1 1]) (h1 := xhp (ca_endEntry s)) 8 (fun _ _ _ _ => rfl) g.1.1 g.1.2.1 g.1.2.2 ?_
      replace g := g.2
      refine xW.call (y := 129) (as := [vr 1 1, vr 5 (xR0 3 ((k - 97).toNatClampNeg) - 1)]) (h0 := xhp (ca_endEntry s)) (pc0 := 83) (len := 3) (L0 := [(3, vi (zb ((decide (k = 67)) || (decide (k = 66))))), (2, vi (zb (!decide (k < 107)))), (0, vr 1 1), (1, vi k)]) (rest := []) 1 (fun _ _ _ _ => rfl) (m129 _ _ ?_)
      show xW (xX0 xs Ls) p132 86 [(3, vi (zb ((decide (k = 67)) || (decide (k = 66))))), (2, vi (zb (!decide (k < 107)))), (0, vr 1 1), (1, vi k)] [] (xhp (ca_bring (ca_endEntry s) (xR0 3 ((k - 97).toNatClampNeg) - 1))) Φ
      refine xW.seg (pc1 := 127) (L1 := [(3, vi (zb ((decide (k = 67)) || (decide (k = 66))))), (2, vi (zb (!decide (k < 107)))), (0, vr 1 1), (1, vi k)]) (st1 := []) (h1 := xhp (ca_bring (ca_endEntry s) (xR0 3 ((k - 97).toNatClampNeg) - 1))) 1 (fun _ _ _ _ => rfl) ?_
      exact xW.locs (L := [(0, vr 1 1), (2, vi (zb (!decide (k < 107)))), (3, vi (zb ((decide (k = 67)) || (decide (k = 66)))))]) ⟨rfl, rfl, rfl, trivial⟩ rfl g
  · replace g := g.2 (zb_ne0.mp hc)
    refine xW.refr (r := xR0 3 ((k - 107).toNatClampNeg)) (a := (xR0 3 ((k - 107).toNatClampNeg) - 1)) (kind := 5) (c := vp_in (k - 107) 15) (h0 := xhp (ca_endEntry s)) (pc1 := 50) (L1 := [(3, vi (zb ((decide (k = 67)) || (decide (k = 66))))), (2, vi (zb (!decide (k < 107)))), (0, vr 1 1), (1, vi k)]) (st1 := []) (h1 := xhp (ca_endEntry s)) 7 (fun _ _ _ _ => rfl) g.1.1 g.1.2.1 g.1.2.2 ?_
    replace g := g.2
    refine xW.call (y := 137) (as := [vr 5 (xR0 3 ((k - 107).toNatClampNeg) - 1), vr 5 18]) (h0 := xhp (ca_endEntry s)) (pc0 := 57) (len := 3) (L0 := [(3, vi (zb ((decide (k = 67)) || (decide (k = 66))))), (2, vi (zb (!decide (k < 107)))), (0, vr 1 1), (1, vi k)]) (rest := []) 4 (fun _ _ _ _ => rfl) (m137 _ _ _ ?_)
    show xW (xX0 xs Ls) p132 60 [(3, vi (zb ((decide (k = 67)) || (decide (k = 66))))), (2, vi (zb (!decide (k < 107)))), (0, vr 1 1), (1, vi k)] [] (xhp (de_set (ca_endEntry s) (xR0 3 ((k - 107).toNatClampNeg) - 1) 18)) Φ
    refine xW.seg (pc1 := 127) (L1 := [(3, vi (zb ((decide (k = 67)) || (decide (k = 66))))), (2, vi (zb (!decide (k < 107)))), (0, vr 1 1), (1, vi k)]) (st1 := []) (h1 := xhp (de_set (ca_endEntry s) (xR0 3 ((k - 107).toNatClampNeg) - 1) 18)) 1 (fun _ _ _ _ => rfl) ?_
    exact xW.locs (L := [(0, vr 1 1), (2, vi (zb (!decide (k < 107)))), (3, vi (zb ((decide (k = 67)) || (decide (k = 66)))))]) ⟨rfl, rfl, rfl, trivial⟩ rfl g
noncomputable def ca_keyNumber_d (s : xS) (k : Int32) : xS := (if (!decide (k < 107)) = false then (if (te_isRecall k) = false then (if ((decide (k = 67)) || (decide (k = 66))) = false then (ca_keyNumber_127 (sJ (ca_endEntry s) 18 0 (-(gJ (ca_endEntry s) 18 0))) (zb (!decide (k < 107))) (zb ((decide (k = 67)) || (decide (k = 66))))) else (ca_keyNumber_127 (de_clear (ca_endEntry s) 18) (zb (!decide (k < 107))) (zb ((decide (k = 67)) || (decide (k = 66)))))) else (ca_keyNumber_127 (ca_bring (ca_endEntry s) (xR0 3 ((k - 97).toNatClampNeg) - 1)) (zb (!decide (k < 107))) (zb ((decide (k = 67)) || (decide (k = 66)))))) else (ca_keyNumber_127 (de_set (ca_endEntry s) (xR0 3 ((k - 107).toNatClampNeg) - 1) 18) (zb (!decide (k < 107))) (zb ((decide (k = 67)) || (decide (k = 66))))))
noncomputable def ca_keyNumber : xS → Int32 → xS := Classical.choose (⟨ca_keyNumber_d, rfl⟩ : ∃ f, f = ca_keyNumber_d)
set_option maxRecDepth 100000 in
theorem ca_keyNumber_eq : ca_keyNumber = ca_keyNumber_d := Classical.choose_spec (⟨ca_keyNumber_d, rfl⟩ : ∃ f, f = ca_keyNumber_d)
def ca_keyNumber_ok (s : xS) (k : Int32) : Prop := (((!decide (k < 107)) = false → ((te_isRecall k) = true → (vp_in (k - 97) 15 ∧ xRok 3 ((k - 97).toNatClampNeg) 5))) ∧ ((!decide (k < 107)) = true → (vp_in (k - 107) 15 ∧ xRok 3 ((k - 107).toNatClampNeg) 5)))
set_option maxRecDepth 100000 in
theorem m132 {xs : Nat → Int32} {Ls : Nat} {Ψ : xO → xH → Prop} (s : xS) (k : Int32) (gq : ca_keyNumber_ok s k) (h : Ψ (.inl none) (xhp (ca_keyNumber s k))) : xM (xX0 xs Ls) 132 [vr 1 1, vi k] (xhp s) Ψ := by
  rw [ca_keyNumber_eq] at h
  unfold ca_keyNumber_d at h
  unfold ca_keyNumber_ok at gq
  exact xM.of (P := p132) rfl rfl rfl (b132_0 s k (⟨fun hc => by rw [if_pos hc] at h; replace gq := gq.1 hc; exact ⟨fun hc => by rw [if_pos hc] at h; exact ⟨fun hc => by rw [if_pos hc] at h; exact n132_127 _ _ _ h, fun hc => by rw [if_neg (by rw [hc]; decide)] at h; exact n132_127 _ _ _ h⟩, fun hc => by rw [if_neg (by rw [hc]; decide)] at h; replace gq := gq hc; exact ⟨gq, n132_127 _ _ _ h⟩⟩, fun hc => by rw [if_neg (by rw [hc]; decide)] at h; replace gq := gq.2 hc; exact ⟨gq, n132_127 _ _ _ h⟩⟩))
/-! ca_keyOperation -/
theorem b133_0 {xs : Nat → Int32} {Ls : Nat} {Φ : Option xV → xH → Prop} (s : xS) (k : Int32) (g : ((ar_combine_ok s k 19 18 32) ∧ (((ar_combine s k 19 18 32).1 = 0 → Φ (some (vi 0)) (xhp (sI (de_set (de_set (de_set (de_set (ca_endEntry ((ar_combine s k 19 18 32).2)) 22 18) 18 32) 19 20) 20 21) 2 9 1))) ∧ (¬ ((ar_combine s k 19 18 32).1 = 0) → Φ (some (vi ((ar_combine s k 19 18 32).1))) (xhp ((ar_combine s k 19 18 32).2)))))) : xW (xX0 xs Ls) p133 0 [(0, vr 1 1), (1, vi k)] [] (xhp s) Φ := by
  refine xW.call (y := 116) (as := [vr 6 31, vi k, vr 5 19, vr 5 18, vr 5 32]) (h0 := xhp s) (pc0 := 23) (len := 3) (L0 := [(0, vr 1 1), (1, vi k)]) (rest := []) 12 (fun _ _ _ _ => rfl) (m116 _ _ _ _ _ g.1 ?_)
  show xW (xX0 xs Ls) p133 26 [(0, vr 1 1), (1, vi k)] [vi ((ar_combine s k 19 18 32).1)] (xhp ((ar_combine s k 19 18 32).2)) Φ
  replace g := g.2
  refine xW.br (c := (ar_combine s k 19 18 32).1 = 0) (pc1 := 33) (L1 := [(2, vi ((ar_combine s k 19 18 32).1)), (0, vr 1 1), (1, vi k)]) (st1 := []) (h1 := xhp ((ar_combine s k 19 18 32).2)) (pc2 := 31) (L2 := [(2, vi ((ar_combine s k 19 18 32).1)), (0, vr 1 1), (1, vi k)]) (st2 := []) (h2 := xhp ((ar_combine s k 19 18 32).2)) 3 (fun _ _ _ _ => rfl) (fun hc => ?_) (fun hc => ?_)
  · replace g := g.1 hc
    refine xW.call (y := 126) (as := [vr 1 1]) (h0 := xhp ((ar_combine s k 19 18 32).2)) (pc0 := 34) (len := 3) (L0 := [(2, vi ((ar_combine s k 19 18 32).1)), (0, vr 1 1), (1, vi k)]) (rest := []) 2 (fun _ _ _ _ => rfl) (m126 _ ?_)
    show xW (xX0 xs Ls) p133 37 [(2, vi ((ar_combine s k 19 18 32).1)), (0, vr 1 1), (1, vi k)] [] (xhp (ca_endEntry ((ar_combine s k 19 18 32).2))) Φ
    refine xW.call (y := 137) (as := [vr 5 22, vr 5 18]) (h0 := xhp (ca_endEntry ((ar_combine s k 19 18 32).2))) (pc0 := 51) (len := 3) (L0 := [(2, vi ((ar_combine s k 19 18 32).1)), (0, vr 1 1), (1, vi k)]) (rest := []) 7 (fun _ _ _ _ => rfl) (m137 _ _ _ ?_)
    show xW (xX0 xs Ls) p133 54 [(2, vi ((ar_combine s k 19 18 32).1)), (0, vr 1 1), (1, vi k)] [] (xhp (de_set (ca_endEntry ((ar_combine s k 19 18 32).2)) 22 18)) Φ
    refine xW.call (y := 137) (as := [vr 5 18, vr 5 32]) (h0 := xhp (de_set (ca_endEntry ((ar_combine s k 19 18 32).2)) 22 18)) (pc0 := 65) (len := 3) (L0 := [(2, vi ((ar_combine s k 19 18 32).1)), (0, vr 1 1), (1, vi k)]) (rest := []) 6 (fun _ _ _ _ => rfl) (m137 _ _ _ ?_)
    show xW (xX0 xs Ls) p133 68 [(2, vi ((ar_combine s k 19 18 32).1)), (0, vr 1 1), (1, vi k)] [] (xhp (de_set (de_set (ca_endEntry ((ar_combine s k 19 18 32).2)) 22 18) 18 32)) Φ
    refine xW.call (y := 137) (as := [vr 5 19, vr 5 20]) (h0 := xhp (de_set (de_set (ca_endEntry ((ar_combine s k 19 18 32).2)) 22 18) 18 32)) (pc0 := 82) (len := 3) (L0 := [(2, vi ((ar_combine s k 19 18 32).1)), (0, vr 1 1), (1, vi k)]) (rest := []) 7 (fun _ _ _ _ => rfl) (m137 _ _ _ ?_)
    show xW (xX0 xs Ls) p133 85 [(2, vi ((ar_combine s k 19 18 32).1)), (0, vr 1 1), (1, vi k)] [] (xhp (de_set (de_set (de_set (ca_endEntry ((ar_combine s k 19 18 32).2)) 22 18) 18 32) 19 20)) Φ
    refine xW.call (y := 137) (as := [vr 5 20, vr 5 21]) (h0 := xhp (de_set (de_set (de_set (ca_endEntry ((ar_combine s k 19 18 32).2)) 22 18) 18 32) 19 20)) (pc0 := 99) (len := 3) (L0 := [(2, vi ((ar_combine s k 19 18 32).1)), (0, vr 1 1), (1, vi k)]) (rest := []) 7 (fun _ _ _ _ => rfl) (m137 _ _ _ ?_)
    show xW (xX0 xs Ls) p133 102 [(2, vi ((ar_combine s k 19 18 32).1)), (0, vr 1 1), (1, vi k)] [] (xhp (de_set (de_set (de_set (de_set (ca_endEntry ((ar_combine s k 19 18 32).2)) 22 18) 18 32) 19 20) 20 21)) Φ
    refine xW.side (c := (1 : Int32) = 0 ∨ (1 : Int32) = 1) (pc1 := 110) (L1 := [(2, vi ((ar_combine s k 19 18 32).1)), (0, vr 1 1), (1, vi k)]) (st1 := []) (h1 := xhp (sI (de_set (de_set (de_set (de_set (ca_endEntry ((ar_combine s k 19 18 32).2)) 22 18) 18 32) 19 20) 20 21) 2 9 1)) 4 (fun _ _ _ _ => rfl) (Or.inr rfl) ?_
    exact xW.ret (v0 := some (vi 0)) (h1 := xhp (sI (de_set (de_set (de_set (de_set (ca_endEntry ((ar_combine s k 19 18 32).2)) 22 18) 18 32) 19 20) 20 21) 2 9 1)) 2 (fun _ _ _ _ => rfl) g
  · replace g := g.2 hc
    exact xW.ret (v0 := some (vi ((ar_combine s k 19 18 32).1))) (h1 := xhp ((ar_combine s k 19 18 32).2)) 2 (fun _ _ _ _ => rfl) g
noncomputable def ca_keyOperation_d (s : xS) (k : Int32) : Int32 × xS := (if (ar_combine s k 19 18 32).1 = 0 then (0, (sI (de_set (de_set (de_set (de_set (ca_endEntry ((ar_combine s k 19 18 32).2)) 22 18) 18 32) 19 20) 20 21) 2 9 1)) else (ar_combine s k 19 18 32))
noncomputable def ca_keyOperation : xS → Int32 → Int32 × xS := Classical.choose (⟨ca_keyOperation_d, rfl⟩ : ∃ f, f = ca_keyOperation_d)
set_option maxRecDepth 100000 in
theorem ca_keyOperation_eq : ca_keyOperation = ca_keyOperation_d := Classical.choose_spec (⟨ca_keyOperation_d, rfl⟩ : ∃ f, f = ca_keyOperation_d)
def ca_keyOperation_ok (s : xS) (k : Int32) : Prop := (ar_combine_ok s k 19 18 32)
set_option maxRecDepth 100000 in
theorem m133 {xs : Nat → Int32} {Ls : Nat} {Ψ : xO → xH → Prop} (s : xS) (k : Int32) (gq : ca_keyOperation_ok s k) (h : Ψ (.inl (some (vi (ca_keyOperation s k).1))) (xhp (ca_keyOperation s k).2)) : xM (xX0 xs Ls) 133 [vr 1 1, vi k] (xhp s) Ψ := by
  rw [ca_keyOperation_eq] at h
  unfold ca_keyOperation_d at h
  unfold ca_keyOperation_ok at gq
  exact xM.of (P := p133) rfl rfl rfl (b133_0 s k (⟨gq, ⟨fun hc => by rw [if_pos hc] at h; exact (by (try dsimp only at h); exact h), fun hc => by rw [if_neg hc] at h; exact (by (try dsimp only at h); exact h)⟩⟩))
/-! ca_keyStack -/
theorem b134_168 {xs : Nat → Int32} {Ls : Nat} {Φ : Option xV → xH → Prop} (s : xS) (x1 : Int32) (g : Φ (some (vi 0)) (xhp (sI s 2 9 (zb (!decide (x1 = 61)))))) : xW (xX0 xs Ls) p134 168 [(0, vr 1 1), (1, vi x1)] [] (xhp s) Φ := by
  refine xW.seg (pc1 := 175) (L1 := [(0, vr 1 1), (1, vi x1)]) (st1 := [vi 61, vi x1, vr 2 2]) (h1 := xhp s) 4 (fun _ _ _ _ => rfl) ?_
  suffices J : xW (xX0 xs Ls) p134 183 [(0, vr 1 1), (1, vi x1)] [vi (zb (!decide (x1 = 61))), vr 2 2] (xhp s) Φ by
    refine xW.br (c := x1 = 61) (pc1 := 182) (L1 := [(0, vr 1 1), (1, vi x1)]) (st1 := [vr 2 2]) (h1 := xhp s) (pc2 := 178) (L2 := [(0, vr 1 1), (1, vi x1)]) (st2 := [vr 2 2]) (h2 := xhp s) 1 (fun _ _ _ _ => rfl) (fun hc => ?_) (fun hc => ?_)
    · have hc1 : x1 = 61 := hc
      refine xW.seg (pc1 := 183) (L1 := [(0, vr 1 1), (1, vi x1)]) (st1 := [vi 0, vr 2 2]) (h1 := xhp s) 1 (fun _ _ _ _ => rfl) ?_
      refine xW.to (v := vi (zb (!decide (x1 = 61)))) (zb_f (by simp only [decide_eq_true hc1, Bool.true_or, Bool.or_true, Bool.false_or, Bool.or_false, Bool.true_and, Bool.and_true, Bool.false_and, Bool.and_false, Bool.not_true, Bool.not_false, cond_true, cond_false])) ?_
      exact J
    · have hc1 : ¬ (x1 = 61) := hc
      refine xW.seg (pc1 := 183) (L1 := [(0, vr 1 1), (1, vi x1)]) (st1 := [vi 1, vr 2 2]) (h1 := xhp s) 2 (fun _ _ _ _ => rfl) ?_
      refine xW.to (v := vi (zb (!decide (x1 = 61)))) (zb_t (by simp only [decide_eq_false hc1, Bool.true_or, Bool.or_true, Bool.false_or, Bool.or_false, Bool.true_and, Bool.and_true, Bool.false_and, Bool.and_false, Bool.not_true, Bool.not_false, cond_true, cond_false])) ?_
      exact J
  refine xW.side (c := (zb (!decide (x1 = 61))) = 0 ∨ (zb (!decide (x1 = 61))) = 1) (pc1 := 186) (L1 := [(0, vr 1 1), (1, vi x1)]) (st1 := []) (h1 := xhp (sI s 2 9 (zb (!decide (x1 = 61))))) 1 (fun _ _ _ _ => rfl) (zb01 _) ?_
  exact xW.ret (v0 := some (vi 0)) (h1 := xhp (sI s 2 9 (zb (!decide (x1 = 61))))) 2 (fun _ _ _ _ => rfl) g
noncomputable def ca_keyStack_168_d (s : xS) (x1 : Int32) : Int32 × xS := (0, (sI s 2 9 (zb (!decide (x1 = 61)))))
noncomputable def ca_keyStack_168 : xS → Int32 → Int32 × xS := Classical.choose (⟨ca_keyStack_168_d, rfl⟩ : ∃ f, f = ca_keyStack_168_d)
set_option maxRecDepth 100000 in
theorem ca_keyStack_168_eq : ca_keyStack_168 = ca_keyStack_168_d := Classical.choose_spec (⟨ca_keyStack_168_d, rfl⟩ : ∃ f, f = ca_keyStack_168_d)
set_option maxRecDepth 100000 in
theorem n134_168 {xs : Nat → Int32} {Ls : Nat} {Φ : Option xV → xH → Prop} (s : xS) (x1 : Int32) (h : Φ (some (vi (ca_keyStack_168 s x1).1)) (xhp (ca_keyStack_168 s x1).2)) : xW (xX0 xs Ls) p134 168 [(0, vr 1 1), (1, vi x1)] [] (xhp s) Φ := by
  rw [ca_keyStack_168_eq] at h
  unfold ca_keyStack_168_d at h
  exact b134_168 s x1 ((by (try dsimp only at h); exact h))
set_option maxRecDepth 100000 in
theorem b134_26 {xs : Nat → Int32} {Ls : Nat} {Φ : Option xV → xH → Prop} (s : xS) (x1 : Int32) (g : ((¬ x1 = 61 → ((¬ x1 = 76 → ((¬ x1 = 87 → xW (xX0 xs Ls) p134 168 [(0, vr 1 1), (1, vi x1)] [] (xhp (de_set (de_set (de_set (de_set (de_set (ca_endEntry s) 32 18) 18 19) 19 20) 20 21) 21 32)) Φ) ∧ (x1 = 87 → xW (xX0 xs Ls) p134 168 [(0, vr 1 1), (1, vi x1)] [] (xhp (de_set (de_set (de_set (ca_endEntry s) 32 18) 18 19) 19 32)) Φ))) ∧ (x1 = 76 → xW (xX0 xs Ls) p134 168 [(0, vr 1 1), (1, vi x1)] [] (xhp (ca_bring (ca_endEntry s) 22)) Φ))) ∧ (x1 = 61 → xW (xX0 xs Ls) p134 168 [(0, vr 1 1), (1, vi x1)] [] (xhp (dk_raise (ca_endEntry s))) Φ))) : xW (xX0 xs Ls) p134 26 [(0, vr 1 1), (1, vi x1)] [] (xhp s) Φ := by
  refine xW.call (y := 126) (as := [vr 1 1]) (h0 := xhp s) (pc0 := 27) (len := 3) (L0 := [(0, vr 1 1), (1, vi x1)]) (rest := []) 2 (fun _ _ _ _ => rfl) (m126 _ ?_)
  show xW (xX0 xs Ls) p134 30 [(0, vr 1 1), (1, vi x1)] [] (xhp (ca_endEntry s)) Φ
  refine xW.br (c := ¬ x1 = 61) (pc1 := 46) (L1 := [(0, vr 1 1), (1, vi x1)]) (st1 := []) (h1 := xhp (ca_endEntry s)) (pc2 := 36) (L2 := [(0, vr 1 1), (1, vi x1)]) (st2 := []) (h2 := xhp (ca_endEntry s)) 3 (fun _ _ _ _ => rfl) (fun hc => ?_) (fun hc => ?_)
  · replace g := g.1 hc
    refine xW.br (c := ¬ x1 = 76) (pc1 := 66) (L1 := [(0, vr 1 1), (1, vi x1)]) (st1 := []) (h1 := xhp (ca_endEntry s)) (pc2 := 52) (L2 := [(0, vr 1 1), (1, vi x1)]) (st2 := []) (h2 := xhp (ca_endEntry s)) 3 (fun _ _ _ _ => rfl) (fun hc => ?_) (fun hc => ?_)
    · replace g := g.1 hc
      refine xW.call (y := 137) (as := [vr 5 32, vr 5 18]) (h0 := xhp (ca_endEntry s)) (pc0 := 77) (len := 3) (L0 := [(0, vr 1 1), (1, vi x1)]) (rest := []) 6 (fun _ _ _ _ => rfl) (m137 _ _ _ ?_)
      show xW (xX0 xs Ls) p134 80 [(0, vr 1 1), (1, vi x1)] [] (xhp (de_set (ca_endEntry s) 32 18)) Φ
      refine xW.call (y := 137) (as := [vr 5 18, vr 5 19]) (h0 := xhp (de_set (ca_endEntry s) 32 18)) (pc0 := 94) (len := 3) (L0 := [(0, vr 1 1), (1, vi x1)]) (rest := []) 7 (fun _ _ _ _ => rfl) (m137 _ _ _ ?_)
      show xW (xX0 xs Ls) p134 97 [(0, vr 1 1), (1, vi x1)] [] (xhp (de_set (de_set (ca_endEntry s) 32 18) 18 19)) Φ
      refine xW.br (c := ¬ x1 = 87) (pc1 := 120) (L1 := [(0, vr 1 1), (1, vi x1)]) (st1 := []) (h1 := xhp (de_set (de_set (ca_endEntry s) 32 18) 18 19)) (pc2 := 103) (L2 := [(0, vr 1 1), (1, vi x1)]) (st2 := []) (h2 := xhp (de_set (de_set (ca_endEntry s) 32 18) 18 19)) 3 (fun _ _ _ _ => rfl) (fun hc => ?_) (fun hc => ?_)
      · replace g := g.1 hc
        refine xW.call (y := 137) (as := [vr 5 19, vr 5 20]) (h0 := xhp (de_set (de_set (ca_endEntry s) 32 18) 18 19)) (pc0 := 134) (len := 3) (L0 := [(0, vr 1 1), (1, vi x1)]) (rest := []) 7 (fun _ _ _ _ => rfl) (m137 _ _ _ ?_)
        show xW (xX0 xs Ls) p134 137 [(0, vr 1 1), (1, vi x1)] [] (xhp (de_set (de_set (de_set (ca_endEntry s) 32 18) 18 19) 19 20)) Φ
        refine xW.call (y := 137) (as := [vr 5 20, vr 5 21]) (h0 := xhp (de_set (de_set (de_set (ca_endEntry s) 32 18) 18 19) 19 20)) (pc0 := 151) (len := 3) (L0 := [(0, vr 1 1), (1, vi x1)]) (rest := []) 7 (fun _ _ _ _ => rfl) (m137 _ _ _ ?_)
        show xW (xX0 xs Ls) p134 154 [(0, vr 1 1), (1, vi x1)] [] (xhp (de_set (de_set (de_set (de_set (ca_endEntry s) 32 18) 18 19) 19 20) 20 21)) Φ
        refine xW.call (y := 137) (as := [vr 5 21, vr 5 32]) (h0 := xhp (de_set (de_set (de_set (de_set (ca_endEntry s) 32 18) 18 19) 19 20) 20 21)) (pc0 := 165) (len := 3) (L0 := [(0, vr 1 1), (1, vi x1)]) (rest := []) 6 (fun _ _ _ _ => rfl) (m137 _ _ _ ?_)
        show xW (xX0 xs Ls) p134 168 [(0, vr 1 1), (1, vi x1)] [] (xhp (de_set (de_set (de_set (de_set (de_set (ca_endEntry s) 32 18) 18 19) 19 20) 20 21) 21 32)) Φ
        exact g
      · replace g := g.2 (Decidable.not_not.mp hc)
        refine xW.call (y := 137) (as := [vr 5 19, vr 5 32]) (h0 := xhp (de_set (de_set (ca_endEntry s) 32 18) 18 19)) (pc0 := 114) (len := 3) (L0 := [(0, vr 1 1), (1, vi x1)]) (rest := []) 6 (fun _ _ _ _ => rfl) (m137 _ _ _ ?_)
        show xW (xX0 xs Ls) p134 117 [(0, vr 1 1), (1, vi x1)] [] (xhp (de_set (de_set (de_set (ca_endEntry s) 32 18) 18 19) 19 32)) Φ
        refine xW.seg (pc1 := 168) (L1 := [(0, vr 1 1), (1, vi x1)]) (st1 := []) (h1 := xhp (de_set (de_set (de_set (ca_endEntry s) 32 18) 18 19) 19 32)) 1 (fun _ _ _ _ => rfl) ?_
        exact g
    · replace g := g.2 (Decidable.not_not.mp hc)
      refine xW.call (y := 129) (as := [vr 1 1, vr 5 22]) (h0 := xhp (ca_endEntry s)) (pc0 := 60) (len := 3) (L0 := [(0, vr 1 1), (1, vi x1)]) (rest := []) 5 (fun _ _ _ _ => rfl) (m129 _ _ ?_)
      show xW (xX0 xs Ls) p134 63 [(0, vr 1 1), (1, vi x1)] [] (xhp (ca_bring (ca_endEntry s) 22)) Φ
      refine xW.seg (pc1 := 168) (L1 := [(0, vr 1 1), (1, vi x1)]) (st1 := []) (h1 := xhp (ca_bring (ca_endEntry s) 22)) 1 (fun _ _ _ _ => rfl) ?_
      exact g
  · replace g := g.2 (Decidable.not_not.mp hc)
    refine xW.call (y := 146) (as := [vr 2 2]) (h0 := xhp (ca_endEntry s)) (pc0 := 40) (len := 3) (L0 := [(0, vr 1 1), (1, vi x1)]) (rest := []) 3 (fun _ _ _ _ => rfl) (m146 _ ?_)
    show xW (xX0 xs Ls) p134 43 [(0, vr 1 1), (1, vi x1)] [] (xhp (dk_raise (ca_endEntry s))) Φ
    refine xW.seg (pc1 := 168) (L1 := [(0, vr 1 1), (1, vi x1)]) (st1 := []) (h1 := xhp (dk_raise (ca_endEntry s))) 1 (fun _ _ _ _ => rfl) ?_
    exact g
noncomputable def ca_keyStack_26_d (s : xS) (x1 : Int32) : Int32 × xS := (if ¬ x1 = 61 then (if ¬ x1 = 76 then (if ¬ x1 = 87 then (ca_keyStack_168 (de_set (de_set (de_set (de_set (de_set (ca_endEntry s) 32 18) 18 19) 19 20) 20 21) 21 32) x1) else (ca_keyStack_168 (de_set (de_set (de_set (ca_endEntry s) 32 18) 18 19) 19 32) x1)) else (ca_keyStack_168 (ca_bring (ca_endEntry s) 22) x1)) else (ca_keyStack_168 (dk_raise (ca_endEntry s)) x1))
noncomputable def ca_keyStack_26 : xS → Int32 → Int32 × xS := Classical.choose (⟨ca_keyStack_26_d, rfl⟩ : ∃ f, f = ca_keyStack_26_d)
set_option maxRecDepth 100000 in
theorem ca_keyStack_26_eq : ca_keyStack_26 = ca_keyStack_26_d := Classical.choose_spec (⟨ca_keyStack_26_d, rfl⟩ : ∃ f, f = ca_keyStack_26_d)
set_option maxRecDepth 100000 in
theorem n134_26 {xs : Nat → Int32} {Ls : Nat} {Φ : Option xV → xH → Prop} (s : xS) (x1 : Int32) (h : Φ (some (vi (ca_keyStack_26 s x1).1)) (xhp (ca_keyStack_26 s x1).2)) : xW (xX0 xs Ls) p134 26 [(0, vr 1 1), (1, vi x1)] [] (xhp s) Φ := by
  rw [ca_keyStack_26_eq] at h
  unfold ca_keyStack_26_d at h
  exact b134_26 s x1 (⟨fun hc => by rw [if_pos hc] at h; exact ⟨fun hc => by rw [if_pos hc] at h; exact ⟨fun hc => by rw [if_pos hc] at h; exact n134_168 _ _ h, fun hc => by rw [if_neg (fun z => z hc)] at h; exact n134_168 _ _ h⟩, fun hc => by rw [if_neg (fun z => z hc)] at h; exact n134_168 _ _ h⟩, fun hc => by rw [if_neg (fun z => z hc)] at h; exact n134_168 _ _ h⟩)
set_option maxRecDepth 100000 in
theorem b134_0 {xs : Nat → Int32} {Ls : Nat} {Φ : Option xV → xH → Prop} (s : xS) (k : Int32) (g : ((k = 61 → xW (xX0 xs Ls) p134 26 [(0, vr 1 1), (1, vi k)] [] (xhp s) Φ) ∧ (¬ (k = 61) → ((k = 87 → xW (xX0 xs Ls) p134 26 [(0, vr 1 1), (1, vi k)] [] (xhp s) Φ) ∧ (¬ (k = 87) → ((k = 68 → xW (xX0 xs Ls) p134 26 [(0, vr 1 1), (1, vi k)] [] (xhp s) Φ) ∧ (¬ (k = 68) → ((k = 76 → xW (xX0 xs Ls) p134 26 [(0, vr 1 1), (1, vi k)] [] (xhp s) Φ) ∧ (¬ (k = 76) → Φ (some (vi 1)) (xhp s)))))))))) : xW (xX0 xs Ls) p134 0 [(0, vr 1 1), (1, vi k)] [] (xhp s) Φ := by
  refine xW.br (c := k = 61) (pc1 := 26) (L1 := [(0, vr 1 1), (1, vi k)]) (st1 := []) (h1 := xhp s) (pc2 := 6) (L2 := [(0, vr 1 1), (1, vi k)]) (st2 := []) (h2 := xhp s) 3 (fun _ _ _ _ => rfl) (fun hc => ?_) (fun hc => ?_)
  · replace g := g.1 hc
    exact g
  · replace g := g.2 hc
    refine xW.br (c := k = 87) (pc1 := 26) (L1 := [(0, vr 1 1), (1, vi k)]) (st1 := []) (h1 := xhp s) (pc2 := 12) (L2 := [(0, vr 1 1), (1, vi k)]) (st2 := []) (h2 := xhp s) 3 (fun _ _ _ _ => rfl) (fun hc => ?_) (fun hc => ?_)
    · replace g := g.1 hc
      exact g
    · replace g := g.2 hc
      refine xW.br (c := k = 68) (pc1 := 26) (L1 := [(0, vr 1 1), (1, vi k)]) (st1 := []) (h1 := xhp s) (pc2 := 18) (L2 := [(0, vr 1 1), (1, vi k)]) (st2 := []) (h2 := xhp s) 3 (fun _ _ _ _ => rfl) (fun hc => ?_) (fun hc => ?_)
      · replace g := g.1 hc
        exact g
      · replace g := g.2 hc
        refine xW.br (c := k = 76) (pc1 := 26) (L1 := [(0, vr 1 1), (1, vi k)]) (st1 := []) (h1 := xhp s) (pc2 := 24) (L2 := [(0, vr 1 1), (1, vi k)]) (st2 := []) (h2 := xhp s) 3 (fun _ _ _ _ => rfl) (fun hc => ?_) (fun hc => ?_)
        · replace g := g.1 hc
          exact g
        · replace g := g.2 hc
          exact xW.ret (v0 := some (vi 1)) (h1 := xhp s) 2 (fun _ _ _ _ => rfl) g
noncomputable def ca_keyStack_d (s : xS) (k : Int32) : Int32 × xS := (if k = 61 then (ca_keyStack_26 s k) else (if k = 87 then (ca_keyStack_26 s k) else (if k = 68 then (ca_keyStack_26 s k) else (if k = 76 then (ca_keyStack_26 s k) else (1, s)))))
noncomputable def ca_keyStack : xS → Int32 → Int32 × xS := Classical.choose (⟨ca_keyStack_d, rfl⟩ : ∃ f, f = ca_keyStack_d)
set_option maxRecDepth 100000 in
theorem ca_keyStack_eq : ca_keyStack = ca_keyStack_d := Classical.choose_spec (⟨ca_keyStack_d, rfl⟩ : ∃ f, f = ca_keyStack_d)
set_option maxRecDepth 100000 in
theorem m134 {xs : Nat → Int32} {Ls : Nat} {Ψ : xO → xH → Prop} (s : xS) (k : Int32) (h : Ψ (.inl (some (vi (ca_keyStack s k).1))) (xhp (ca_keyStack s k).2)) : xM (xX0 xs Ls) 134 [vr 1 1, vi k] (xhp s) Ψ := by
  rw [ca_keyStack_eq] at h
  unfold ca_keyStack_d at h
  exact xM.of (P := p134) rfl rfl rfl (b134_0 s k (⟨fun hc => by rw [if_pos hc] at h; exact n134_26 _ _ h, fun hc => by rw [if_neg hc] at h; exact ⟨fun hc => by rw [if_pos hc] at h; exact n134_26 _ _ h, fun hc => by rw [if_neg hc] at h; exact ⟨fun hc => by rw [if_pos hc] at h; exact n134_26 _ _ h, fun hc => by rw [if_neg hc] at h; exact ⟨fun hc => by rw [if_pos hc] at h; exact n134_26 _ _ h, fun hc => by rw [if_neg hc] at h; exact (by (try dsimp only at h); exact h)⟩⟩⟩⟩))
/-! ca_keyFormula -/
theorem b135_171 {xs : Nat → Int32} {Ls : Nat} {Φ : Option xV → xH → Prop} (s : xS) (x1 : Int32) (x3 : Int32) (g : ((ro_follow_ok s 5 6 x1 x3) ∧ Φ (some (vi 0)) (xhp (ro_follow s 5 6 x1 x3)))) : xW (xX0 xs Ls) p135 171 [(1, vi x1), (2, vr 3 5), (3, vi x3)] [] (xhp s) Φ := by
  refine xW.call (y := 191) (as := [vr 3 5, vi x1, vi x3]) (h0 := xhp s) (pc0 := 174) (len := 3) (L0 := [(1, vi x1), (2, vr 3 5), (3, vi x3)]) (rest := []) 4 (fun _ _ _ _ => rfl) (m191 _ _ _ _ _ rfl rfl g.1 ?_)
  show xW (xX0 xs Ls) p135 177 [(1, vi x1), (2, vr 3 5), (3, vi x3)] [] (xhp (ro_follow s 5 6 x1 x3)) Φ
  replace g := g.2
  exact xW.ret (v0 := some (vi 0)) (h1 := xhp (ro_follow s 5 6 x1 x3)) 2 (fun _ _ _ _ => rfl) g
noncomputable def ca_keyFormula_171_d (s : xS) (x1 : Int32) (x3 : Int32) : Int32 × xS := (0, (ro_follow s 5 6 x1 x3))
noncomputable def ca_keyFormula_171 : xS → Int32 → Int32 → Int32 × xS := Classical.choose (⟨ca_keyFormula_171_d, rfl⟩ : ∃ f, f = ca_keyFormula_171_d)
set_option maxRecDepth 100000 in
theorem ca_keyFormula_171_eq : ca_keyFormula_171 = ca_keyFormula_171_d := Classical.choose_spec (⟨ca_keyFormula_171_d, rfl⟩ : ∃ f, f = ca_keyFormula_171_d)
def ca_keyFormula_171_ok (s : xS) (x1 : Int32) (x3 : Int32) : Prop := (ro_follow_ok s 5 6 x1 x3)
set_option maxRecDepth 100000 in
theorem n135_171 {xs : Nat → Int32} {Ls : Nat} {Φ : Option xV → xH → Prop} (s : xS) (x1 : Int32) (x3 : Int32) (gq : ca_keyFormula_171_ok s x1 x3) (h : Φ (some (vi (ca_keyFormula_171 s x1 x3).1)) (xhp (ca_keyFormula_171 s x1 x3).2)) : xW (xX0 xs Ls) p135 171 [(1, vi x1), (2, vr 3 5), (3, vi x3)] [] (xhp s) Φ := by
  rw [ca_keyFormula_171_eq] at h
  unfold ca_keyFormula_171_d at h
  unfold ca_keyFormula_171_ok at gq
  exact b135_171 s x1 x3 (⟨gq, (by (try dsimp only at h); exact h)⟩)
set_option maxRecDepth 100000 in
theorem b135_58 {xs : Nat → Int32} {Ls : Nat} {Φ : Option xV → xH → Prop} (s : xS) (x1 : Int32) (x3 : Int32) (x4 : Int32) (g : ((x4 < x3 → (((te_isOperation x1) = false → xW (xX0 xs Ls) p135 171 [(1, vi x1), (2, vr 3 5), (3, vi x3)] [] (xhp (de_set (ca_endEntry s) 18 32)) Φ) ∧ ((te_isOperation x1) = true → ((8 ≤ x3 → xW (xX0 xs Ls) p135 171 [(1, vi x1), (2, vr 3 5), (3, vi x3)] [] (xhp (de_set (ca_endEntry s) 18 32)) Φ) ∧ (¬ (8 ≤ x3) → ((vp_in x3 8 ∧ xRok 4 x3.toNatClampNeg 5) ∧ xW (xX0 xs Ls) p135 171 [(1, vi x1), (2, vr 3 5), (3, vi x3)] [] (xhp (de_set (de_set (ca_endEntry s) 18 32) (xR0 4 x3.toNatClampNeg - 1) 32)) Φ)))))) ∧ (¬ (x4 < x3) → ((vp_in x4 8) ∧ (((gI s 6 x4.toNatClampNeg) = 40 → xW (xX0 xs Ls) p135 58 [(0, vr 1 1), (1, vi x1), (2, vr 3 5), (3, vi x3), (4, vi (x4 + (-1)))] [] (xhp s) Φ) ∧ (¬ ((gI s 6 x4.toNatClampNeg) = 40) → ((vp_in x4 8) ∧ ((vp_in x4 8 ∧ xRok 4 x4.toNatClampNeg 5) ∧ ((ar_combine_ok s (gI s 6 x4.toNatClampNeg) (xR0 4 x4.toNatClampNeg - 1) 32 32) ∧ (((ar_combine s (gI s 6 x4.toNatClampNeg) (xR0 4 x4.toNatClampNeg - 1) 32 32).1 = 0 → xW (xX0 xs Ls) p135 58 [(0, vr 1 1), (1, vi x1), (2, vr 3 5), (3, vi x3), (4, vi (x4 + (-1)))] [] (xhp ((ar_combine s (gI s 6 x4.toNatClampNeg) (xR0 4 x4.toNatClampNeg - 1) 32 32).2)) Φ) ∧ (¬ ((ar_combine s (gI s 6 x4.toNatClampNeg) (xR0 4 x4.toNatClampNeg - 1) 32 32).1 = 0) → Φ (some (vi ((ar_combine s (gI s 6 x4.toNatClampNeg) (xR0 4 x4.toNatClampNeg - 1) 32 32).1))) (xhp ((ar_combine s (gI s 6 x4.toNatClampNeg) (xR0 4 x4.toNatClampNeg - 1) 32 32).2))))))))))))) : xW (xX0 xs Ls) p135 58 [(0, vr 1 1), (1, vi x1), (2, vr 3 5), (3, vi x3), (4, vi x4)] [] (xhp s) Φ := by
  refine xW.br (c := x4 < x3) (pc1 := 124) (L1 := [(0, vr 1 1), (1, vi x1), (2, vr 3 5), (3, vi x3), (4, vi x4)]) (st1 := []) (h1 := xhp s) (pc2 := 64) (L2 := [(0, vr 1 1), (1, vi x1), (2, vr 3 5), (3, vi x3), (4, vi x4)]) (st2 := []) (h2 := xhp s) 3 (fun _ _ _ _ => rfl) (fun hc => ?_) (fun hc => ?_)
  · replace g := g.1 hc
    refine xW.call (y := 126) (as := [vr 1 1]) (h0 := xhp s) (pc0 := 125) (len := 3) (L0 := [(0, vr 1 1), (1, vi x1), (2, vr 3 5), (3, vi x3), (4, vi x4)]) (rest := []) 2 (fun _ _ _ _ => rfl) (m126 _ ?_)
    show xW (xX0 xs Ls) p135 128 [(0, vr 1 1), (1, vi x1), (2, vr 3 5), (3, vi x3), (4, vi x4)] [] (xhp (ca_endEntry s)) Φ
    refine xW.call (y := 137) (as := [vr 5 18, vr 5 32]) (h0 := xhp (ca_endEntry s)) (pc0 := 139) (len := 3) (L0 := [(0, vr 1 1), (1, vi x1), (2, vr 3 5), (3, vi x3), (4, vi x4)]) (rest := []) 6 (fun _ _ _ _ => rfl) (m137 _ _ _ ?_)
    show xW (xX0 xs Ls) p135 142 [(0, vr 1 1), (1, vi x1), (2, vr 3 5), (3, vi x3), (4, vi x4)] [] (xhp (de_set (ca_endEntry s) 18 32)) Φ
    refine xW.call (y := 25) (as := [vi x1]) (h0 := xhp (de_set (ca_endEntry s) 18 32)) (pc0 := 143) (len := 3) (L0 := [(0, vr 1 1), (1, vi x1), (2, vr 3 5), (3, vi x3), (4, vi x4)]) (rest := []) 2 (fun _ _ _ _ => rfl) (m25 _ _ ?_)
    show xW (xX0 xs Ls) p135 146 [(0, vr 1 1), (1, vi x1), (2, vr 3 5), (3, vi x3), (4, vi x4)] [vi (zb (te_isOperation x1))] (xhp (de_set (ca_endEntry s) 18 32)) Φ
    refine xW.br (c := (zb (te_isOperation x1)) = 0) (pc1 := 171) (L1 := [(0, vr 1 1), (1, vi x1), (2, vr 3 5), (3, vi x3), (4, vi x4)]) (st1 := []) (h1 := xhp (de_set (ca_endEntry s) 18 32)) (pc2 := 149) (L2 := [(0, vr 1 1), (1, vi x1), (2, vr 3 5), (3, vi x3), (4, vi x4)]) (st2 := []) (h2 := xhp (de_set (ca_endEntry s) 18 32)) 1 (fun _ _ _ _ => rfl) (fun hc => ?_) (fun hc => ?_)
    · replace g := g.1 (zb_eq0.mp hc)
      exact xW.locs (L := [(1, vi x1), (2, vr 3 5), (3, vi x3)]) ⟨rfl, rfl, rfl, trivial⟩ rfl g
    · replace g := g.2 (zb_ne0.mp hc)
      refine xW.br (c := 8 ≤ x3) (pc1 := 171) (L1 := [(0, vr 1 1), (1, vi x1), (2, vr 3 5), (3, vi x3), (4, vi x4)]) (st1 := []) (h1 := xhp (de_set (ca_endEntry s) 18 32)) (pc2 := 155) (L2 := [(0, vr 1 1), (1, vi x1), (2, vr 3 5), (3, vi x3), (4, vi x4)]) (st2 := []) (h2 := xhp (de_set (ca_endEntry s) 18 32)) 3 (fun _ _ _ _ => rfl) (fun hc => ?_) (fun hc => ?_)
      · replace g := g.1 hc
        exact xW.locs (L := [(1, vi x1), (2, vr 3 5), (3, vi x3)]) ⟨rfl, rfl, rfl, trivial⟩ rfl g
      · replace g := g.2 hc
        refine xW.refr (r := xR0 4 x3.toNatClampNeg) (a := (xR0 4 x3.toNatClampNeg - 1)) (kind := 5) (c := vp_in x3 8) (h0 := xhp (de_set (ca_endEntry s) 18 32)) (pc1 := 164) (L1 := [(0, vr 1 1), (1, vi x1), (2, vr 3 5), (3, vi x3), (4, vi x4)]) (st1 := []) (h1 := xhp (de_set (ca_endEntry s) 18 32)) 5 (fun _ _ _ _ => rfl) g.1.1 g.1.2.1 g.1.2.2 ?_
        replace g := g.2
        refine xW.call (y := 137) (as := [vr 5 (xR0 4 x3.toNatClampNeg - 1), vr 5 32]) (h0 := xhp (de_set (ca_endEntry s) 18 32)) (pc0 := 168) (len := 3) (L0 := [(0, vr 1 1), (1, vi x1), (2, vr 3 5), (3, vi x3), (4, vi x4)]) (rest := []) 3 (fun _ _ _ _ => rfl) (m137 _ _ _ ?_)
        show xW (xX0 xs Ls) p135 171 [(0, vr 1 1), (1, vi x1), (2, vr 3 5), (3, vi x3), (4, vi x4)] [] (xhp (de_set (de_set (ca_endEntry s) 18 32) (xR0 4 x3.toNatClampNeg - 1) 32)) Φ
        exact xW.locs (L := [(1, vi x1), (2, vr 3 5), (3, vi x3)]) ⟨rfl, rfl, rfl, trivial⟩ rfl g
  · replace g := g.2 hc
    refine xW.side (c := vp_in x4 8) (pc1 := 71) (L1 := [(0, vr 1 1), (1, vi x1), (2, vr 3 5), (3, vi x3), (4, vi x4)]) (st1 := [vi (gI s 6 x4.toNatClampNeg)]) (h1 := xhp s) 4 (fun _ _ _ _ => rfl) g.1 ?_
    replace g := g.2
    refine xW.br (c := (gI s 6 x4.toNatClampNeg) = 40) (pc1 := 118) (L1 := [(0, vr 1 1), (1, vi x1), (2, vr 3 5), (3, vi x3), (4, vi x4)]) (st1 := []) (h1 := xhp s) (pc2 := 76) (L2 := [(0, vr 1 1), (1, vi x1), (2, vr 3 5), (3, vi x3), (4, vi x4)]) (st2 := []) (h2 := xhp s) 2 (fun _ _ _ _ => rfl) (fun hc => ?_) (fun hc => ?_)
    · replace g := g.1 hc
      refine xW.seg (pc1 := 58) (L1 := [(4, vi (x4 + (-1))), (0, vr 1 1), (1, vi x1), (2, vr 3 5), (3, vi x3)]) (st1 := []) (h1 := xhp s) 2 (fun _ _ _ _ => rfl) ?_
      exact xW.locs (L := [(0, vr 1 1), (1, vi x1), (2, vr 3 5), (3, vi x3), (4, vi (x4 + (-1)))]) ⟨rfl, rfl, rfl, rfl, rfl, trivial⟩ rfl g
    · replace g := g.2 hc
      refine xW.side (c := vp_in x4 8) (pc1 := 87) (L1 := [(0, vr 1 1), (1, vi x1), (2, vr 3 5), (3, vi x3), (4, vi x4)]) (st1 := [vi (gI s 6 x4.toNatClampNeg), vr 6 31]) (h1 := xhp s) 6 (fun _ _ _ _ => rfl) g.1 ?_
      replace g := g.2
      refine xW.refr (r := xR0 4 x4.toNatClampNeg) (a := (xR0 4 x4.toNatClampNeg - 1)) (kind := 5) (c := vp_in x4 8) (h0 := xhp s) (pc1 := 97) (L1 := [(0, vr 1 1), (1, vi x1), (2, vr 3 5), (3, vi x3), (4, vi x4)]) (st1 := [vi (gI s 6 x4.toNatClampNeg), vr 6 31]) (h1 := xhp s) 5 (fun _ _ _ _ => rfl) g.1.1 g.1.2.1 g.1.2.2 ?_
      replace g := g.2
      refine xW.call (y := 116) (as := [vr 6 31, vi (gI s 6 x4.toNatClampNeg), vr 5 (xR0 4 x4.toNatClampNeg - 1), vr 5 32, vr 5 32]) (h0 := xhp s) (pc0 := 105) (len := 3) (L0 := [(0, vr 1 1), (1, vi x1), (2, vr 3 5), (3, vi x3), (4, vi x4)]) (rest := []) 5 (fun _ _ _ _ => rfl) (m116 _ _ _ _ _ g.1 ?_)
      show xW (xX0 xs Ls) p135 108 [(0, vr 1 1), (1, vi x1), (2, vr 3 5), (3, vi x3), (4, vi x4)] [vi ((ar_combine s (gI s 6 x4.toNatClampNeg) (xR0 4 x4.toNatClampNeg - 1) 32 32).1)] (xhp ((ar_combine s (gI s 6 x4.toNatClampNeg) (xR0 4 x4.toNatClampNeg - 1) 32 32).2)) Φ
      replace g := g.2
      refine xW.br (c := (ar_combine s (gI s 6 x4.toNatClampNeg) (xR0 4 x4.toNatClampNeg - 1) 32 32).1 = 0) (pc1 := 118) (L1 := [(5, vi ((ar_combine s (gI s 6 x4.toNatClampNeg) (xR0 4 x4.toNatClampNeg - 1) 32 32).1)), (0, vr 1 1), (1, vi x1), (2, vr 3 5), (3, vi x3), (4, vi x4)]) (st1 := []) (h1 := xhp ((ar_combine s (gI s 6 x4.toNatClampNeg) (xR0 4 x4.toNatClampNeg - 1) 32 32).2)) (pc2 := 115) (L2 := [(5, vi ((ar_combine s (gI s 6 x4.toNatClampNeg) (xR0 4 x4.toNatClampNeg - 1) 32 32).1)), (0, vr 1 1), (1, vi x1), (2, vr 3 5), (3, vi x3), (4, vi x4)]) (st2 := []) (h2 := xhp ((ar_combine s (gI s 6 x4.toNatClampNeg) (xR0 4 x4.toNatClampNeg - 1) 32 32).2)) 3 (fun _ _ _ _ => rfl) (fun hc => ?_) (fun hc => ?_)
      · replace g := g.1 hc
        refine xW.seg (pc1 := 58) (L1 := [(4, vi (x4 + (-1))), (5, vi ((ar_combine s (gI s 6 x4.toNatClampNeg) (xR0 4 x4.toNatClampNeg - 1) 32 32).1)), (0, vr 1 1), (1, vi x1), (2, vr 3 5), (3, vi x3)]) (st1 := []) (h1 := xhp ((ar_combine s (gI s 6 x4.toNatClampNeg) (xR0 4 x4.toNatClampNeg - 1) 32 32).2)) 2 (fun _ _ _ _ => rfl) ?_
        exact xW.locs (L := [(0, vr 1 1), (1, vi x1), (2, vr 3 5), (3, vi x3), (4, vi (x4 + (-1)))]) ⟨rfl, rfl, rfl, rfl, rfl, trivial⟩ rfl g
      · replace g := g.2 hc
        exact xW.ret (v0 := some (vi ((ar_combine s (gI s 6 x4.toNatClampNeg) (xR0 4 x4.toNatClampNeg - 1) 32 32).1))) (h1 := xhp ((ar_combine s (gI s 6 x4.toNatClampNeg) (xR0 4 x4.toNatClampNeg - 1) 32 32).2)) 2 (fun _ _ _ _ => rfl) g
noncomputable def ca_keyFormula_58 : Nat → xS → Int32 → Int32 → Int32 → Int32 × xS
  | 0, s, _, _, _ => (0, s)
  | n + 1, s, x1, x3, x4 => (if x4 < x3 then (if (te_isOperation x1) = false then (ca_keyFormula_171 (de_set (ca_endEntry s) 18 32) x1 x3) else (if 8 ≤ x3 then (ca_keyFormula_171 (de_set (ca_endEntry s) 18 32) x1 x3) else (ca_keyFormula_171 (de_set (de_set (ca_endEntry s) 18 32) (xR0 4 x3.toNatClampNeg - 1) 32) x1 x3))) else (if (gI s 6 x4.toNatClampNeg) = 40 then (ca_keyFormula_58 n s x1 x3 (x4 + (-1))) else (if (ar_combine s (gI s 6 x4.toNatClampNeg) (xR0 4 x4.toNatClampNeg - 1) 32 32).1 = 0 then (ca_keyFormula_58 n ((ar_combine s (gI s 6 x4.toNatClampNeg) (xR0 4 x4.toNatClampNeg - 1) 32 32).2) x1 x3 (x4 + (-1))) else (ar_combine s (gI s 6 x4.toNatClampNeg) (xR0 4 x4.toNatClampNeg - 1) 32 32))))
def ca_keyFormula_58_ok : Nat → xS → Int32 → Int32 → Int32 → Prop
  | 0, _, _, _, _ => False
  | n + 1, s, x1, x3, x4 => ((x4 < x3 → (((te_isOperation x1) = false → (ca_keyFormula_171_ok (de_set (ca_endEntry s) 18 32) x1 x3)) ∧ ((te_isOperation x1) = true → ((8 ≤ x3 → (ca_keyFormula_171_ok (de_set (ca_endEntry s) 18 32) x1 x3)) ∧ (¬ (8 ≤ x3) → ((vp_in x3 8 ∧ xRok 4 x3.toNatClampNeg 5) ∧ (ca_keyFormula_171_ok (de_set (de_set (ca_endEntry s) 18 32) (xR0 4 x3.toNatClampNeg - 1) 32) x1 x3))))))) ∧ (¬ (x4 < x3) → ((vp_in x4 8) ∧ (((gI s 6 x4.toNatClampNeg) = 40 → (ca_keyFormula_58_ok n s x1 x3 (x4 + (-1)))) ∧ (¬ ((gI s 6 x4.toNatClampNeg) = 40) → ((vp_in x4 8) ∧ ((vp_in x4 8 ∧ xRok 4 x4.toNatClampNeg 5) ∧ ((ar_combine_ok s (gI s 6 x4.toNatClampNeg) (xR0 4 x4.toNatClampNeg - 1) 32 32) ∧ ((ar_combine s (gI s 6 x4.toNatClampNeg) (xR0 4 x4.toNatClampNeg - 1) 32 32).1 = 0 → (ca_keyFormula_58_ok n ((ar_combine s (gI s 6 x4.toNatClampNeg) (xR0 4 x4.toNatClampNeg - 1) 32 32).2) x1 x3 (x4 + (-1))))))))))))
set_option maxRecDepth 100000 in
theorem n135_58 {xs : Nat → Int32} {Ls : Nat} {Φ : Option xV → xH → Prop} : ∀ (n : Nat) (s : xS) (x1 : Int32) (x3 : Int32) (x4 : Int32), ca_keyFormula_58_ok n s x1 x3 x4 → Φ (some (vi (ca_keyFormula_58 n s x1 x3 x4).1)) (xhp (ca_keyFormula_58 n s x1 x3 x4).2) → xW (xX0 xs Ls) p135 58 [(0, vr 1 1), (1, vi x1), (2, vr 3 5), (3, vi x3), (4, vi x4)] [] (xhp s) Φ := by
  intro n
  induction n with
  | zero => intro s _ _ _ gq; exact gq.elim
  | succ n ih =>
    intro s x1 x3 x4 gq h
    unfold ca_keyFormula_58_ok at gq
    unfold ca_keyFormula_58 at h
    exact b135_58 s x1 x3 x4 (⟨fun hc => by rw [if_pos hc] at h; replace gq := gq.1 hc; exact ⟨fun hc => by rw [if_pos hc] at h; replace gq := gq.1 hc; exact n135_171 _ _ _ gq h, fun hc => by rw [if_neg (by rw [hc]; decide)] at h; replace gq := gq.2 hc; exact ⟨fun hc => by rw [if_pos hc] at h; replace gq := gq.1 hc; exact n135_171 _ _ _ gq h, fun hc => by rw [if_neg hc] at h; replace gq := gq.2 hc; exact ⟨gq.1, by replace gq := gq.2; exact n135_171 _ _ _ gq h⟩⟩⟩, fun hc => by rw [if_neg hc] at h; replace gq := gq.2 hc; exact ⟨gq.1, by replace gq := gq.2; exact ⟨fun hc => by rw [if_pos hc] at h; replace gq := gq.1 hc; exact ih _ _ _ _ gq h, fun hc => by rw [if_neg hc] at h; replace gq := gq.2 hc; exact ⟨gq.1, by replace gq := gq.2; exact ⟨gq.1, by replace gq := gq.2; exact ⟨gq.1, by replace gq := gq.2; exact ⟨fun hc => by rw [if_pos hc] at h; replace gq := gq hc; exact ih _ _ _ _ gq h, fun hc => by rw [if_neg hc] at h; exact (by (try dsimp only at h); exact h)⟩⟩⟩⟩⟩⟩⟩)
set_option maxRecDepth 100000 in
theorem b135_0 {xs : Nat → Int32} {Ls : Nat} {Φ : Option xV → xH → Prop} (s : xS) (k : Int32) (g : ((ro_isOutOfPlace_ok s 5 6 k) ∧ (((ro_isOutOfPlace s 5 6 k) = false → ((ro_leftBehind_ok s 5 6 k) ∧ (((ro_isFullFor 5 k (ro_leftBehind s 5 6 k)) = false → xW (xX0 xs Ls) p135 58 [(0, vr 1 1), (1, vi k), (2, vr 3 5), (3, vi (ro_leftBehind s 5 6 k)), (4, vi ((gI (de_set s 32 18) 5 1) - 1))] [] (xhp (de_set s 32 18)) Φ) ∧ ((ro_isFullFor 5 k (ro_leftBehind s 5 6 k)) = true → Φ (some (vi 6)) (xhp s))))) ∧ ((ro_isOutOfPlace s 5 6 k) = true → Φ (some (vi 5)) (xhp s))))) : xW (xX0 xs Ls) p135 0 [(0, vr 1 1), (1, vi k)] [] (xhp s) Φ := by
  refine xW.call (y := 186) (as := [vr 3 5, vi k]) (h0 := xhp s) (pc0 := 10) (len := 3) (L0 := [(2, vr 3 5), (0, vr 1 1), (1, vi k)]) (rest := []) 7 (fun _ _ _ _ => rfl) (m186 _ _ _ _ rfl rfl g.1 ?_)
  show xW (xX0 xs Ls) p135 13 [(2, vr 3 5), (0, vr 1 1), (1, vi k)] [vi (zb (ro_isOutOfPlace s 5 6 k))] (xhp s) Φ
  replace g := g.2
  refine xW.br (c := (zb (ro_isOutOfPlace s 5 6 k)) = 0) (pc1 := 18) (L1 := [(2, vr 3 5), (0, vr 1 1), (1, vi k)]) (st1 := []) (h1 := xhp s) (pc2 := 16) (L2 := [(2, vr 3 5), (0, vr 1 1), (1, vi k)]) (st2 := []) (h2 := xhp s) 1 (fun _ _ _ _ => rfl) (fun hc => ?_) (fun hc => ?_)
  · replace g := g.1 (zb_eq0.mp hc)
    refine xW.call (y := 189) (as := [vr 3 5, vi k]) (h0 := xhp s) (pc0 := 20) (len := 3) (L0 := [(2, vr 3 5), (0, vr 1 1), (1, vi k)]) (rest := []) 3 (fun _ _ _ _ => rfl) (m189 _ _ _ _ rfl rfl g.1 ?_)
    show xW (xX0 xs Ls) p135 23 [(2, vr 3 5), (0, vr 1 1), (1, vi k)] [vi (ro_leftBehind s 5 6 k)] (xhp s) Φ
    replace g := g.2
    refine xW.call (y := 190) (as := [vr 3 5, vi k, vi (ro_leftBehind s 5 6 k)]) (h0 := xhp s) (pc0 := 27) (len := 3) (L0 := [(3, vi (ro_leftBehind s 5 6 k)), (2, vr 3 5), (0, vr 1 1), (1, vi k)]) (rest := []) 5 (fun _ _ _ _ => rfl) (m190 _ _ _ _ ?_)
    show xW (xX0 xs Ls) p135 30 [(3, vi (ro_leftBehind s 5 6 k)), (2, vr 3 5), (0, vr 1 1), (1, vi k)] [vi (zb (ro_isFullFor 5 k (ro_leftBehind s 5 6 k)))] (xhp s) Φ
    refine xW.br (c := (zb (ro_isFullFor 5 k (ro_leftBehind s 5 6 k))) = 0) (pc1 := 36) (L1 := [(3, vi (ro_leftBehind s 5 6 k)), (2, vr 3 5), (0, vr 1 1), (1, vi k)]) (st1 := []) (h1 := xhp s) (pc2 := 33) (L2 := [(3, vi (ro_leftBehind s 5 6 k)), (2, vr 3 5), (0, vr 1 1), (1, vi k)]) (st2 := []) (h2 := xhp s) 1 (fun _ _ _ _ => rfl) (fun hc => ?_) (fun hc => ?_)
    · replace g := g.1 (zb_eq0.mp hc)
      refine xW.call (y := 137) (as := [vr 5 32, vr 5 18]) (h0 := xhp s) (pc0 := 47) (len := 3) (L0 := [(3, vi (ro_leftBehind s 5 6 k)), (2, vr 3 5), (0, vr 1 1), (1, vi k)]) (rest := []) 6 (fun _ _ _ _ => rfl) (m137 _ _ _ ?_)
      show xW (xX0 xs Ls) p135 50 [(3, vi (ro_leftBehind s 5 6 k)), (2, vr 3 5), (0, vr 1 1), (1, vi k)] [] (xhp (de_set s 32 18)) Φ
      refine xW.seg (pc1 := 58) (L1 := [(4, vi ((gI (de_set s 32 18) 5 1) - 1)), (3, vi (ro_leftBehind s 5 6 k)), (2, vr 3 5), (0, vr 1 1), (1, vi k)]) (st1 := []) (h1 := xhp (de_set s 32 18)) 5 (fun _ _ _ _ => rfl) ?_
      exact xW.locs (L := [(0, vr 1 1), (1, vi k), (2, vr 3 5), (3, vi (ro_leftBehind s 5 6 k)), (4, vi ((gI (de_set s 32 18) 5 1) - 1))]) ⟨rfl, rfl, rfl, rfl, rfl, trivial⟩ rfl g
    · replace g := g.2 (zb_ne0.mp hc)
      exact xW.ret (v0 := some (vi 6)) (h1 := xhp s) 2 (fun _ _ _ _ => rfl) g
  · replace g := g.2 (zb_ne0.mp hc)
    exact xW.ret (v0 := some (vi 5)) (h1 := xhp s) 2 (fun _ _ _ _ => rfl) g
noncomputable def ca_keyFormula_d (s : xS) (k : Int32) : Int32 × xS := (if (ro_isOutOfPlace s 5 6 k) = false then (if (ro_isFullFor 5 k (ro_leftBehind s 5 6 k)) = false then (ca_keyFormula_58 xfu (de_set s 32 18) k (ro_leftBehind s 5 6 k) ((gI (de_set s 32 18) 5 1) - 1)) else (6, s)) else (5, s))
noncomputable def ca_keyFormula : xS → Int32 → Int32 × xS := Classical.choose (⟨ca_keyFormula_d, rfl⟩ : ∃ f, f = ca_keyFormula_d)
set_option maxRecDepth 100000 in
theorem ca_keyFormula_eq : ca_keyFormula = ca_keyFormula_d := Classical.choose_spec (⟨ca_keyFormula_d, rfl⟩ : ∃ f, f = ca_keyFormula_d)
def ca_keyFormula_ok (s : xS) (k : Int32) : Prop := ((ro_isOutOfPlace_ok s 5 6 k) ∧ ((ro_isOutOfPlace s 5 6 k) = false → ((ro_leftBehind_ok s 5 6 k) ∧ ((ro_isFullFor 5 k (ro_leftBehind s 5 6 k)) = false → (ca_keyFormula_58_ok xfu (de_set s 32 18) k (ro_leftBehind s 5 6 k) ((gI (de_set s 32 18) 5 1) - 1))))))
set_option maxRecDepth 100000 in
theorem m135 {xs : Nat → Int32} {Ls : Nat} {Ψ : xO → xH → Prop} (s : xS) (k : Int32) (gq : ca_keyFormula_ok s k) (h : Ψ (.inl (some (vi (ca_keyFormula s k).1))) (xhp (ca_keyFormula s k).2)) : xM (xX0 xs Ls) 135 [vr 1 1, vi k] (xhp s) Ψ := by
  rw [ca_keyFormula_eq] at h
  unfold ca_keyFormula_d at h
  unfold ca_keyFormula_ok at gq
  exact xM.of (P := p135) rfl rfl rfl (b135_0 s k (⟨gq.1, by replace gq := gq.2; exact ⟨fun hc => by rw [if_pos hc] at h; replace gq := gq hc; exact ⟨gq.1, by replace gq := gq.2; exact ⟨fun hc => by rw [if_pos hc] at h; replace gq := gq hc; exact n135_58 _ _ _ _ _ gq h, fun hc => by rw [if_neg (by rw [hc]; decide)] at h; exact (by (try dsimp only at h); exact h)⟩⟩, fun hc => by rw [if_neg (by rw [hc]; decide)] at h; exact (by (try dsimp only at h); exact h)⟩⟩))
/-! ca_doKey -/
theorem b125_100 {xs : Nat → Int32} {Ls : Nat} {Φ : Option xV → xH → Prop} (s : xS) (x1 : Int32) (g : ((¬ (gI s 1 2) = 1 → (((te_isOperation x1) = false → Φ (some (vi ((ca_keyStack s x1).1))) (xhp ((ca_keyStack s x1).2))) ∧ ((te_isOperation x1) = true → ((ca_keyOperation_ok s x1) ∧ Φ (some (vi ((ca_keyOperation s x1).1))) (xhp ((ca_keyOperation s x1).2)))))) ∧ ((gI s 1 2) = 1 → (((te_isRowKey x1) = false → Φ (some (vi 1)) (xhp s)) ∧ ((te_isRowKey x1) = true → ((ca_keyFormula_ok s x1) ∧ Φ (some (vi ((ca_keyFormula s x1).1))) (xhp ((ca_keyFormula s x1).2)))))))) : xW (xX0 xs Ls) p125 100 [(0, vr 1 1), (1, vi x1)] [] (xhp s) Φ := by
  refine xW.br (c := ¬ (gI s 1 2) = 1) (pc1 := 125) (L1 := [(0, vr 1 1), (1, vi x1)]) (st1 := []) (h1 := xhp s) (pc2 := 108) (L2 := [(0, vr 1 1), (1, vi x1)]) (st2 := []) (h2 := xhp s) 4 (fun _ _ _ _ => rfl) (fun hc => ?_) (fun hc => ?_)
  · replace g := g.1 hc
    refine xW.call (y := 25) (as := [vi x1]) (h0 := xhp s) (pc0 := 126) (len := 3) (L0 := [(0, vr 1 1), (1, vi x1)]) (rest := []) 2 (fun _ _ _ _ => rfl) (m25 _ _ ?_)
    show xW (xX0 xs Ls) p125 129 [(0, vr 1 1), (1, vi x1)] [vi (zb (te_isOperation x1))] (xhp s) Φ
    refine xW.br (c := (zb (te_isOperation x1)) = 0) (pc1 := 138) (L1 := [(0, vr 1 1), (1, vi x1)]) (st1 := []) (h1 := xhp s) (pc2 := 132) (L2 := [(0, vr 1 1), (1, vi x1)]) (st2 := []) (h2 := xhp s) 1 (fun _ _ _ _ => rfl) (fun hc => ?_) (fun hc => ?_)
    · replace g := g.1 (zb_eq0.mp hc)
      refine xW.call (y := 134) (as := [vr 1 1, vi x1]) (h0 := xhp s) (pc0 := 140) (len := 3) (L0 := [(0, vr 1 1), (1, vi x1)]) (rest := []) 3 (fun _ _ _ _ => rfl) (m134 _ _ ?_)
      show xW (xX0 xs Ls) p125 143 [(0, vr 1 1), (1, vi x1)] [vi ((ca_keyStack s x1).1)] (xhp ((ca_keyStack s x1).2)) Φ
      exact xW.ret (v0 := some (vi ((ca_keyStack s x1).1))) (h1 := xhp ((ca_keyStack s x1).2)) 1 (fun _ _ _ _ => rfl) g
    · replace g := g.2 (zb_ne0.mp hc)
      refine xW.call (y := 133) (as := [vr 1 1, vi x1]) (h0 := xhp s) (pc0 := 134) (len := 3) (L0 := [(0, vr 1 1), (1, vi x1)]) (rest := []) 3 (fun _ _ _ _ => rfl) (m133 _ _ g.1 ?_)
      show xW (xX0 xs Ls) p125 137 [(0, vr 1 1), (1, vi x1)] [vi ((ca_keyOperation s x1).1)] (xhp ((ca_keyOperation s x1).2)) Φ
      replace g := g.2
      exact xW.ret (v0 := some (vi ((ca_keyOperation s x1).1))) (h1 := xhp ((ca_keyOperation s x1).2)) 1 (fun _ _ _ _ => rfl) g
  · replace g := g.2 (Decidable.not_not.mp hc)
    refine xW.call (y := 28) (as := [vi x1]) (h0 := xhp s) (pc0 := 109) (len := 3) (L0 := [(0, vr 1 1), (1, vi x1)]) (rest := []) 2 (fun _ _ _ _ => rfl) (m28 _ _ ?_)
    show xW (xX0 xs Ls) p125 112 [(0, vr 1 1), (1, vi x1)] [vi (zb (te_isRowKey x1))] (xhp s) Φ
    refine xW.br (c := (zb (te_isRowKey x1)) = 0) (pc1 := 123) (L1 := [(0, vr 1 1), (1, vi x1)]) (st1 := []) (h1 := xhp s) (pc2 := 115) (L2 := [(0, vr 1 1), (1, vi x1)]) (st2 := []) (h2 := xhp s) 1 (fun _ _ _ _ => rfl) (fun hc => ?_) (fun hc => ?_)
    · replace g := g.1 (zb_eq0.mp hc)
      exact xW.ret (v0 := some (vi 1)) (h1 := xhp s) 2 (fun _ _ _ _ => rfl) g
    · replace g := g.2 (zb_ne0.mp hc)
      refine xW.call (y := 135) (as := [vr 1 1, vi x1]) (h0 := xhp s) (pc0 := 117) (len := 3) (L0 := [(0, vr 1 1), (1, vi x1)]) (rest := []) 3 (fun _ _ _ _ => rfl) (m135 _ _ g.1 ?_)
      show xW (xX0 xs Ls) p125 120 [(0, vr 1 1), (1, vi x1)] [vi ((ca_keyFormula s x1).1)] (xhp ((ca_keyFormula s x1).2)) Φ
      replace g := g.2
      exact xW.ret (v0 := some (vi ((ca_keyFormula s x1).1))) (h1 := xhp ((ca_keyFormula s x1).2)) 2 (fun _ _ _ _ => rfl) g
noncomputable def ca_doKey_100_d (s : xS) (x1 : Int32) : Int32 × xS := (if ¬ (gI s 1 2) = 1 then (if (te_isOperation x1) = false then (ca_keyStack s x1) else (ca_keyOperation s x1)) else (if (te_isRowKey x1) = false then (1, s) else (ca_keyFormula s x1)))
noncomputable def ca_doKey_100 : xS → Int32 → Int32 × xS := Classical.choose (⟨ca_doKey_100_d, rfl⟩ : ∃ f, f = ca_doKey_100_d)
set_option maxRecDepth 100000 in
theorem ca_doKey_100_eq : ca_doKey_100 = ca_doKey_100_d := Classical.choose_spec (⟨ca_doKey_100_d, rfl⟩ : ∃ f, f = ca_doKey_100_d)
def ca_doKey_100_ok (s : xS) (x1 : Int32) : Prop := ((¬ (gI s 1 2) = 1 → ((te_isOperation x1) = true → (ca_keyOperation_ok s x1))) ∧ ((gI s 1 2) = 1 → ((te_isRowKey x1) = true → (ca_keyFormula_ok s x1))))
set_option maxRecDepth 100000 in
theorem n125_100 {xs : Nat → Int32} {Ls : Nat} {Φ : Option xV → xH → Prop} (s : xS) (x1 : Int32) (gq : ca_doKey_100_ok s x1) (h : Φ (some (vi (ca_doKey_100 s x1).1)) (xhp (ca_doKey_100 s x1).2)) : xW (xX0 xs Ls) p125 100 [(0, vr 1 1), (1, vi x1)] [] (xhp s) Φ := by
  rw [ca_doKey_100_eq] at h
  unfold ca_doKey_100_d at h
  unfold ca_doKey_100_ok at gq
  exact b125_100 s x1 (⟨fun hc => by rw [if_pos hc] at h; replace gq := gq.1 hc; exact ⟨fun hc => by rw [if_pos hc] at h; exact (by (try dsimp only at h); exact h), fun hc => by rw [if_neg (by rw [hc]; decide)] at h; replace gq := gq hc; exact ⟨gq, (by (try dsimp only at h); exact h)⟩⟩, fun hc => by rw [if_neg (fun z => z hc)] at h; replace gq := gq.2 hc; exact ⟨fun hc => by rw [if_pos hc] at h; exact (by (try dsimp only at h); exact h), fun hc => by rw [if_neg (by rw [hc]; decide)] at h; replace gq := gq hc; exact ⟨gq, (by (try dsimp only at h); exact h)⟩⟩⟩)
set_option maxRecDepth 100000 in
theorem b125_93 {xs : Nat → Int32} {Ls : Nat} {Φ : Option xV → xH → Prop} (s : xS) (x1 : Int32) (g : ((ca_keyNumber_ok s x1) ∧ Φ (some (vi 0)) (xhp (ca_keyNumber s x1)))) : xW (xX0 xs Ls) p125 93 [(0, vr 1 1), (1, vi x1)] [] (xhp s) Φ := by
  refine xW.call (y := 132) (as := [vr 1 1, vi x1]) (h0 := xhp s) (pc0 := 95) (len := 3) (L0 := [(0, vr 1 1), (1, vi x1)]) (rest := []) 3 (fun _ _ _ _ => rfl) (m132 _ _ g.1 ?_)
  show xW (xX0 xs Ls) p125 98 [(0, vr 1 1), (1, vi x1)] [] (xhp (ca_keyNumber s x1)) Φ
  replace g := g.2
  exact xW.ret (v0 := some (vi 0)) (h1 := xhp (ca_keyNumber s x1)) 2 (fun _ _ _ _ => rfl) g
noncomputable def ca_doKey_93_d (s : xS) (x1 : Int32) : Int32 × xS := (0, (ca_keyNumber s x1))
noncomputable def ca_doKey_93 : xS → Int32 → Int32 × xS := Classical.choose (⟨ca_doKey_93_d, rfl⟩ : ∃ f, f = ca_doKey_93_d)
set_option maxRecDepth 100000 in
theorem ca_doKey_93_eq : ca_doKey_93 = ca_doKey_93_d := Classical.choose_spec (⟨ca_doKey_93_d, rfl⟩ : ∃ f, f = ca_doKey_93_d)
def ca_doKey_93_ok (s : xS) (x1 : Int32) : Prop := (ca_keyNumber_ok s x1)
set_option maxRecDepth 100000 in
theorem n125_93 {xs : Nat → Int32} {Ls : Nat} {Φ : Option xV → xH → Prop} (s : xS) (x1 : Int32) (gq : ca_doKey_93_ok s x1) (h : Φ (some (vi (ca_doKey_93 s x1).1)) (xhp (ca_doKey_93 s x1).2)) : xW (xX0 xs Ls) p125 93 [(0, vr 1 1), (1, vi x1)] [] (xhp s) Φ := by
  rw [ca_doKey_93_eq] at h
  unfold ca_doKey_93_d at h
  unfold ca_doKey_93_ok at gq
  exact b125_93 s x1 (⟨gq, (by (try dsimp only at h); exact h)⟩)
set_option maxRecDepth 100000 in
theorem b125_48 {xs : Nat → Int32} {Ls : Nat} {Φ : Option xV → xH → Prop} (s : xS) (x1 : Int32) (x2 : Int32) (g : (((te_isFunction x1) = false → ((¬ x2 = 0 → xW (xX0 xs Ls) p125 93 [(0, vr 1 1), (1, vi x1)] [] (xhp s) Φ) ∧ (x2 = 0 → ((x1 = 67 → xW (xX0 xs Ls) p125 93 [(0, vr 1 1), (1, vi x1)] [] (xhp s) Φ) ∧ (¬ (x1 = 67) → ((x1 < 97 → xW (xX0 xs Ls) p125 100 [(0, vr 1 1), (1, vi x1)] [] (xhp s) Φ) ∧ (¬ (x1 < 97) → ((116 < x1 → xW (xX0 xs Ls) p125 100 [(0, vr 1 1), (1, vi x1)] [] (xhp s) Φ) ∧ (¬ (116 < x1) → xW (xX0 xs Ls) p125 93 [(0, vr 1 1), (1, vi x1)] [] (xhp s) Φ))))))))) ∧ ((te_isFunction x1) = true → ((ca_workOutFunction_ok s x1) ∧ ((¬ (ca_workOutFunction s x1).1 = 0 → Φ (some (vi ((ca_workOutFunction s x1).1))) (xhp ((ca_workOutFunction s x1).2))) ∧ ((ca_workOutFunction s x1).1 = 0 → Φ (some (vi ((ca_workOutFunction s x1).1))) (xhp (ca_keyFunction ((ca_workOutFunction s x1).2))))))))) : xW (xX0 xs Ls) p125 48 [(0, vr 1 1), (1, vi x1), (2, vi x2)] [] (xhp s) Φ := by
  refine xW.call (y := 26) (as := [vi x1]) (h0 := xhp s) (pc0 := 49) (len := 3) (L0 := [(0, vr 1 1), (1, vi x1), (2, vi x2)]) (rest := []) 2 (fun _ _ _ _ => rfl) (m26 _ _ ?_)
  show xW (xX0 xs Ls) p125 52 [(0, vr 1 1), (1, vi x1), (2, vi x2)] [vi (zb (te_isFunction x1))] (xhp s) Φ
  refine xW.br (c := (zb (te_isFunction x1)) = 0) (pc1 := 71) (L1 := [(0, vr 1 1), (1, vi x1), (2, vi x2)]) (st1 := []) (h1 := xhp s) (pc2 := 55) (L2 := [(0, vr 1 1), (1, vi x1), (2, vi x2)]) (st2 := []) (h2 := xhp s) 1 (fun _ _ _ _ => rfl) (fun hc => ?_) (fun hc => ?_)
  · replace g := g.1 (zb_eq0.mp hc)
    refine xW.br (c := ¬ x2 = 0) (pc1 := 93) (L1 := [(0, vr 1 1), (1, vi x1), (2, vi x2)]) (st1 := []) (h1 := xhp s) (pc2 := 75) (L2 := [(0, vr 1 1), (1, vi x1), (2, vi x2)]) (st2 := []) (h2 := xhp s) 2 (fun _ _ _ _ => rfl) (fun hc => ?_) (fun hc => ?_)
    · replace g := g.1 hc
      exact xW.locs (L := [(0, vr 1 1), (1, vi x1)]) ⟨rfl, rfl, trivial⟩ rfl g
    · replace g := g.2 (Decidable.not_not.mp hc)
      refine xW.br (c := x1 = 67) (pc1 := 93) (L1 := [(0, vr 1 1), (1, vi x1), (2, vi x2)]) (st1 := []) (h1 := xhp s) (pc2 := 81) (L2 := [(0, vr 1 1), (1, vi x1), (2, vi x2)]) (st2 := []) (h2 := xhp s) 3 (fun _ _ _ _ => rfl) (fun hc => ?_) (fun hc => ?_)
      · replace g := g.1 hc
        exact xW.locs (L := [(0, vr 1 1), (1, vi x1)]) ⟨rfl, rfl, trivial⟩ rfl g
      · replace g := g.2 hc
        refine xW.br (c := x1 < 97) (pc1 := 100) (L1 := [(0, vr 1 1), (1, vi x1), (2, vi x2)]) (st1 := []) (h1 := xhp s) (pc2 := 87) (L2 := [(0, vr 1 1), (1, vi x1), (2, vi x2)]) (st2 := []) (h2 := xhp s) 3 (fun _ _ _ _ => rfl) (fun hc => ?_) (fun hc => ?_)
        · replace g := g.1 hc
          exact xW.locs (L := [(0, vr 1 1), (1, vi x1)]) ⟨rfl, rfl, trivial⟩ rfl g
        · replace g := g.2 hc
          refine xW.br (c := 116 < x1) (pc1 := 100) (L1 := [(0, vr 1 1), (1, vi x1), (2, vi x2)]) (st1 := []) (h1 := xhp s) (pc2 := 93) (L2 := [(0, vr 1 1), (1, vi x1), (2, vi x2)]) (st2 := []) (h2 := xhp s) 3 (fun _ _ _ _ => rfl) (fun hc => ?_) (fun hc => ?_)
          · replace g := g.1 hc
            exact xW.locs (L := [(0, vr 1 1), (1, vi x1)]) ⟨rfl, rfl, trivial⟩ rfl g
          · replace g := g.2 hc
            exact xW.locs (L := [(0, vr 1 1), (1, vi x1)]) ⟨rfl, rfl, trivial⟩ rfl g
  · replace g := g.2 (zb_ne0.mp hc)
    refine xW.call (y := 130) (as := [vr 1 1, vi x1]) (h0 := xhp s) (pc0 := 57) (len := 3) (L0 := [(0, vr 1 1), (1, vi x1), (2, vi x2)]) (rest := []) 3 (fun _ _ _ _ => rfl) (m130 _ _ g.1 ?_)
    show xW (xX0 xs Ls) p125 60 [(0, vr 1 1), (1, vi x1), (2, vi x2)] [vi ((ca_workOutFunction s x1).1)] (xhp ((ca_workOutFunction s x1).2)) Φ
    replace g := g.2
    refine xW.br (c := ¬ (ca_workOutFunction s x1).1 = 0) (pc1 := 69) (L1 := [(3, vi ((ca_workOutFunction s x1).1)), (0, vr 1 1), (1, vi x1), (2, vi x2)]) (st1 := []) (h1 := xhp ((ca_workOutFunction s x1).2)) (pc2 := 65) (L2 := [(3, vi ((ca_workOutFunction s x1).1)), (0, vr 1 1), (1, vi x1), (2, vi x2)]) (st2 := []) (h2 := xhp ((ca_workOutFunction s x1).2)) 3 (fun _ _ _ _ => rfl) (fun hc => ?_) (fun hc => ?_)
    · replace g := g.1 hc
      exact xW.ret (v0 := some (vi ((ca_workOutFunction s x1).1))) (h1 := xhp ((ca_workOutFunction s x1).2)) 2 (fun _ _ _ _ => rfl) g
    · replace g := g.2 (Decidable.not_not.mp hc)
      refine xW.call (y := 131) (as := [vr 1 1]) (h0 := xhp ((ca_workOutFunction s x1).2)) (pc0 := 66) (len := 3) (L0 := [(3, vi ((ca_workOutFunction s x1).1)), (0, vr 1 1), (1, vi x1), (2, vi x2)]) (rest := []) 2 (fun _ _ _ _ => rfl) (m131 _ ?_)
      show xW (xX0 xs Ls) p125 69 [(3, vi ((ca_workOutFunction s x1).1)), (0, vr 1 1), (1, vi x1), (2, vi x2)] [] (xhp (ca_keyFunction ((ca_workOutFunction s x1).2))) Φ
      exact xW.ret (v0 := some (vi ((ca_workOutFunction s x1).1))) (h1 := xhp (ca_keyFunction ((ca_workOutFunction s x1).2))) 2 (fun _ _ _ _ => rfl) g
noncomputable def ca_doKey_48_d (s : xS) (x1 : Int32) (x2 : Int32) : Int32 × xS := (if (te_isFunction x1) = false then (if ¬ x2 = 0 then (ca_doKey_93 s x1) else (if x1 = 67 then (ca_doKey_93 s x1) else (if x1 < 97 then (ca_doKey_100 s x1) else (if 116 < x1 then (ca_doKey_100 s x1) else (ca_doKey_93 s x1))))) else (if ¬ (ca_workOutFunction s x1).1 = 0 then (ca_workOutFunction s x1) else ((ca_workOutFunction s x1).1, (ca_keyFunction ((ca_workOutFunction s x1).2)))))
noncomputable def ca_doKey_48 : xS → Int32 → Int32 → Int32 × xS := Classical.choose (⟨ca_doKey_48_d, rfl⟩ : ∃ f, f = ca_doKey_48_d)
set_option maxRecDepth 100000 in
theorem ca_doKey_48_eq : ca_doKey_48 = ca_doKey_48_d := Classical.choose_spec (⟨ca_doKey_48_d, rfl⟩ : ∃ f, f = ca_doKey_48_d)
def ca_doKey_48_ok (s : xS) (x1 : Int32) (x2 : Int32) : Prop := (((te_isFunction x1) = false → ((¬ x2 = 0 → (ca_doKey_93_ok s x1)) ∧ (x2 = 0 → ((x1 = 67 → (ca_doKey_93_ok s x1)) ∧ (¬ (x1 = 67) → ((x1 < 97 → (ca_doKey_100_ok s x1)) ∧ (¬ (x1 < 97) → ((116 < x1 → (ca_doKey_100_ok s x1)) ∧ (¬ (116 < x1) → (ca_doKey_93_ok s x1)))))))))) ∧ ((te_isFunction x1) = true → (ca_workOutFunction_ok s x1)))
set_option maxRecDepth 100000 in
theorem n125_48 {xs : Nat → Int32} {Ls : Nat} {Φ : Option xV → xH → Prop} (s : xS) (x1 : Int32) (x2 : Int32) (gq : ca_doKey_48_ok s x1 x2) (h : Φ (some (vi (ca_doKey_48 s x1 x2).1)) (xhp (ca_doKey_48 s x1 x2).2)) : xW (xX0 xs Ls) p125 48 [(0, vr 1 1), (1, vi x1), (2, vi x2)] [] (xhp s) Φ := by
  rw [ca_doKey_48_eq] at h
  unfold ca_doKey_48_d at h
  unfold ca_doKey_48_ok at gq
  exact b125_48 s x1 x2 (⟨fun hc => by rw [if_pos hc] at h; replace gq := gq.1 hc; exact ⟨fun hc => by rw [if_pos hc] at h; replace gq := gq.1 hc; exact n125_93 _ _ gq h, fun hc => by rw [if_neg (fun z => z hc)] at h; replace gq := gq.2 hc; exact ⟨fun hc => by rw [if_pos hc] at h; replace gq := gq.1 hc; exact n125_93 _ _ gq h, fun hc => by rw [if_neg hc] at h; replace gq := gq.2 hc; exact ⟨fun hc => by rw [if_pos hc] at h; replace gq := gq.1 hc; exact n125_100 _ _ gq h, fun hc => by rw [if_neg hc] at h; replace gq := gq.2 hc; exact ⟨fun hc => by rw [if_pos hc] at h; replace gq := gq.1 hc; exact n125_100 _ _ gq h, fun hc => by rw [if_neg hc] at h; replace gq := gq.2 hc; exact n125_93 _ _ gq h⟩⟩⟩⟩, fun hc => by rw [if_neg (by rw [hc]; decide)] at h; replace gq := gq.2 hc; exact ⟨gq, ⟨fun hc => by rw [if_pos hc] at h; exact (by (try dsimp only at h); exact h), fun hc => by rw [if_neg (fun z => z hc)] at h; exact (by (try dsimp only at h); exact h)⟩⟩⟩)
set_option maxRecDepth 100000 in
theorem b125_42 {xs : Nat → Int32} {Ls : Nat} {Φ : Option xV → xH → Prop} (s : xS) (x1 : Int32) (g : ((ca_keyEntry_ok s x1) ∧ Φ (some (vi ((ca_keyEntry s x1).1))) (xhp ((ca_keyEntry s x1).2)))) : xW (xX0 xs Ls) p125 42 [(0, vr 1 1), (1, vi x1)] [] (xhp s) Φ := by
  refine xW.call (y := 128) (as := [vr 1 1, vi x1]) (h0 := xhp s) (pc0 := 44) (len := 3) (L0 := [(0, vr 1 1), (1, vi x1)]) (rest := []) 3 (fun _ _ _ _ => rfl) (m128 _ _ g.1 ?_)
  show xW (xX0 xs Ls) p125 47 [(0, vr 1 1), (1, vi x1)] [vi ((ca_keyEntry s x1).1)] (xhp ((ca_keyEntry s x1).2)) Φ
  replace g := g.2
  exact xW.ret (v0 := some (vi ((ca_keyEntry s x1).1))) (h1 := xhp ((ca_keyEntry s x1).2)) 1 (fun _ _ _ _ => rfl) g
noncomputable def ca_doKey_42_d (s : xS) (x1 : Int32) : Int32 × xS := (ca_keyEntry s x1)
noncomputable def ca_doKey_42 : xS → Int32 → Int32 × xS := Classical.choose (⟨ca_doKey_42_d, rfl⟩ : ∃ f, f = ca_doKey_42_d)
set_option maxRecDepth 100000 in
theorem ca_doKey_42_eq : ca_doKey_42 = ca_doKey_42_d := Classical.choose_spec (⟨ca_doKey_42_d, rfl⟩ : ∃ f, f = ca_doKey_42_d)
def ca_doKey_42_ok (s : xS) (x1 : Int32) : Prop := (ca_keyEntry_ok s x1)
set_option maxRecDepth 100000 in
theorem n125_42 {xs : Nat → Int32} {Ls : Nat} {Φ : Option xV → xH → Prop} (s : xS) (x1 : Int32) (gq : ca_doKey_42_ok s x1) (h : Φ (some (vi (ca_doKey_42 s x1).1)) (xhp (ca_doKey_42 s x1).2)) : xW (xX0 xs Ls) p125 42 [(0, vr 1 1), (1, vi x1)] [] (xhp s) Φ := by
  rw [ca_doKey_42_eq] at h
  unfold ca_doKey_42_d at h
  unfold ca_doKey_42_ok at gq
  exact b125_42 s x1 (⟨gq, (by (try dsimp only at h); exact h)⟩)
set_option maxRecDepth 100000 in
theorem b125_0 {xs : Nat → Int32} {Ls : Nat} {Φ : Option xV → xH → Prop} (s : xS) (k : Int32) (g : (((te_beginsEntry k) = true → xW (xX0 xs Ls) p125 42 [(0, vr 1 1), (1, vi k)] [] (xhp s) Φ) ∧ ((te_beginsEntry k) = false → (((gI s 7 0) = 0 → xW (xX0 xs Ls) p125 48 [(0, vr 1 1), (1, vi k), (2, vi (zb ((decide (k = 78)) || (decide (k = 66)))))] [] (xhp s) Φ) ∧ (¬ ((gI s 7 0) = 0) → ((((decide (k = 78)) || (decide (k = 66))) = false → xW (xX0 xs Ls) p125 48 [(0, vr 1 1), (1, vi k), (2, vi (zb ((decide (k = 78)) || (decide (k = 66)))))] [] (xhp s) Φ) ∧ (((decide (k = 78)) || (decide (k = 66))) = true → xW (xX0 xs Ls) p125 42 [(0, vr 1 1), (1, vi k)] [] (xhp s) Φ))))))) : xW (xX0 xs Ls) p125 0 [(0, vr 1 1), (1, vi k)] [] (xhp s) Φ := by
  refine xW.seg (pc1 := 3) (L1 := [(0, vr 1 1), (1, vi k)]) (st1 := [vi 78, vi k]) (h1 := xhp s) 2 (fun _ _ _ _ => rfl) ?_
  suffices J : xW (xX0 xs Ls) p125 17 [(0, vr 1 1), (1, vi k)] [vi (zb ((decide (k = 78)) || (decide (k = 66))))] (xhp s) Φ by
    refine xW.br (c := k = 78) (pc1 := 12) (L1 := [(0, vr 1 1), (1, vi k)]) (st1 := []) (h1 := xhp s) (pc2 := 6) (L2 := [(0, vr 1 1), (1, vi k)]) (st2 := []) (h2 := xhp s) 1 (fun _ _ _ _ => rfl) (fun hc => ?_) (fun hc => ?_)
    · have hc1 : k = 78 := hc
      refine xW.seg (pc1 := 17) (L1 := [(0, vr 1 1), (1, vi k)]) (st1 := [vi 1]) (h1 := xhp s) 2 (fun _ _ _ _ => rfl) ?_
      refine xW.to (v := vi (zb ((decide (k = 78)) || (decide (k = 66))))) (zb_t (by simp only [decide_eq_true hc1, Bool.true_or, Bool.or_true, Bool.false_or, Bool.or_false, Bool.true_and, Bool.and_true, Bool.false_and, Bool.and_false, Bool.not_true, Bool.not_false, cond_true, cond_false])) ?_
      exact J
    · have hc1 : ¬ (k = 78) := hc
      refine xW.br (c := ¬ k = 66) (pc1 := 16) (L1 := [(0, vr 1 1), (1, vi k)]) (st1 := []) (h1 := xhp s) (pc2 := 12) (L2 := [(0, vr 1 1), (1, vi k)]) (st2 := []) (h2 := xhp s) 3 (fun _ _ _ _ => rfl) (fun hc => ?_) (fun hc => ?_)
      · have hc2 : ¬ k = 66 := hc
        refine xW.seg (pc1 := 17) (L1 := [(0, vr 1 1), (1, vi k)]) (st1 := [vi 0]) (h1 := xhp s) 1 (fun _ _ _ _ => rfl) ?_
        refine xW.to (v := vi (zb ((decide (k = 78)) || (decide (k = 66))))) (zb_f (by simp only [decide_eq_false hc1, decide_eq_false hc2, Bool.true_or, Bool.or_true, Bool.false_or, Bool.or_false, Bool.true_and, Bool.and_true, Bool.false_and, Bool.and_false, Bool.not_true, Bool.not_false, cond_true, cond_false])) ?_
        exact J
      · have hc2 : k = 66 := (Decidable.not_not.mp hc)
        refine xW.seg (pc1 := 17) (L1 := [(0, vr 1 1), (1, vi k)]) (st1 := [vi 1]) (h1 := xhp s) 2 (fun _ _ _ _ => rfl) ?_
        refine xW.to (v := vi (zb ((decide (k = 78)) || (decide (k = 66))))) (zb_t (by simp only [decide_eq_false hc1, decide_eq_true hc2, Bool.true_or, Bool.or_true, Bool.false_or, Bool.or_false, Bool.true_and, Bool.and_true, Bool.false_and, Bool.and_false, Bool.not_true, Bool.not_false, cond_true, cond_false])) ?_
        exact J
  refine xW.call (y := 24) (as := [vi k]) (h0 := xhp s) (pc0 := 19) (len := 3) (L0 := [(2, vi (zb ((decide (k = 78)) || (decide (k = 66))))), (0, vr 1 1), (1, vi k)]) (rest := []) 3 (fun _ _ _ _ => rfl) (m24 _ _ ?_)
  show xW (xX0 xs Ls) p125 22 [(2, vi (zb ((decide (k = 78)) || (decide (k = 66))))), (0, vr 1 1), (1, vi k)] [vi (zb (te_beginsEntry k))] (xhp s) Φ
  refine xW.br (c := ¬ (zb (te_beginsEntry k)) = 0) (pc1 := 42) (L1 := [(2, vi (zb ((decide (k = 78)) || (decide (k = 66))))), (0, vr 1 1), (1, vi k)]) (st1 := []) (h1 := xhp s) (pc2 := 25) (L2 := [(2, vi (zb ((decide (k = 78)) || (decide (k = 66))))), (0, vr 1 1), (1, vi k)]) (st2 := []) (h2 := xhp s) 1 (fun _ _ _ _ => rfl) (fun hc => ?_) (fun hc => ?_)
  · replace g := g.1 (zb_ne0.mp hc)
    exact xW.locs (L := [(0, vr 1 1), (1, vi k)]) ⟨rfl, rfl, trivial⟩ rfl g
  · replace g := g.2 (zb_eq0.mp (Decidable.not_not.mp hc))
    refine xW.br (c := (gI s 7 0) = 0) (pc1 := 48) (L1 := [(2, vi (zb ((decide (k = 78)) || (decide (k = 66))))), (0, vr 1 1), (1, vi k)]) (st1 := []) (h1 := xhp s) (pc2 := 38) (L2 := [(2, vi (zb ((decide (k = 78)) || (decide (k = 66))))), (0, vr 1 1), (1, vi k)]) (st2 := []) (h2 := xhp s) 5 (fun _ _ _ _ => rfl) (fun hc => ?_) (fun hc => ?_)
    · replace g := g.1 hc
      exact xW.locs (L := [(0, vr 1 1), (1, vi k), (2, vi (zb ((decide (k = 78)) || (decide (k = 66)))))]) ⟨rfl, rfl, rfl, trivial⟩ rfl g
    · replace g := g.2 hc
      refine xW.br (c := (zb ((decide (k = 78)) || (decide (k = 66)))) = 0) (pc1 := 48) (L1 := [(2, vi (zb ((decide (k = 78)) || (decide (k = 66))))), (0, vr 1 1), (1, vi k)]) (st1 := []) (h1 := xhp s) (pc2 := 42) (L2 := [(2, vi (zb ((decide (k = 78)) || (decide (k = 66))))), (0, vr 1 1), (1, vi k)]) (st2 := []) (h2 := xhp s) 2 (fun _ _ _ _ => rfl) (fun hc => ?_) (fun hc => ?_)
      · replace g := g.1 (zb_eq0.mp hc)
        exact xW.locs (L := [(0, vr 1 1), (1, vi k), (2, vi (zb ((decide (k = 78)) || (decide (k = 66)))))]) ⟨rfl, rfl, rfl, trivial⟩ rfl g
      · replace g := g.2 (zb_ne0.mp hc)
        exact xW.locs (L := [(0, vr 1 1), (1, vi k)]) ⟨rfl, rfl, trivial⟩ rfl g
noncomputable def ca_doKey_d (s : xS) (k : Int32) : Int32 × xS := (if (te_beginsEntry k) = true then (ca_doKey_42 s k) else (if (gI s 7 0) = 0 then (ca_doKey_48 s k (zb ((decide (k = 78)) || (decide (k = 66))))) else (if ((decide (k = 78)) || (decide (k = 66))) = false then (ca_doKey_48 s k (zb ((decide (k = 78)) || (decide (k = 66))))) else (ca_doKey_42 s k))))
noncomputable def ca_doKey : xS → Int32 → Int32 × xS := Classical.choose (⟨ca_doKey_d, rfl⟩ : ∃ f, f = ca_doKey_d)
set_option maxRecDepth 100000 in
theorem ca_doKey_eq : ca_doKey = ca_doKey_d := Classical.choose_spec (⟨ca_doKey_d, rfl⟩ : ∃ f, f = ca_doKey_d)
def ca_doKey_ok (s : xS) (k : Int32) : Prop := (((te_beginsEntry k) = true → (ca_doKey_42_ok s k)) ∧ ((te_beginsEntry k) = false → (((gI s 7 0) = 0 → (ca_doKey_48_ok s k (zb ((decide (k = 78)) || (decide (k = 66)))))) ∧ (¬ ((gI s 7 0) = 0) → ((((decide (k = 78)) || (decide (k = 66))) = false → (ca_doKey_48_ok s k (zb ((decide (k = 78)) || (decide (k = 66)))))) ∧ (((decide (k = 78)) || (decide (k = 66))) = true → (ca_doKey_42_ok s k)))))))
set_option maxRecDepth 100000 in
theorem m125 {xs : Nat → Int32} {Ls : Nat} {Ψ : xO → xH → Prop} (s : xS) (k : Int32) (gq : ca_doKey_ok s k) (h : Ψ (.inl (some (vi (ca_doKey s k).1))) (xhp (ca_doKey s k).2)) : xM (xX0 xs Ls) 125 [vr 1 1, vi k] (xhp s) Ψ := by
  rw [ca_doKey_eq] at h
  unfold ca_doKey_d at h
  unfold ca_doKey_ok at gq
  exact xM.of (P := p125) rfl rfl rfl (b125_0 s k (⟨fun hc => by rw [if_pos hc] at h; replace gq := gq.1 hc; exact n125_42 _ _ gq h, fun hc => by rw [if_neg (by rw [hc]; decide)] at h; replace gq := gq.2 hc; exact ⟨fun hc => by rw [if_pos hc] at h; replace gq := gq.1 hc; exact n125_48 _ _ _ gq h, fun hc => by rw [if_neg hc] at h; replace gq := gq.2 hc; exact ⟨fun hc => by rw [if_pos hc] at h; replace gq := gq.1 hc; exact n125_48 _ _ _ gq h, fun hc => by rw [if_neg (by rw [hc]; decide)] at h; replace gq := gq.2 hc; exact n125_42 _ _ gq h⟩⟩⟩))
