/-! dk_set -/
theorem b144_31 {xs : Nat → Int32} {Ls : Nat} {Φ : Option xV → xH → Prop} (s : xS) (B : Nat) (C : Nat) (x2 : Int32) (hB : xDk B) (hC : xDk C) (g : (((gI s (C + 3) 1) ≤ x2 → ((ro_set_ok s (B + 3) (C + 3) (B + 4) (C + 4)) ∧ ((en_set_ok (ro_set s (B + 3) (C + 3) (B + 4) (C + 4)) (B + 5) (C + 5)) ∧ (((gI (en_set (ro_set s (B + 3) (C + 3) (B + 4) (C + 4)) (B + 5) (C + 5)) C 9) = 0 ∨ (gI (en_set (ro_set s (B + 3) (C + 3) (B + 4) (C + 4)) (B + 5) (C + 5)) C 9) = 1) ∧ Φ none (xhp (sI (en_set (ro_set s (B + 3) (C + 3) (B + 4) (C + 4)) (B + 5) (C + 5)) B 9 (gI (en_set (ro_set s (B + 3) (C + 3) (B + 4) (C + 4)) (B + 5) (C + 5)) C 9))))))) ∧ (¬ ((gI s (C + 3) 1) ≤ x2) → ((vp_in x2 (xK0 (B + 2)).2 ∧ xRok (B + 2) x2.toNatClampNeg 5) ∧ ((vp_in x2 (xK0 (C + 2)).2 ∧ xRok (C + 2) x2.toNatClampNeg 5) ∧ xW (xX0 xs Ls) p144 31 [(0, vr 2 B), (1, vr 2 C), (2, vi (x2 + 1))] [] (xhp (de_set s (xR0 (B + 2) x2.toNatClampNeg - 1) (xR0 (C + 2) x2.toNatClampNeg - 1))) Φ))))) : xW (xX0 xs Ls) p144 31 [(0, vr 2 B), (1, vr 2 C), (2, vi x2)] [] (xhp s) Φ := by
  refine xW.refg (r := xR0 C 7) (a := (C + 3)) (kind := 3) (h0 := xhp s) (pc1 := 36) (L1 := [(0, vr 2 B), (1, vr 2 C), (2, vi x2)]) (st1 := [vi x2]) (h1 := xhp s) 3 (fun _ _ _ _ => rfl) hC.2.2.1 hC.2.2.2.2.2.2.1 ?_
  refine xW.br (c := (gI s (C + 3) 1) ≤ x2) (pc1 := 63) (L1 := [(0, vr 2 B), (1, vr 2 C), (2, vi x2)]) (st1 := []) (h1 := xhp s) (pc2 := 42) (L2 := [(0, vr 2 B), (1, vr 2 C), (2, vi x2)]) (st2 := []) (h2 := xhp s) 2 (fun _ _ _ _ => rfl) (fun hc => ?_) (fun hc => ?_)
  · replace g := g.1 hc
    refine xW.refg (r := xR0 B 7) (a := (B + 3)) (kind := 3) (h0 := xhp s) (pc1 := 67) (L1 := [(0, vr 2 B), (1, vr 2 C), (2, vi x2)]) (st1 := []) (h1 := xhp s) 2 (fun _ _ _ _ => rfl) hB.2.2.1 hB.2.2.2.2.2.2.1 ?_
    refine xW.refg (r := xR0 C 7) (a := (C + 3)) (kind := 3) (h0 := xhp s) (pc1 := 71) (L1 := [(0, vr 2 B), (1, vr 2 C), (2, vi x2)]) (st1 := [vr 3 (B + 3)]) (h1 := xhp s) 2 (fun _ _ _ _ => rfl) hC.2.2.1 hC.2.2.2.2.2.2.1 ?_
    refine xW.call (y := 184) (as := [vr 3 (B + 3), vr 3 (C + 3)]) (h0 := xhp s) (pc0 := 71) (len := 3) (L0 := [(0, vr 2 B), (1, vr 2 C), (2, vi x2)]) (rest := []) 1 (fun _ _ _ _ => rfl) (m184 _ _ _ _ _ hB.2.2.2.2.2.2.2.2.1 hB.2.2.2.2.2.2.2.2.2 hC.2.2.2.2.2.2.2.2.1 hC.2.2.2.2.2.2.2.2.2 g.1 ?_)
    show xW (xX0 xs Ls) p144 74 [(0, vr 2 B), (1, vr 2 C), (2, vi x2)] [] (xhp (ro_set s (B + 3) (C + 3) (B + 4) (C + 4))) Φ
    replace g := g.2
    refine xW.refg (r := xR0 B 8) (a := (B + 5)) (kind := 4) (h0 := xhp (ro_set s (B + 3) (C + 3) (B + 4) (C + 4))) (pc1 := 78) (L1 := [(0, vr 2 B), (1, vr 2 C), (2, vi x2)]) (st1 := []) (h1 := xhp (ro_set s (B + 3) (C + 3) (B + 4) (C + 4))) 2 (fun _ _ _ _ => rfl) hB.2.2.2.1 hB.2.2.2.2.2.2.2.1 ?_
    refine xW.refg (r := xR0 C 8) (a := (C + 5)) (kind := 4) (h0 := xhp (ro_set s (B + 3) (C + 3) (B + 4) (C + 4))) (pc1 := 82) (L1 := [(0, vr 2 B), (1, vr 2 C), (2, vi x2)]) (st1 := [vr 4 (B + 5)]) (h1 := xhp (ro_set s (B + 3) (C + 3) (B + 4) (C + 4))) 2 (fun _ _ _ _ => rfl) hC.2.2.2.1 hC.2.2.2.2.2.2.2.1 ?_
    refine xW.call (y := 149) (as := [vr 4 (B + 5), vr 4 (C + 5)]) (h0 := xhp (ro_set s (B + 3) (C + 3) (B + 4) (C + 4))) (pc0 := 82) (len := 3) (L0 := [(0, vr 2 B), (1, vr 2 C), (2, vi x2)]) (rest := []) 1 (fun _ _ _ _ => rfl) (m149 _ _ _ g.1 ?_)
    show xW (xX0 xs Ls) p144 85 [(0, vr 2 B), (1, vr 2 C), (2, vi x2)] [] (xhp (en_set (ro_set s (B + 3) (C + 3) (B + 4) (C + 4)) (B + 5) (C + 5))) Φ
    replace g := g.2
    refine xW.side (c := (gI (en_set (ro_set s (B + 3) (C + 3) (B + 4) (C + 4)) (B + 5) (C + 5)) C 9) = 0 ∨ (gI (en_set (ro_set s (B + 3) (C + 3) (B + 4) (C + 4)) (B + 5) (C + 5)) C 9) = 1) (pc1 := 93) (L1 := [(0, vr 2 B), (1, vr 2 C), (2, vi x2)]) (st1 := []) (h1 := xhp (sI (en_set (ro_set s (B + 3) (C + 3) (B + 4) (C + 4)) (B + 5) (C + 5)) B 9 (gI (en_set (ro_set s (B + 3) (C + 3) (B + 4) (C + 4)) (B + 5) (C + 5)) C 9))) 4 (fun _ _ _ _ => rfl) g.1 ?_
    replace g := g.2
    exact xW.ret (v0 := none) (h1 := xhp (sI (en_set (ro_set s (B + 3) (C + 3) (B + 4) (C + 4)) (B + 5) (C + 5)) B 9 (gI (en_set (ro_set s (B + 3) (C + 3) (B + 4) (C + 4)) (B + 5) (C + 5)) C 9))) 1 (fun _ _ _ _ => rfl) g
  · replace g := g.2 hc
    refine xW.refg (r := xR0 B 6) (a := (B + 2)) (kind := 65) (h0 := xhp s) (pc1 := 46) (L1 := [(0, vr 2 B), (1, vr 2 C), (2, vi x2)]) (st1 := []) (h1 := xhp s) 2 (fun _ _ _ _ => rfl) hB.2.1 hB.2.2.2.2.2.1 ?_
    refine xW.refr (r := xR0 (B + 2) x2.toNatClampNeg) (a := (xR0 (B + 2) x2.toNatClampNeg - 1)) (kind := 5) (c := vp_in x2 (xK0 (B + 2)).2) (h0 := xhp s) (pc1 := 48) (L1 := [(0, vr 2 B), (1, vr 2 C), (2, vi x2)]) (st1 := []) (h1 := xhp s) 2 (fun _ _ _ _ => rfl) g.1.1 g.1.2.1 g.1.2.2 ?_
    replace g := g.2
    refine xW.refg (r := xR0 C 6) (a := (C + 2)) (kind := 65) (h0 := xhp s) (pc1 := 52) (L1 := [(0, vr 2 B), (1, vr 2 C), (2, vi x2)]) (st1 := [vr 5 (xR0 (B + 2) x2.toNatClampNeg - 1)]) (h1 := xhp s) 2 (fun _ _ _ _ => rfl) hC.2.1 hC.2.2.2.2.2.1 ?_
    refine xW.refr (r := xR0 (C + 2) x2.toNatClampNeg) (a := (xR0 (C + 2) x2.toNatClampNeg - 1)) (kind := 5) (c := vp_in x2 (xK0 (C + 2)).2) (h0 := xhp s) (pc1 := 54) (L1 := [(0, vr 2 B), (1, vr 2 C), (2, vi x2)]) (st1 := [vr 5 (xR0 (B + 2) x2.toNatClampNeg - 1)]) (h1 := xhp s) 2 (fun _ _ _ _ => rfl) g.1.1 g.1.2.1 g.1.2.2 ?_
    replace g := g.2
    refine xW.call (y := 137) (as := [vr 5 (xR0 (B + 2) x2.toNatClampNeg - 1), vr 5 (xR0 (C + 2) x2.toNatClampNeg - 1)]) (h0 := xhp s) (pc0 := 54) (len := 3) (L0 := [(0, vr 2 B), (1, vr 2 C), (2, vi x2)]) (rest := []) 1 (fun _ _ _ _ => rfl) (m137 _ _ _ ?_)
    show xW (xX0 xs Ls) p144 57 [(0, vr 2 B), (1, vr 2 C), (2, vi x2)] [] (xhp (de_set s (xR0 (B + 2) x2.toNatClampNeg - 1) (xR0 (C + 2) x2.toNatClampNeg - 1))) Φ
    refine xW.seg (pc1 := 31) (L1 := [(2, vi (x2 + 1)), (0, vr 2 B), (1, vr 2 C)]) (st1 := []) (h1 := xhp (de_set s (xR0 (B + 2) x2.toNatClampNeg - 1) (xR0 (C + 2) x2.toNatClampNeg - 1))) 2 (fun _ _ _ _ => rfl) ?_
    exact xW.locs (L := [(0, vr 2 B), (1, vr 2 C), (2, vi (x2 + 1))]) ⟨rfl, rfl, rfl, trivial⟩ rfl g
noncomputable def dk_set_31 : Nat → xS → Nat → Nat → Int32 → xS
  | 0, s, _, _, _ => s
  | n + 1, s, B, C, x2 => (if (gI s (C + 3) 1) ≤ x2 then (sI (en_set (ro_set s (B + 3) (C + 3) (B + 4) (C + 4)) (B + 5) (C + 5)) B 9 (gI (en_set (ro_set s (B + 3) (C + 3) (B + 4) (C + 4)) (B + 5) (C + 5)) C 9)) else (dk_set_31 n (de_set s (xR0 (B + 2) x2.toNatClampNeg - 1) (xR0 (C + 2) x2.toNatClampNeg - 1)) B C (x2 + 1)))
def dk_set_31_ok : Nat → xS → Nat → Nat → Int32 → Prop
  | 0, _, _, _, _ => False
  | n + 1, s, B, C, x2 => (((gI s (C + 3) 1) ≤ x2 → ((ro_set_ok s (B + 3) (C + 3) (B + 4) (C + 4)) ∧ ((en_set_ok (ro_set s (B + 3) (C + 3) (B + 4) (C + 4)) (B + 5) (C + 5)) ∧ ((gI (en_set (ro_set s (B + 3) (C + 3) (B + 4) (C + 4)) (B + 5) (C + 5)) C 9) = 0 ∨ (gI (en_set (ro_set s (B + 3) (C + 3) (B + 4) (C + 4)) (B + 5) (C + 5)) C 9) = 1)))) ∧ (¬ ((gI s (C + 3) 1) ≤ x2) → ((vp_in x2 (xK0 (B + 2)).2 ∧ xRok (B + 2) x2.toNatClampNeg 5) ∧ ((vp_in x2 (xK0 (C + 2)).2 ∧ xRok (C + 2) x2.toNatClampNeg 5) ∧ (dk_set_31_ok n (de_set s (xR0 (B + 2) x2.toNatClampNeg - 1) (xR0 (C + 2) x2.toNatClampNeg - 1)) B C (x2 + 1))))))
set_option maxRecDepth 100000 in
theorem n144_31 {xs : Nat → Int32} {Ls : Nat} {Φ : Option xV → xH → Prop} (B : Nat) (C : Nat) (hB : xDk B) (hC : xDk C) : ∀ (n : Nat) (s : xS) (x2 : Int32), dk_set_31_ok n s B C x2 → Φ none (xhp (dk_set_31 n s B C x2)) → xW (xX0 xs Ls) p144 31 [(0, vr 2 B), (1, vr 2 C), (2, vi x2)] [] (xhp s) Φ := by
  intro n
  induction n with
  | zero => intro s _ gq; exact gq.elim
  | succ n ih =>
    intro s x2 gq h
    unfold dk_set_31_ok at gq
    unfold dk_set_31 at h
    exact b144_31 s B C x2 hB hC (⟨fun hc => by rw [if_pos hc] at h; replace gq := gq.1 hc; exact ⟨gq.1, by replace gq := gq.2; exact ⟨gq.1, by replace gq := gq.2; exact ⟨gq, h⟩⟩⟩, fun hc => by rw [if_neg hc] at h; replace gq := gq.2 hc; exact ⟨gq.1, by replace gq := gq.2; exact ⟨gq.1, by replace gq := gq.2; exact ih _ _ gq h⟩⟩⟩)
set_option maxRecDepth 100000 in
theorem b144_2 {xs : Nat → Int32} {Ls : Nat} {Φ : Option xV → xH → Prop} (s : xS) (B : Nat) (C : Nat) (x2 : Int32) (hB : xDk B) (hC : xDk C) (g : ((15 ≤ x2 → xW (xX0 xs Ls) p144 31 [(0, vr 2 B), (1, vr 2 C), (2, vi 0)] [] (xhp s) Φ) ∧ (¬ (15 ≤ x2) → ((vp_in x2 (xK0 (B + 1)).2 ∧ xRok (B + 1) x2.toNatClampNeg 5) ∧ ((vp_in x2 (xK0 (C + 1)).2 ∧ xRok (C + 1) x2.toNatClampNeg 5) ∧ xW (xX0 xs Ls) p144 2 [(0, vr 2 B), (1, vr 2 C), (2, vi (x2 + 1))] [] (xhp (de_set s (xR0 (B + 1) x2.toNatClampNeg - 1) (xR0 (C + 1) x2.toNatClampNeg - 1))) Φ))))) : xW (xX0 xs Ls) p144 2 [(0, vr 2 B), (1, vr 2 C), (2, vi x2)] [] (xhp s) Φ := by
  refine xW.br (c := 15 ≤ x2) (pc1 := 29) (L1 := [(0, vr 2 B), (1, vr 2 C), (2, vi x2)]) (st1 := []) (h1 := xhp s) (pc2 := 8) (L2 := [(0, vr 2 B), (1, vr 2 C), (2, vi x2)]) (st2 := []) (h2 := xhp s) 3 (fun _ _ _ _ => rfl) (fun hc => ?_) (fun hc => ?_)
  · replace g := g.1 hc
    refine xW.seg (pc1 := 31) (L1 := [(2, vi 0), (0, vr 2 B), (1, vr 2 C)]) (st1 := []) (h1 := xhp s) 2 (fun _ _ _ _ => rfl) ?_
    exact xW.locs (L := [(0, vr 2 B), (1, vr 2 C), (2, vi 0)]) ⟨rfl, rfl, rfl, trivial⟩ rfl g
  · replace g := g.2 hc
    refine xW.refg (r := xR0 B 0) (a := (B + 1)) (kind := 65) (h0 := xhp s) (pc1 := 12) (L1 := [(0, vr 2 B), (1, vr 2 C), (2, vi x2)]) (st1 := []) (h1 := xhp s) 2 (fun _ _ _ _ => rfl) hB.1 hB.2.2.2.2.1 ?_
    refine xW.refr (r := xR0 (B + 1) x2.toNatClampNeg) (a := (xR0 (B + 1) x2.toNatClampNeg - 1)) (kind := 5) (c := vp_in x2 (xK0 (B + 1)).2) (h0 := xhp s) (pc1 := 14) (L1 := [(0, vr 2 B), (1, vr 2 C), (2, vi x2)]) (st1 := []) (h1 := xhp s) 2 (fun _ _ _ _ => rfl) g.1.1 g.1.2.1 g.1.2.2 ?_
    replace g := g.2
    refine xW.refg (r := xR0 C 0) (a := (C + 1)) (kind := 65) (h0 := xhp s) (pc1 := 18) (L1 := [(0, vr 2 B), (1, vr 2 C), (2, vi x2)]) (st1 := [vr 5 (xR0 (B + 1) x2.toNatClampNeg - 1)]) (h1 := xhp s) 2 (fun _ _ _ _ => rfl) hC.1 hC.2.2.2.2.1 ?_
    refine xW.refr (r := xR0 (C + 1) x2.toNatClampNeg) (a := (xR0 (C + 1) x2.toNatClampNeg - 1)) (kind := 5) (c := vp_in x2 (xK0 (C + 1)).2) (h0 := xhp s) (pc1 := 20) (L1 := [(0, vr 2 B), (1, vr 2 C), (2, vi x2)]) (st1 := [vr 5 (xR0 (B + 1) x2.toNatClampNeg - 1)]) (h1 := xhp s) 2 (fun _ _ _ _ => rfl) g.1.1 g.1.2.1 g.1.2.2 ?_
    replace g := g.2
    refine xW.call (y := 137) (as := [vr 5 (xR0 (B + 1) x2.toNatClampNeg - 1), vr 5 (xR0 (C + 1) x2.toNatClampNeg - 1)]) (h0 := xhp s) (pc0 := 20) (len := 3) (L0 := [(0, vr 2 B), (1, vr 2 C), (2, vi x2)]) (rest := []) 1 (fun _ _ _ _ => rfl) (m137 _ _ _ ?_)
    show xW (xX0 xs Ls) p144 23 [(0, vr 2 B), (1, vr 2 C), (2, vi x2)] [] (xhp (de_set s (xR0 (B + 1) x2.toNatClampNeg - 1) (xR0 (C + 1) x2.toNatClampNeg - 1))) Φ
    refine xW.seg (pc1 := 2) (L1 := [(2, vi (x2 + 1)), (0, vr 2 B), (1, vr 2 C)]) (st1 := []) (h1 := xhp (de_set s (xR0 (B + 1) x2.toNatClampNeg - 1) (xR0 (C + 1) x2.toNatClampNeg - 1))) 2 (fun _ _ _ _ => rfl) ?_
    exact xW.locs (L := [(0, vr 2 B), (1, vr 2 C), (2, vi (x2 + 1))]) ⟨rfl, rfl, rfl, trivial⟩ rfl g
noncomputable def dk_set_2 : Nat → xS → Nat → Nat → Int32 → xS
  | 0, s, _, _, _ => s
  | n + 1, s, B, C, x2 => (if 15 ≤ x2 then (dk_set_31 xfu s B C 0) else (dk_set_2 n (de_set s (xR0 (B + 1) x2.toNatClampNeg - 1) (xR0 (C + 1) x2.toNatClampNeg - 1)) B C (x2 + 1)))
def dk_set_2_ok : Nat → xS → Nat → Nat → Int32 → Prop
  | 0, _, _, _, _ => False
  | n + 1, s, B, C, x2 => ((15 ≤ x2 → (dk_set_31_ok xfu s B C 0)) ∧ (¬ (15 ≤ x2) → ((vp_in x2 (xK0 (B + 1)).2 ∧ xRok (B + 1) x2.toNatClampNeg 5) ∧ ((vp_in x2 (xK0 (C + 1)).2 ∧ xRok (C + 1) x2.toNatClampNeg 5) ∧ (dk_set_2_ok n (de_set s (xR0 (B + 1) x2.toNatClampNeg - 1) (xR0 (C + 1) x2.toNatClampNeg - 1)) B C (x2 + 1))))))
set_option maxRecDepth 100000 in
theorem n144_2 {xs : Nat → Int32} {Ls : Nat} {Φ : Option xV → xH → Prop} (B : Nat) (C : Nat) (hB : xDk B) (hC : xDk C) : ∀ (n : Nat) (s : xS) (x2 : Int32), dk_set_2_ok n s B C x2 → Φ none (xhp (dk_set_2 n s B C x2)) → xW (xX0 xs Ls) p144 2 [(0, vr 2 B), (1, vr 2 C), (2, vi x2)] [] (xhp s) Φ := by
  intro n
  induction n with
  | zero => intro s _ gq; exact gq.elim
  | succ n ih =>
    intro s x2 gq h
    unfold dk_set_2_ok at gq
    unfold dk_set_2 at h
    exact b144_2 s B C x2 hB hC (⟨fun hc => by rw [if_pos hc] at h; replace gq := gq.1 hc; exact n144_31 _ _ hB hC _ _ _ gq h, fun hc => by rw [if_neg hc] at h; replace gq := gq.2 hc; exact ⟨gq.1, by replace gq := gq.2; exact ⟨gq.1, by replace gq := gq.2; exact ih _ _ gq h⟩⟩⟩)
set_option maxRecDepth 100000 in
theorem b144_0 {xs : Nat → Int32} {Ls : Nat} {Φ : Option xV → xH → Prop} (s : xS) (B : Nat) (C : Nat) (hB : xDk B) (hC : xDk C) (g : xW (xX0 xs Ls) p144 2 [(0, vr 2 B), (1, vr 2 C), (2, vi 0)] [] (xhp s) Φ) : xW (xX0 xs Ls) p144 0 [(0, vr 2 B), (1, vr 2 C)] [] (xhp s) Φ := by
  refine xW.seg (pc1 := 2) (L1 := [(2, vi 0), (0, vr 2 B), (1, vr 2 C)]) (st1 := []) (h1 := xhp s) 2 (fun _ _ _ _ => rfl) ?_
  exact xW.locs (L := [(0, vr 2 B), (1, vr 2 C), (2, vi 0)]) ⟨rfl, rfl, rfl, trivial⟩ rfl g
noncomputable def dk_set_d (s : xS) (B : Nat) (C : Nat) : xS := (dk_set_2 xfu s B C 0)
noncomputable def dk_set : xS → Nat → Nat → xS := Classical.choose (⟨dk_set_d, rfl⟩ : ∃ f, f = dk_set_d)
set_option maxRecDepth 100000 in
theorem dk_set_eq : dk_set = dk_set_d := Classical.choose_spec (⟨dk_set_d, rfl⟩ : ∃ f, f = dk_set_d)
def dk_set_ok (s : xS) (B : Nat) (C : Nat) : Prop := (dk_set_2_ok xfu s B C 0)
set_option maxRecDepth 100000 in
theorem m144 {xs : Nat → Int32} {Ls : Nat} {Ψ : xO → xH → Prop} (s : xS) (B : Nat) (C : Nat) (hB : xDk B) (hC : xDk C) (gq : dk_set_ok s B C) (h : Ψ (.inl none) (xhp (dk_set s B C))) : xM (xX0 xs Ls) 144 [vr 2 B, vr 2 C] (xhp s) Ψ := by
  rw [dk_set_eq] at h
  unfold dk_set_d at h
  unfold dk_set_ok at gq
  exact xM.of (P := p144) rfl rfl rfl (b144_0 s B C hB hC (n144_2 _ _ hB hC _ _ _ gq h))
/-! dk_clear -/
theorem b145_3 {xs : Nat → Int32} {Ls : Nat} {Φ : Option xV → xH → Prop} (s : xS) (x1 : Int32) (g : ((15 ≤ x1 → Φ none (xhp (sI (sI (ro_clear s 5) 7 0 0) 2 9 0))) ∧ (¬ (15 ≤ x1) → ((vp_in x1 15 ∧ xRok 3 x1.toNatClampNeg 5) ∧ xW (xX0 xs Ls) p145 3 [(0, vr 2 2), (1, vi (x1 + 1))] [] (xhp (de_clear s (xR0 3 x1.toNatClampNeg - 1))) Φ)))) : xW (xX0 xs Ls) p145 3 [(0, vr 2 2), (1, vi x1)] [] (xhp s) Φ := by
  refine xW.br (c := 15 ≤ x1) (pc1 := 24) (L1 := [(0, vr 2 2), (1, vi x1)]) (st1 := []) (h1 := xhp s) (pc2 := 9) (L2 := [(0, vr 2 2), (1, vi x1)]) (st2 := []) (h2 := xhp s) 3 (fun _ _ _ _ => rfl) (fun hc => ?_) (fun hc => ?_)
  · replace g := g.1 hc
    refine xW.call (y := 185) (as := [vr 3 5]) (h0 := xhp s) (pc0 := 28) (len := 3) (L0 := [(0, vr 2 2), (1, vi x1)]) (rest := []) 3 (fun _ _ _ _ => rfl) (m185 _ _ ?_)
    show xW (xX0 xs Ls) p145 31 [(0, vr 2 2), (1, vi x1)] [] (xhp (ro_clear s 5)) Φ
    refine xW.side (c := (0 : Int32) = 0 ∨ (0 : Int32) = 1) (pc1 := 39) (L1 := [(0, vr 2 2), (1, vi x1)]) (st1 := []) (h1 := xhp (sI (ro_clear s 5) 7 0 0)) 4 (fun _ _ _ _ => rfl) (Or.inl rfl) ?_
    refine xW.side (c := (0 : Int32) = 0 ∨ (0 : Int32) = 1) (pc1 := 44) (L1 := [(0, vr 2 2), (1, vi x1)]) (st1 := []) (h1 := xhp (sI (sI (ro_clear s 5) 7 0 0) 2 9 0)) 3 (fun _ _ _ _ => rfl) (Or.inl rfl) ?_
    exact xW.ret (v0 := none) (h1 := xhp (sI (sI (ro_clear s 5) 7 0 0) 2 9 0)) 1 (fun _ _ _ _ => rfl) g
  · replace g := g.2 hc
    refine xW.refr (r := xR0 3 x1.toNatClampNeg) (a := (xR0 3 x1.toNatClampNeg - 1)) (kind := 5) (c := vp_in x1 15) (h0 := xhp s) (pc1 := 15) (L1 := [(0, vr 2 2), (1, vi x1)]) (st1 := []) (h1 := xhp s) 4 (fun _ _ _ _ => rfl) g.1.1 g.1.2.1 g.1.2.2 ?_
    replace g := g.2
    refine xW.call (y := 139) (as := [vr 5 (xR0 3 x1.toNatClampNeg - 1)]) (h0 := xhp s) (pc0 := 15) (len := 3) (L0 := [(0, vr 2 2), (1, vi x1)]) (rest := []) 1 (fun _ _ _ _ => rfl) (m139 _ _ ?_)
    show xW (xX0 xs Ls) p145 18 [(0, vr 2 2), (1, vi x1)] [] (xhp (de_clear s (xR0 3 x1.toNatClampNeg - 1))) Φ
    refine xW.seg (pc1 := 3) (L1 := [(1, vi (x1 + 1)), (0, vr 2 2)]) (st1 := []) (h1 := xhp (de_clear s (xR0 3 x1.toNatClampNeg - 1))) 2 (fun _ _ _ _ => rfl) ?_
    exact xW.locs (L := [(0, vr 2 2), (1, vi (x1 + 1))]) ⟨rfl, rfl, trivial⟩ rfl g
noncomputable def dk_clear_3 : Nat → xS → Int32 → xS
  | 0, s, _ => s
  | n + 1, s, x1 => (if 15 ≤ x1 then (sI (sI (ro_clear s 5) 7 0 0) 2 9 0) else (dk_clear_3 n (de_clear s (xR0 3 x1.toNatClampNeg - 1)) (x1 + 1)))
def dk_clear_3_ok : Nat → xS → Int32 → Prop
  | 0, _, _ => False
  | n + 1, s, x1 => (¬ (15 ≤ x1) → ((vp_in x1 15 ∧ xRok 3 x1.toNatClampNeg 5) ∧ (dk_clear_3_ok n (de_clear s (xR0 3 x1.toNatClampNeg - 1)) (x1 + 1))))
set_option maxRecDepth 100000 in
theorem n145_3 {xs : Nat → Int32} {Ls : Nat} {Φ : Option xV → xH → Prop} : ∀ (n : Nat) (s : xS) (x1 : Int32), dk_clear_3_ok n s x1 → Φ none (xhp (dk_clear_3 n s x1)) → xW (xX0 xs Ls) p145 3 [(0, vr 2 2), (1, vi x1)] [] (xhp s) Φ := by
  intro n
  induction n with
  | zero => intro s _ gq; exact gq.elim
  | succ n ih =>
    intro s x1 gq h
    unfold dk_clear_3_ok at gq
    unfold dk_clear_3 at h
    exact b145_3 s x1 (⟨fun hc => by rw [if_pos hc] at h; exact h, fun hc => by rw [if_neg hc] at h; replace gq := gq hc; exact ⟨gq.1, by replace gq := gq.2; exact ih _ _ gq h⟩⟩)
set_option maxRecDepth 100000 in
theorem b145_0 {xs : Nat → Int32} {Ls : Nat} {Φ : Option xV → xH → Prop} (s : xS) (g : xW (xX0 xs Ls) p145 3 [(0, vr 2 2), (1, vi 10)] [] (xhp s) Φ) : xW (xX0 xs Ls) p145 0 [(0, vr 2 2)] [] (xhp s) Φ := by
  refine xW.seg (pc1 := 3) (L1 := [(1, vi 10), (0, vr 2 2)]) (st1 := []) (h1 := xhp s) 2 (fun _ _ _ _ => rfl) ?_
  exact xW.locs (L := [(0, vr 2 2), (1, vi 10)]) ⟨rfl, rfl, trivial⟩ rfl g
noncomputable def dk_clear_d (s : xS) : xS := (dk_clear_3 xfu s 10)
noncomputable def dk_clear : xS → xS := Classical.choose (⟨dk_clear_d, rfl⟩ : ∃ f, f = dk_clear_d)
set_option maxRecDepth 100000 in
theorem dk_clear_eq : dk_clear = dk_clear_d := Classical.choose_spec (⟨dk_clear_d, rfl⟩ : ∃ f, f = dk_clear_d)
def dk_clear_ok (s : xS) : Prop := (dk_clear_3_ok xfu s 10)
set_option maxRecDepth 100000 in
theorem m145 {xs : Nat → Int32} {Ls : Nat} {Ψ : xO → xH → Prop} (s : xS) (gq : dk_clear_ok s) (h : Ψ (.inl none) (xhp (dk_clear s))) : xM (xX0 xs Ls) 145 [vr 2 2] (xhp s) Ψ := by
  rw [dk_clear_eq] at h
  unfold dk_clear_d at h
  unfold dk_clear_ok at gq
  exact xM.of (P := p145) rfl rfl rfl (b145_0 s (n145_3 _ _ _ gq h))
/-! dk_raise -/
theorem b146_0 {xs : Nat → Int32} {Ls : Nat} {Φ : Option xV → xH → Prop} (s : xS) (g : Φ none (xhp (de_set (de_set (de_set s 21 20) 20 19) 19 18))) : xW (xX0 xs Ls) p146 0 [(0, vr 2 2)] [] (xhp s) Φ := by
  refine xW.call (y := 137) (as := [vr 5 21, vr 5 20]) (h0 := xhp s) (pc0 := 8) (len := 3) (L0 := [(0, vr 2 2)]) (rest := []) 5 (fun _ _ _ _ => rfl) (m137 _ _ _ ?_)
  show xW (xX0 xs Ls) p146 11 [(0, vr 2 2)] [] (xhp (de_set s 21 20)) Φ
  refine xW.call (y := 137) (as := [vr 5 20, vr 5 19]) (h0 := xhp (de_set s 21 20)) (pc0 := 19) (len := 3) (L0 := [(0, vr 2 2)]) (rest := []) 5 (fun _ _ _ _ => rfl) (m137 _ _ _ ?_)
  show xW (xX0 xs Ls) p146 22 [(0, vr 2 2)] [] (xhp (de_set (de_set s 21 20) 20 19)) Φ
  refine xW.call (y := 137) (as := [vr 5 19, vr 5 18]) (h0 := xhp (de_set (de_set s 21 20) 20 19)) (pc0 := 30) (len := 3) (L0 := [(0, vr 2 2)]) (rest := []) 5 (fun _ _ _ _ => rfl) (m137 _ _ _ ?_)
  show xW (xX0 xs Ls) p146 33 [(0, vr 2 2)] [] (xhp (de_set (de_set (de_set s 21 20) 20 19) 19 18)) Φ
  exact xW.ret (v0 := none) (h1 := xhp (de_set (de_set (de_set s 21 20) 20 19) 19 18)) 1 (fun _ _ _ _ => rfl) g
noncomputable def dk_raise_d (s : xS) : xS := (de_set (de_set (de_set s 21 20) 20 19) 19 18)
noncomputable def dk_raise : xS → xS := Classical.choose (⟨dk_raise_d, rfl⟩ : ∃ f, f = dk_raise_d)
set_option maxRecDepth 100000 in
theorem dk_raise_eq : dk_raise = dk_raise_d := Classical.choose_spec (⟨dk_raise_d, rfl⟩ : ∃ f, f = dk_raise_d)
set_option maxRecDepth 100000 in
theorem m146 {xs : Nat → Int32} {Ls : Nat} {Ψ : xO → xH → Prop} (s : xS) (h : Ψ (.inl none) (xhp (dk_raise s))) : xM (xX0 xs Ls) 146 [vr 2 2] (xhp s) Ψ := by
  rw [dk_raise_eq] at h
  unfold dk_raise_d at h
  exact xM.of (P := p146) rfl rfl rfl (b146_0 s (h))
/-! dk_fill -/
theorem b147_0 {xs : Nat → Int32} {Ls : Nat} {Φ : Option xV → xH → Prop} (s : xS) (a : Nat) (g : Φ none (xhp (sI (sI (de_set (de_set (de_set (de_set s 18 a) 19 a) 20 a) 21 a) 2 9 1) 7 0 0))) : xW (xX0 xs Ls) p147 0 [(0, vr 2 2), (1, vr 5 a)] [] (xhp s) Φ := by
  refine xW.call (y := 137) (as := [vr 5 18, vr 5 a]) (h0 := xhp s) (pc0 := 5) (len := 3) (L0 := [(0, vr 2 2), (1, vr 5 a)]) (rest := []) 4 (fun _ _ _ _ => rfl) (m137 _ _ _ ?_)
  show xW (xX0 xs Ls) p147 8 [(0, vr 2 2), (1, vr 5 a)] [] (xhp (de_set s 18 a)) Φ
  refine xW.call (y := 137) (as := [vr 5 19, vr 5 a]) (h0 := xhp (de_set s 18 a)) (pc0 := 13) (len := 3) (L0 := [(0, vr 2 2), (1, vr 5 a)]) (rest := []) 4 (fun _ _ _ _ => rfl) (m137 _ _ _ ?_)
  show xW (xX0 xs Ls) p147 16 [(0, vr 2 2), (1, vr 5 a)] [] (xhp (de_set (de_set s 18 a) 19 a)) Φ
  refine xW.call (y := 137) (as := [vr 5 20, vr 5 a]) (h0 := xhp (de_set (de_set s 18 a) 19 a)) (pc0 := 21) (len := 3) (L0 := [(0, vr 2 2), (1, vr 5 a)]) (rest := []) 4 (fun _ _ _ _ => rfl) (m137 _ _ _ ?_)
  show xW (xX0 xs Ls) p147 24 [(0, vr 2 2), (1, vr 5 a)] [] (xhp (de_set (de_set (de_set s 18 a) 19 a) 20 a)) Φ
  refine xW.call (y := 137) (as := [vr 5 21, vr 5 a]) (h0 := xhp (de_set (de_set (de_set s 18 a) 19 a) 20 a)) (pc0 := 29) (len := 3) (L0 := [(0, vr 2 2), (1, vr 5 a)]) (rest := []) 4 (fun _ _ _ _ => rfl) (m137 _ _ _ ?_)
  show xW (xX0 xs Ls) p147 32 [(0, vr 2 2), (1, vr 5 a)] [] (xhp (de_set (de_set (de_set (de_set s 18 a) 19 a) 20 a) 21 a)) Φ
  refine xW.side (c := (1 : Int32) = 0 ∨ (1 : Int32) = 1) (pc1 := 37) (L1 := [(0, vr 2 2), (1, vr 5 a)]) (st1 := []) (h1 := xhp (sI (de_set (de_set (de_set (de_set s 18 a) 19 a) 20 a) 21 a) 2 9 1)) 3 (fun _ _ _ _ => rfl) (Or.inr rfl) ?_
  refine xW.side (c := (0 : Int32) = 0 ∨ (0 : Int32) = 1) (pc1 := 45) (L1 := [(0, vr 2 2), (1, vr 5 a)]) (st1 := []) (h1 := xhp (sI (sI (de_set (de_set (de_set (de_set s 18 a) 19 a) 20 a) 21 a) 2 9 1) 7 0 0)) 4 (fun _ _ _ _ => rfl) (Or.inl rfl) ?_
  exact xW.ret (v0 := none) (h1 := xhp (sI (sI (de_set (de_set (de_set (de_set s 18 a) 19 a) 20 a) 21 a) 2 9 1) 7 0 0)) 1 (fun _ _ _ _ => rfl) g
noncomputable def dk_fill_d (s : xS) (a : Nat) : xS := (sI (sI (de_set (de_set (de_set (de_set s 18 a) 19 a) 20 a) 21 a) 2 9 1) 7 0 0)
noncomputable def dk_fill : xS → Nat → xS := Classical.choose (⟨dk_fill_d, rfl⟩ : ∃ f, f = dk_fill_d)
set_option maxRecDepth 100000 in
theorem dk_fill_eq : dk_fill = dk_fill_d := Classical.choose_spec (⟨dk_fill_d, rfl⟩ : ∃ f, f = dk_fill_d)
set_option maxRecDepth 100000 in
theorem m147 {xs : Nat → Int32} {Ls : Nat} {Ψ : xO → xH → Prop} (s : xS) (a : Nat) (h : Ψ (.inl none) (xhp (dk_fill s a))) : xM (xX0 xs Ls) 147 [vr 2 2, vr 5 a] (xhp s) Ψ := by
  rw [dk_fill_eq] at h
  unfold dk_fill_d at h
  exact xM.of (P := p147) rfl rfl rfl (b147_0 s a (h))
