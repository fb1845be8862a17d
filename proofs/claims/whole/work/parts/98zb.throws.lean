/-! WHAT IS THROWN by the class's methods -/
def sgone (s : xS) : xS := (s.1, s.2.1, (s.2.2.1 + 1, s.2.2.2 + 6))
def xWx (X : xX) (P : xP) (pc : Nat) (L : xL) (st : List xV) (h : xH) (k : Nat) (h' : xH) : Prop := ∃ n d, xC X d (xF X xtt d) P n pc L st h (.inr k) h'
theorem xWx.br {X : xX} {P : xP} {pc pc1 pc2 : Nat} {L L1 L2 : xL} {st st1 st2 : List xV} {h h1 h2 h' : xH} {k : Nat} (kk : Nat) {c : Prop} (he : ∀ n d, xC X d (xF X xtt d) P (n + kk) pc L st h (.inr k) h' = xbr c (xC X d (xF X xtt d) P n pc1 L1 st1 h1 (.inr k) h') (xC X d (xF X xtt d) P n pc2 L2 st2 h2 (.inr k) h')) (g1 : c → xWx X P pc1 L1 st1 h1 k h') (g2 : ¬ c → xWx X P pc2 L2 st2 h2 k h') : xWx X P pc L st h k h' := by
  by_cases hc : c
  · obtain ⟨n, d, hn⟩ := g1 hc
    exact ⟨n + kk, d, by rw [he]; exact ⟨fun _ => hn, fun q => absurd hc q⟩⟩
  · obtain ⟨n, d, hn⟩ := g2 hc
    exact ⟨n + kk, d, by rw [he]; exact ⟨fun q => absurd q hc, fun _ => hn⟩⟩
theorem xWx.new {X : xX} {P : xP} {pc : Nat} {L : xL} {st : List xV} {h h' : xH} {k : Nat} (kk : Nat) (he : ∀ n d, xC X d (xF X xtt d) P (n + kk) pc L st h (.inr k) h' = (([] : List xV) = [] ∧ (.inr k : xO) = .inr k ∧ h' = h')) : xWx X P pc L st h k h' := ⟨0 + kk, 0, by rw [he]; exact ⟨rfl, rfl, rfl⟩⟩
theorem xWx.to {X : xX} {P : xP} {L : xL} {h h' : xH} {y k : Nat} {as : List xV} {Ψ : xO → xH → Prop} (hP : xtt y = P) (hL : xarg 0 as = L) (hw : Nat.ble (xwd as) P.2.2 = true) (hx : xWx X (xro9 P) 0 L [] h k h') (g : Ψ (.inr k) h') : xM X y as h Ψ := by
  obtain ⟨n, d, hn⟩ := hx
  exact xM.thr hP hL hw n d hn g
theorem x1a {xs : Nat → Int32} {Ls : Nat} {Ψ : xO → xH → Prop} (s : xS) (m : Int32) (h0 : (gI s 0 6) = 0) (h1 : ¬ (m = 0)) (h2 : ¬ (m = 1)) (h : Ψ (.inr 1) (xhp (sgone s))) : xM (xX0 xs Ls) 1 [vr 0 0, vi m] (xhp s) Ψ := by
  refine xWx.to (P := p1) rfl rfl rfl ?_ h
  refine xWx.br (c := (gI s 0 6) = 0) (pc1 := 15) (L1 := [(0, vr 0 0), (1, vi m)]) (st1 := []) (h1 := xhp s) (pc2 := 7) (L2 := [(0, vr 0 0), (1, vi m)]) (st2 := []) (h2 := xhp s) 3 (fun _ _ => rfl) (fun _ => ?_) (fun q => absurd h0 q)
  refine xWx.br (c := m = 0) (pc1 := 32) (L1 := [(0, vr 0 0), (1, vi m)]) (st1 := []) (h1 := xhp s) (pc2 := 19) (L2 := [(0, vr 0 0), (1, vi m)]) (st2 := []) (h2 := xhp s) 2 (fun _ _ => rfl) (fun q => absurd q h1) (fun _ => ?_)
  refine xWx.br (c := m = 1) (pc1 := 32) (L1 := [(0, vr 0 0), (1, vi m)]) (st1 := []) (h1 := xhp s) (pc2 := 24) (L2 := [(0, vr 0 0), (1, vi m)]) (st2 := []) (h2 := xhp s) 3 (fun _ _ => rfl) (fun q => absurd q h2) (fun _ => ?_)
  exact xWx.new 1 (fun _ _ => rfl)
theorem x1b {xs : Nat → Int32} {Ls : Nat} {Ψ : xO → xH → Prop} (s : xS) (m : Int32) (h0 : ¬ ((gI s 0 6) = 0)) (h : Ψ (.inr 0) (xhp (sgone s))) : xM (xX0 xs Ls) 1 [vr 0 0, vi m] (xhp s) Ψ := by
  refine xWx.to (P := p1) rfl rfl rfl ?_ h
  refine xWx.br (c := (gI s 0 6) = 0) (pc1 := 15) (L1 := [(0, vr 0 0), (1, vi m)]) (st1 := []) (h1 := xhp s) (pc2 := 7) (L2 := [(0, vr 0 0), (1, vi m)]) (st2 := []) (h2 := xhp s) 3 (fun _ _ => rfl) (fun q => absurd q h0) (fun _ => ?_)
  exact xWx.new 1 (fun _ _ => rfl)
theorem x2a {xs : Nat → Int32} {Ls : Nat} {Ψ : xO → xH → Prop} (s : xS) (m : Int64) (h0 : ¬ ((gI s 0 6) = 0)) (h : Ψ (.inr 0) (xhp (sgone s))) : xM (xX0 xs Ls) 2 [vr 0 0, vl m] (xhp s) Ψ := by
  refine xWx.to (P := p2) rfl rfl rfl ?_ h
  refine xWx.br (c := (gI s 0 6) = 0) (pc1 := 15) (L1 := [(0, vr 0 0), (1, vl m)]) (st1 := []) (h1 := xhp s) (pc2 := 7) (L2 := [(0, vr 0 0), (1, vl m)]) (st2 := []) (h2 := xhp s) 3 (fun _ _ => rfl) (fun q => absurd q h0) (fun _ => ?_)
  exact xWx.new 1 (fun _ _ => rfl)
theorem x3a {xs : Nat → Int32} {Ls : Nat} {Ψ : xO → xH → Prop} (s : xS) (m : Int32) (h0 : m < 0) (h : Ψ (.inr 1) (xhp (sgone s))) : xM (xX0 xs Ls) 3 [vr 0 0, vi m] (xhp s) Ψ := by
  refine xWx.to (P := p3) rfl rfl rfl ?_ h
  refine xWx.br (c := m < 0) (pc1 := 11) (L1 := [(0, vr 0 0), (1, vi m)]) (st1 := []) (h1 := xhp s) (pc2 := 4) (L2 := [(0, vr 0 0), (1, vi m)]) (st2 := []) (h2 := xhp s) 2 (fun _ _ => rfl) (fun _ => ?_) (fun q => absurd h0 q)
  exact xWx.new 1 (fun _ _ => rfl)
theorem x3b {xs : Nat → Int32} {Ls : Nat} {Ψ : xO → xH → Prop} (s : xS) (m : Int32) (h0 : ¬ (m < 0)) (h1 : ¬ (m ≤ 500)) (h : Ψ (.inr 1) (xhp (sgone s))) : xM (xX0 xs Ls) 3 [vr 0 0, vi m] (xhp s) Ψ := by
  refine xWx.to (P := p3) rfl rfl rfl ?_ h
  refine xWx.br (c := m < 0) (pc1 := 11) (L1 := [(0, vr 0 0), (1, vi m)]) (st1 := []) (h1 := xhp s) (pc2 := 4) (L2 := [(0, vr 0 0), (1, vi m)]) (st2 := []) (h2 := xhp s) 2 (fun _ _ => rfl) (fun q => absurd q h0) (fun _ => ?_)
  refine xWx.br (c := m ≤ 500) (pc1 := 19) (L1 := [(0, vr 0 0), (1, vi m)]) (st1 := []) (h1 := xhp s) (pc2 := 11) (L2 := [(0, vr 0 0), (1, vi m)]) (st2 := []) (h2 := xhp s) 3 (fun _ _ => rfl) (fun q => absurd q h1) (fun _ => ?_)
  exact xWx.new 1 (fun _ _ => rfl)
theorem x5a {xs : Nat → Int32} {Ls : Nat} {Ψ : xO → xH → Prop} (s : xS) (m : Int32) (h0 : (gI s 0 6) = 0) (h1 : ¬ (gI s 1 2) = 1) (h2 : m < 0) (h : Ψ (.inr 1) (xhp (sgone s))) : xM (xX0 xs Ls) 5 [vr 0 0, vi m] (xhp s) Ψ := by
  refine xWx.to (P := p5) rfl rfl rfl ?_ h
  refine xWx.br (c := (gI s 0 6) = 0) (pc1 := 15) (L1 := [(0, vr 0 0), (1, vi m)]) (st1 := []) (h1 := xhp s) (pc2 := 7) (L2 := [(0, vr 0 0), (1, vi m)]) (st2 := []) (h2 := xhp s) 3 (fun _ _ => rfl) (fun _ => ?_) (fun q => absurd h0 q)
  refine xWx.br (c := ¬ (gI s 1 2) = 1) (pc1 := 34) (L1 := [(0, vr 0 0), (1, vi m)]) (st1 := []) (h1 := xhp s) (pc2 := 26) (L2 := [(0, vr 0 0), (1, vi m)]) (st2 := []) (h2 := xhp s) 5 (fun _ _ => rfl) (fun _ => ?_) (fun q => absurd h1 q)
  refine xWx.br (c := m < 0) (pc1 := 44) (L1 := [(0, vr 0 0), (1, vi m)]) (st1 := []) (h1 := xhp s) (pc2 := 38) (L2 := [(0, vr 0 0), (1, vi m)]) (st2 := []) (h2 := xhp s) 2 (fun _ _ => rfl) (fun _ => ?_) (fun q => absurd h2 q)
  exact xWx.new 1 (fun _ _ => rfl)
theorem x5b {xs : Nat → Int32} {Ls : Nat} {Ψ : xO → xH → Prop} (s : xS) (m : Int32) (h0 : (gI s 0 6) = 0) (h1 : ¬ (gI s 1 2) = 1) (h2 : ¬ (m < 0)) (h3 : ¬ (m < 8)) (h : Ψ (.inr 1) (xhp (sgone s))) : xM (xX0 xs Ls) 5 [vr 0 0, vi m] (xhp s) Ψ := by
  refine xWx.to (P := p5) rfl rfl rfl ?_ h
  refine xWx.br (c := (gI s 0 6) = 0) (pc1 := 15) (L1 := [(0, vr 0 0), (1, vi m)]) (st1 := []) (h1 := xhp s) (pc2 := 7) (L2 := [(0, vr 0 0), (1, vi m)]) (st2 := []) (h2 := xhp s) 3 (fun _ _ => rfl) (fun _ => ?_) (fun q => absurd h0 q)
  refine xWx.br (c := ¬ (gI s 1 2) = 1) (pc1 := 34) (L1 := [(0, vr 0 0), (1, vi m)]) (st1 := []) (h1 := xhp s) (pc2 := 26) (L2 := [(0, vr 0 0), (1, vi m)]) (st2 := []) (h2 := xhp s) 5 (fun _ _ => rfl) (fun _ => ?_) (fun q => absurd h1 q)
  refine xWx.br (c := m < 0) (pc1 := 44) (L1 := [(0, vr 0 0), (1, vi m)]) (st1 := []) (h1 := xhp s) (pc2 := 38) (L2 := [(0, vr 0 0), (1, vi m)]) (st2 := []) (h2 := xhp s) 2 (fun _ _ => rfl) (fun q => absurd q h2) (fun _ => ?_)
  refine xWx.br (c := m < 8) (pc1 := 52) (L1 := [(0, vr 0 0), (1, vi m)]) (st1 := []) (h1 := xhp s) (pc2 := 44) (L2 := [(0, vr 0 0), (1, vi m)]) (st2 := []) (h2 := xhp s) 3 (fun _ _ => rfl) (fun q => absurd q h3) (fun _ => ?_)
  exact xWx.new 1 (fun _ _ => rfl)
theorem x5c {xs : Nat → Int32} {Ls : Nat} {Ψ : xO → xH → Prop} (s : xS) (m : Int32) (h0 : (gI s 0 6) = 0) (h1 : ¬ (¬ (gI s 1 2) = 1)) (h : Ψ (.inr 2) (xhp (sgone s))) : xM (xX0 xs Ls) 5 [vr 0 0, vi m] (xhp s) Ψ := by
  refine xWx.to (P := p5) rfl rfl rfl ?_ h
  refine xWx.br (c := (gI s 0 6) = 0) (pc1 := 15) (L1 := [(0, vr 0 0), (1, vi m)]) (st1 := []) (h1 := xhp s) (pc2 := 7) (L2 := [(0, vr 0 0), (1, vi m)]) (st2 := []) (h2 := xhp s) 3 (fun _ _ => rfl) (fun _ => ?_) (fun q => absurd h0 q)
  refine xWx.br (c := ¬ (gI s 1 2) = 1) (pc1 := 34) (L1 := [(0, vr 0 0), (1, vi m)]) (st1 := []) (h1 := xhp s) (pc2 := 26) (L2 := [(0, vr 0 0), (1, vi m)]) (st2 := []) (h2 := xhp s) 5 (fun _ _ => rfl) (fun q => absurd q h1) (fun _ => ?_)
  exact xWx.new 1 (fun _ _ => rfl)
theorem x5d {xs : Nat → Int32} {Ls : Nat} {Ψ : xO → xH → Prop} (s : xS) (m : Int32) (h0 : ¬ ((gI s 0 6) = 0)) (h : Ψ (.inr 0) (xhp (sgone s))) : xM (xX0 xs Ls) 5 [vr 0 0, vi m] (xhp s) Ψ := by
  refine xWx.to (P := p5) rfl rfl rfl ?_ h
  refine xWx.br (c := (gI s 0 6) = 0) (pc1 := 15) (L1 := [(0, vr 0 0), (1, vi m)]) (st1 := []) (h1 := xhp s) (pc2 := 7) (L2 := [(0, vr 0 0), (1, vi m)]) (st2 := []) (h2 := xhp s) 3 (fun _ _ => rfl) (fun q => absurd q h0) (fun _ => ?_)
  exact xWx.new 1 (fun _ _ => rfl)
theorem x6a {xs : Nat → Int32} {Ls : Nat} {Ψ : xO → xH → Prop} (s : xS) (m : Int32) (h0 : m < 0) (h : Ψ (.inr 1) (xhp (sgone s))) : xM (xX0 xs Ls) 6 [vr 0 0, vi m] (xhp s) Ψ := by
  refine xWx.to (P := p6) rfl rfl rfl ?_ h
  refine xWx.br (c := m < 0) (pc1 := 9) (L1 := [(0, vr 0 0), (1, vi m)]) (st1 := []) (h1 := xhp s) (pc2 := 4) (L2 := [(0, vr 0 0), (1, vi m)]) (st2 := []) (h2 := xhp s) 2 (fun _ _ => rfl) (fun _ => ?_) (fun q => absurd h0 q)
  exact xWx.new 1 (fun _ _ => rfl)
theorem x6b {xs : Nat → Int32} {Ls : Nat} {Ψ : xO → xH → Prop} (s : xS) (m : Int32) (h0 : ¬ (m < 0)) (h1 : ¬ (m ≤ 2)) (h : Ψ (.inr 1) (xhp (sgone s))) : xM (xX0 xs Ls) 6 [vr 0 0, vi m] (xhp s) Ψ := by
  refine xWx.to (P := p6) rfl rfl rfl ?_ h
  refine xWx.br (c := m < 0) (pc1 := 9) (L1 := [(0, vr 0 0), (1, vi m)]) (st1 := []) (h1 := xhp s) (pc2 := 4) (L2 := [(0, vr 0 0), (1, vi m)]) (st2 := []) (h2 := xhp s) 2 (fun _ _ => rfl) (fun q => absurd q h0) (fun _ => ?_)
  refine xWx.br (c := m ≤ 2) (pc1 := 17) (L1 := [(0, vr 0 0), (1, vi m)]) (st1 := []) (h1 := xhp s) (pc2 := 9) (L2 := [(0, vr 0 0), (1, vi m)]) (st2 := []) (h2 := xhp s) 3 (fun _ _ => rfl) (fun q => absurd q h1) (fun _ => ?_)
  exact xWx.new 1 (fun _ _ => rfl)
theorem x7a {xs : Nat → Int32} {Ls : Nat} {Ψ : xO → xH → Prop} (s : xS) (m : Int32) (h0 : m < 0) (h : Ψ (.inr 3) (xhp (sgone s))) : xM (xX0 xs Ls) 7 [vr 0 0, vi m] (xhp s) Ψ := by
  refine xWx.to (P := p7) rfl rfl rfl ?_ h
  refine xWx.br (c := m < 0) (pc1 := 10) (L1 := [(0, vr 0 0), (1, vi m)]) (st1 := []) (h1 := xhp s) (pc2 := 4) (L2 := [(0, vr 0 0), (1, vi m)]) (st2 := []) (h2 := xhp s) 2 (fun _ _ => rfl) (fun _ => ?_) (fun q => absurd h0 q)
  exact xWx.new 1 (fun _ _ => rfl)
theorem x7b {xs : Nat → Int32} {Ls : Nat} {Ψ : xO → xH → Prop} (s : xS) (m : Int32) (h0 : ¬ (m < 0)) (h1 : ¬ (m < 15)) (h : Ψ (.inr 3) (xhp (sgone s))) : xM (xX0 xs Ls) 7 [vr 0 0, vi m] (xhp s) Ψ := by
  refine xWx.to (P := p7) rfl rfl rfl ?_ h
  refine xWx.br (c := m < 0) (pc1 := 10) (L1 := [(0, vr 0 0), (1, vi m)]) (st1 := []) (h1 := xhp s) (pc2 := 4) (L2 := [(0, vr 0 0), (1, vi m)]) (st2 := []) (h2 := xhp s) 2 (fun _ _ => rfl) (fun q => absurd q h0) (fun _ => ?_)
  refine xWx.br (c := m < 15) (pc1 := 18) (L1 := [(0, vr 0 0), (1, vi m)]) (st1 := []) (h1 := xhp s) (pc2 := 10) (L2 := [(0, vr 0 0), (1, vi m)]) (st2 := []) (h2 := xhp s) 3 (fun _ _ => rfl) (fun q => absurd q h1) (fun _ => ?_)
  exact xWx.new 1 (fun _ _ => rfl)
theorem x8a {xs : Nat → Int32} {Ls : Nat} {Ψ : xO → xH → Prop} (s : xS) (m : Int32) (h0 : m < 0) (h : Ψ (.inr 3) (xhp (sgone s))) : xM (xX0 xs Ls) 8 [vr 0 0, vi m] (xhp s) Ψ := by
  refine xWx.to (P := p8) rfl rfl rfl ?_ h
  refine xWx.br (c := m < 0) (pc1 := 10) (L1 := [(0, vr 0 0), (1, vi m)]) (st1 := []) (h1 := xhp s) (pc2 := 4) (L2 := [(0, vr 0 0), (1, vi m)]) (st2 := []) (h2 := xhp s) 2 (fun _ _ => rfl) (fun _ => ?_) (fun q => absurd h0 q)
  exact xWx.new 1 (fun _ _ => rfl)
theorem x8b {xs : Nat → Int32} {Ls : Nat} {Ψ : xO → xH → Prop} (s : xS) (m : Int32) (h0 : ¬ (m < 0)) (h1 : ¬ (m < 15)) (h : Ψ (.inr 3) (xhp (sgone s))) : xM (xX0 xs Ls) 8 [vr 0 0, vi m] (xhp s) Ψ := by
  refine xWx.to (P := p8) rfl rfl rfl ?_ h
  refine xWx.br (c := m < 0) (pc1 := 10) (L1 := [(0, vr 0 0), (1, vi m)]) (st1 := []) (h1 := xhp s) (pc2 := 4) (L2 := [(0, vr 0 0), (1, vi m)]) (st2 := []) (h2 := xhp s) 2 (fun _ _ => rfl) (fun q => absurd q h0) (fun _ => ?_)
  refine xWx.br (c := m < 15) (pc1 := 18) (L1 := [(0, vr 0 0), (1, vi m)]) (st1 := []) (h1 := xhp s) (pc2 := 10) (L2 := [(0, vr 0 0), (1, vi m)]) (st2 := []) (h2 := xhp s) 3 (fun _ _ => rfl) (fun q => absurd q h1) (fun _ => ?_)
  exact xWx.new 1 (fun _ _ => rfl)
theorem x9a {xs : Nat → Int32} {Ls : Nat} {Ψ : xO → xH → Prop} (s : xS) (m : Int32) (b : Int32) (h0 : m < 0) (h : Ψ (.inr 1) (xhp (sgone s))) : xM (xX0 xs Ls) 9 [vr 0 0, vi m, vi b] (xhp s) Ψ := by
  refine xWx.to (P := p9) rfl rfl rfl ?_ h
  refine xWx.br (c := m < 0) (pc1 := 19) (L1 := [(0, vr 0 0), (1, vi m), (2, vi b)]) (st1 := []) (h1 := xhp s) (pc2 := 4) (L2 := [(0, vr 0 0), (1, vi m), (2, vi b)]) (st2 := []) (h2 := xhp s) 2 (fun _ _ => rfl) (fun _ => ?_) (fun q => absurd h0 q)
  exact xWx.new 1 (fun _ _ => rfl)
theorem x9b {xs : Nat → Int32} {Ls : Nat} {Ψ : xO → xH → Prop} (s : xS) (m : Int32) (b : Int32) (h0 : ¬ (m < 0)) (h1 : 1 < m) (h : Ψ (.inr 1) (xhp (sgone s))) : xM (xX0 xs Ls) 9 [vr 0 0, vi m, vi b] (xhp s) Ψ := by
  refine xWx.to (P := p9) rfl rfl rfl ?_ h
  refine xWx.br (c := m < 0) (pc1 := 19) (L1 := [(0, vr 0 0), (1, vi m), (2, vi b)]) (st1 := []) (h1 := xhp s) (pc2 := 4) (L2 := [(0, vr 0 0), (1, vi m), (2, vi b)]) (st2 := []) (h2 := xhp s) 2 (fun _ _ => rfl) (fun q => absurd q h0) (fun _ => ?_)
  refine xWx.br (c := 1 < m) (pc1 := 19) (L1 := [(0, vr 0 0), (1, vi m), (2, vi b)]) (st1 := []) (h1 := xhp s) (pc2 := 9) (L2 := [(0, vr 0 0), (1, vi m), (2, vi b)]) (st2 := []) (h2 := xhp s) 3 (fun _ _ => rfl) (fun _ => ?_) (fun q => absurd h1 q)
  exact xWx.new 1 (fun _ _ => rfl)
theorem x9c {xs : Nat → Int32} {Ls : Nat} {Ψ : xO → xH → Prop} (s : xS) (m : Int32) (b : Int32) (h0 : ¬ (m < 0)) (h1 : ¬ (1 < m)) (h2 : b < 0) (h : Ψ (.inr 1) (xhp (sgone s))) : xM (xX0 xs Ls) 9 [vr 0 0, vi m, vi b] (xhp s) Ψ := by
  refine xWx.to (P := p9) rfl rfl rfl ?_ h
  refine xWx.br (c := m < 0) (pc1 := 19) (L1 := [(0, vr 0 0), (1, vi m), (2, vi b)]) (st1 := []) (h1 := xhp s) (pc2 := 4) (L2 := [(0, vr 0 0), (1, vi m), (2, vi b)]) (st2 := []) (h2 := xhp s) 2 (fun _ _ => rfl) (fun q => absurd q h0) (fun _ => ?_)
  refine xWx.br (c := 1 < m) (pc1 := 19) (L1 := [(0, vr 0 0), (1, vi m), (2, vi b)]) (st1 := []) (h1 := xhp s) (pc2 := 9) (L2 := [(0, vr 0 0), (1, vi m), (2, vi b)]) (st2 := []) (h2 := xhp s) 3 (fun _ _ => rfl) (fun q => absurd q h1) (fun _ => ?_)
  refine xWx.br (c := b < 0) (pc1 := 19) (L1 := [(0, vr 0 0), (1, vi m), (2, vi b)]) (st1 := []) (h1 := xhp s) (pc2 := 13) (L2 := [(0, vr 0 0), (1, vi m), (2, vi b)]) (st2 := []) (h2 := xhp s) 2 (fun _ _ => rfl) (fun _ => ?_) (fun q => absurd h2 q)
  exact xWx.new 1 (fun _ _ => rfl)
theorem x9d {xs : Nat → Int32} {Ls : Nat} {Ψ : xO → xH → Prop} (s : xS) (m : Int32) (b : Int32) (h0 : ¬ (m < 0)) (h1 : ¬ (1 < m)) (h2 : ¬ (b < 0)) (h3 : ¬ (b ≤ 9)) (h : Ψ (.inr 1) (xhp (sgone s))) : xM (xX0 xs Ls) 9 [vr 0 0, vi m, vi b] (xhp s) Ψ := by
  refine xWx.to (P := p9) rfl rfl rfl ?_ h
  refine xWx.br (c := m < 0) (pc1 := 19) (L1 := [(0, vr 0 0), (1, vi m), (2, vi b)]) (st1 := []) (h1 := xhp s) (pc2 := 4) (L2 := [(0, vr 0 0), (1, vi m), (2, vi b)]) (st2 := []) (h2 := xhp s) 2 (fun _ _ => rfl) (fun q => absurd q h0) (fun _ => ?_)
  refine xWx.br (c := 1 < m) (pc1 := 19) (L1 := [(0, vr 0 0), (1, vi m), (2, vi b)]) (st1 := []) (h1 := xhp s) (pc2 := 9) (L2 := [(0, vr 0 0), (1, vi m), (2, vi b)]) (st2 := []) (h2 := xhp s) 3 (fun _ _ => rfl) (fun q => absurd q h1) (fun _ => ?_)
  refine xWx.br (c := b < 0) (pc1 := 19) (L1 := [(0, vr 0 0), (1, vi m), (2, vi b)]) (st1 := []) (h1 := xhp s) (pc2 := 13) (L2 := [(0, vr 0 0), (1, vi m), (2, vi b)]) (st2 := []) (h2 := xhp s) 2 (fun _ _ => rfl) (fun q => absurd q h2) (fun _ => ?_)
  refine xWx.br (c := b ≤ 9) (pc1 := 27) (L1 := [(0, vr 0 0), (1, vi m), (2, vi b)]) (st1 := []) (h1 := xhp s) (pc2 := 19) (L2 := [(0, vr 0 0), (1, vi m), (2, vi b)]) (st2 := []) (h2 := xhp s) 3 (fun _ _ => rfl) (fun q => absurd q h3) (fun _ => ?_)
  exact xWx.new 1 (fun _ _ => rfl)
theorem x10a {xs : Nat → Int32} {Ls : Nat} {Ψ : xO → xH → Prop} (s : xS) (m : Int32) (b : Int64) (h0 : (gI s 0 6) = 0) (h1 : m < 0) (h : Ψ (.inr 3) (xhp (sgone s))) : xM (xX0 xs Ls) 10 [vr 0 0, vi m, vl b] (xhp s) Ψ := by
  refine xWx.to (P := p10) rfl rfl rfl ?_ h
  refine xWx.br (c := (gI s 0 6) = 0) (pc1 := 15) (L1 := [(0, vr 0 0), (1, vi m), (2, vl b)]) (st1 := []) (h1 := xhp s) (pc2 := 7) (L2 := [(0, vr 0 0), (1, vi m), (2, vl b)]) (st2 := []) (h2 := xhp s) 3 (fun _ _ => rfl) (fun _ => ?_) (fun q => absurd h0 q)
  refine xWx.br (c := m < 0) (pc1 := 25) (L1 := [(0, vr 0 0), (1, vi m), (2, vl b)]) (st1 := []) (h1 := xhp s) (pc2 := 19) (L2 := [(0, vr 0 0), (1, vi m), (2, vl b)]) (st2 := []) (h2 := xhp s) 2 (fun _ _ => rfl) (fun _ => ?_) (fun q => absurd h1 q)
  exact xWx.new 1 (fun _ _ => rfl)
theorem x10b {xs : Nat → Int32} {Ls : Nat} {Ψ : xO → xH → Prop} (s : xS) (m : Int32) (b : Int64) (h0 : (gI s 0 6) = 0) (h1 : ¬ (m < 0)) (h2 : ¬ (m ≤ 92)) (h : Ψ (.inr 3) (xhp (sgone s))) : xM (xX0 xs Ls) 10 [vr 0 0, vi m, vl b] (xhp s) Ψ := by
  refine xWx.to (P := p10) rfl rfl rfl ?_ h
  refine xWx.br (c := (gI s 0 6) = 0) (pc1 := 15) (L1 := [(0, vr 0 0), (1, vi m), (2, vl b)]) (st1 := []) (h1 := xhp s) (pc2 := 7) (L2 := [(0, vr 0 0), (1, vi m), (2, vl b)]) (st2 := []) (h2 := xhp s) 3 (fun _ _ => rfl) (fun _ => ?_) (fun q => absurd h0 q)
  refine xWx.br (c := m < 0) (pc1 := 25) (L1 := [(0, vr 0 0), (1, vi m), (2, vl b)]) (st1 := []) (h1 := xhp s) (pc2 := 19) (L2 := [(0, vr 0 0), (1, vi m), (2, vl b)]) (st2 := []) (h2 := xhp s) 2 (fun _ _ => rfl) (fun q => absurd q h1) (fun _ => ?_)
  refine xWx.br (c := m ≤ 92) (pc1 := 33) (L1 := [(0, vr 0 0), (1, vi m), (2, vl b)]) (st1 := []) (h1 := xhp s) (pc2 := 25) (L2 := [(0, vr 0 0), (1, vi m), (2, vl b)]) (st2 := []) (h2 := xhp s) 3 (fun _ _ => rfl) (fun q => absurd q h2) (fun _ => ?_)
  exact xWx.new 1 (fun _ _ => rfl)
theorem x10c {xs : Nat → Int32} {Ls : Nat} {Ψ : xO → xH → Prop} (s : xS) (m : Int32) (b : Int64) (h0 : ¬ ((gI s 0 6) = 0)) (h : Ψ (.inr 0) (xhp (sgone s))) : xM (xX0 xs Ls) 10 [vr 0 0, vi m, vl b] (xhp s) Ψ := by
  refine xWx.to (P := p10) rfl rfl rfl ?_ h
  refine xWx.br (c := (gI s 0 6) = 0) (pc1 := 15) (L1 := [(0, vr 0 0), (1, vi m), (2, vl b)]) (st1 := []) (h1 := xhp s) (pc2 := 7) (L2 := [(0, vr 0 0), (1, vi m), (2, vl b)]) (st2 := []) (h2 := xhp s) 3 (fun _ _ => rfl) (fun q => absurd q h0) (fun _ => ?_)
  exact xWx.new 1 (fun _ _ => rfl)
theorem x11a {xs : Nat → Int32} {Ls : Nat} {Ψ : xO → xH → Prop} (s : xS) (m : Int32) (h0 : m < 0) (h : Ψ (.inr 3) (xhp (sgone s))) : xM (xX0 xs Ls) 11 [vr 0 0, vi m] (xhp s) Ψ := by
  refine xWx.to (P := p11) rfl rfl rfl ?_ h
  refine xWx.br (c := m < 0) (pc1 := 10) (L1 := [(0, vr 0 0), (1, vi m)]) (st1 := []) (h1 := xhp s) (pc2 := 4) (L2 := [(0, vr 0 0), (1, vi m)]) (st2 := []) (h2 := xhp s) 2 (fun _ _ => rfl) (fun _ => ?_) (fun q => absurd h0 q)
  exact xWx.new 1 (fun _ _ => rfl)
theorem x11b {xs : Nat → Int32} {Ls : Nat} {Ψ : xO → xH → Prop} (s : xS) (m : Int32) (h0 : ¬ (m < 0)) (h1 : ¬ (m < 100)) (h : Ψ (.inr 3) (xhp (sgone s))) : xM (xX0 xs Ls) 11 [vr 0 0, vi m] (xhp s) Ψ := by
  refine xWx.to (P := p11) rfl rfl rfl ?_ h
  refine xWx.br (c := m < 0) (pc1 := 10) (L1 := [(0, vr 0 0), (1, vi m)]) (st1 := []) (h1 := xhp s) (pc2 := 4) (L2 := [(0, vr 0 0), (1, vi m)]) (st2 := []) (h2 := xhp s) 2 (fun _ _ => rfl) (fun q => absurd q h0) (fun _ => ?_)
  refine xWx.br (c := m < 100) (pc1 := 18) (L1 := [(0, vr 0 0), (1, vi m)]) (st1 := []) (h1 := xhp s) (pc2 := 10) (L2 := [(0, vr 0 0), (1, vi m)]) (st2 := []) (h2 := xhp s) 3 (fun _ _ => rfl) (fun q => absurd q h1) (fun _ => ?_)
  exact xWx.new 1 (fun _ _ => rfl)
theorem x15a {xs : Nat → Int32} {Ls : Nat} {Ψ : xO → xH → Prop} (s : xS) (m : Int32) (h0 : m < 0) (h : Ψ (.inr 3) (xhp (sgone s))) : xM (xX0 xs Ls) 15 [vr 0 0, vi m] (xhp s) Ψ := by
  refine xWx.to (P := p15) rfl rfl rfl ?_ h
  refine xWx.br (c := m < 0) (pc1 := 15) (L1 := [(0, vr 0 0), (1, vi m)]) (st1 := []) (h1 := xhp s) (pc2 := 4) (L2 := [(0, vr 0 0), (1, vi m)]) (st2 := []) (h2 := xhp s) 2 (fun _ _ => rfl) (fun _ => ?_) (fun q => absurd h0 q)
  exact xWx.new 1 (fun _ _ => rfl)
theorem x15b {xs : Nat → Int32} {Ls : Nat} {Ψ : xO → xH → Prop} (s : xS) (m : Int32) (h0 : ¬ (m < 0)) (h1 : ¬ (m < (gI s 225 1))) (h : Ψ (.inr 3) (xhp (sgone s))) : xM (xX0 xs Ls) 15 [vr 0 0, vi m] (xhp s) Ψ := by
  refine xWx.to (P := p15) rfl rfl rfl ?_ h
  refine xWx.br (c := m < 0) (pc1 := 15) (L1 := [(0, vr 0 0), (1, vi m)]) (st1 := []) (h1 := xhp s) (pc2 := 4) (L2 := [(0, vr 0 0), (1, vi m)]) (st2 := []) (h2 := xhp s) 2 (fun _ _ => rfl) (fun q => absurd q h0) (fun _ => ?_)
  refine xWx.br (c := m < (gI s 225 1)) (pc1 := 23) (L1 := [(0, vr 0 0), (1, vi m)]) (st1 := []) (h1 := xhp s) (pc2 := 15) (L2 := [(0, vr 0 0), (1, vi m)]) (st2 := []) (h2 := xhp s) 5 (fun _ _ => rfl) (fun q => absurd q h1) (fun _ => ?_)
  exact xWx.new 1 (fun _ _ => rfl)
theorem x16a {xs : Nat → Int32} {Ls : Nat} {Ψ : xO → xH → Prop} (s : xS) (h0 : ¬ ((gI s 0 6) = 0)) (h : Ψ (.inr 0) (xhp (sgone s))) : xM (xX0 xs Ls) 16 [vr 0 0] (xhp s) Ψ := by
  refine xWx.to (P := p16) rfl rfl rfl ?_ h
  refine xWx.br (c := (gI s 0 6) = 0) (pc1 := 15) (L1 := [(0, vr 0 0)]) (st1 := []) (h1 := xhp s) (pc2 := 7) (L2 := [(0, vr 0 0)]) (st2 := []) (h2 := xhp s) 3 (fun _ _ => rfl) (fun q => absurd q h0) (fun _ => ?_)
  exact xWx.new 1 (fun _ _ => rfl)
