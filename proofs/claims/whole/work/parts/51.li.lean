/-! li_begin -/
theorem b166_0 {xs : Nat → Int32} {Ls : Nat} {Φ : Option xV → xH → Prop} (s : xS) (g : Φ none (xhp (sI s 223 3 0))) : xW (xX0 xs Ls) p166 0 [(0, vr 10 223)] [] (xhp s) Φ := by
  exact xW.ret (v0 := none) (h1 := xhp (sI s 223 3 0)) 4 (fun _ _ _ _ => rfl) g
noncomputable def li_begin_d (s : xS) : xS := (sI s 223 3 0)
noncomputable def li_begin : xS → xS := Classical.choose (⟨li_begin_d, rfl⟩ : ∃ f, f = li_begin_d)
set_option maxRecDepth 100000 in
theorem li_begin_eq : li_begin = li_begin_d := Classical.choose_spec (⟨li_begin_d, rfl⟩ : ∃ f, f = li_begin_d)
set_option maxRecDepth 100000 in
theorem m166 {xs : Nat → Int32} {Ls : Nat} {Ψ : xO → xH → Prop} (s : xS) (h : Ψ (.inl none) (xhp (li_begin s))) : xM (xX0 xs Ls) 166 [vr 10 223] (xhp s) Ψ := by
  rw [li_begin_eq] at h
  unfold li_begin_d at h
  exact xM.of (P := p166) rfl rfl rfl (b166_0 s (h))
/-! li_write -/
theorem b175_0 {xs : Nat → Int32} {Ls : Nat} {Φ : Option xV → xH → Prop} (s : xS) (c : Int32) (g : ((20 ≤ (gI s 223 3) → Φ none (xhp s)) ∧ (¬ (20 ≤ (gI s 223 3)) → ((vp_in (gI s 223 3) 20) ∧ Φ none (xhp (sI (sI s 224 ((gI s 223 3).toNatClampNeg) c) 223 3 ((gI s 223 3) + 1))))))) : xW (xX0 xs Ls) p175 0 [(0, vr 10 223), (1, vi c)] [] (xhp s) Φ := by
  refine xW.br (c := 20 ≤ (gI s 223 3)) (pc1 := 29) (L1 := [(0, vr 10 223), (1, vi c)]) (st1 := []) (h1 := xhp s) (pc2 := 9) (L2 := [(0, vr 10 223), (1, vi c)]) (st2 := []) (h2 := xhp s) 4 (fun _ _ _ _ => rfl) (fun hc => ?_) (fun hc => ?_)
  · replace g := g.1 hc
    exact xW.ret (v0 := none) (h1 := xhp s) 1 (fun _ _ _ _ => rfl) g
  · replace g := g.2 hc
    refine xW.side (c := vp_in (gI s 223 3) 20) (pc1 := 19) (L1 := [(0, vr 10 223), (1, vi c)]) (st1 := []) (h1 := xhp (sI s 224 ((gI s 223 3).toNatClampNeg) c)) 6 (fun _ _ _ _ => rfl) g.1 ?_
    replace g := g.2
    exact xW.ret (v0 := none) (h1 := xhp (sI (sI s 224 ((gI s 223 3).toNatClampNeg) c) 223 3 ((gI s 223 3) + 1))) 7 (fun _ _ _ _ => rfl) g
noncomputable def li_write_d (s : xS) (c : Int32) : xS := (if 20 ≤ (gI s 223 3) then s else (sI (sI s 224 ((gI s 223 3).toNatClampNeg) c) 223 3 ((gI s 223 3) + 1)))
noncomputable def li_write : xS → Int32 → xS := Classical.choose (⟨li_write_d, rfl⟩ : ∃ f, f = li_write_d)
set_option maxRecDepth 100000 in
theorem li_write_eq : li_write = li_write_d := Classical.choose_spec (⟨li_write_d, rfl⟩ : ∃ f, f = li_write_d)
def li_write_ok (s : xS) (c : Int32) : Prop := (¬ (20 ≤ (gI s 223 3)) → (vp_in (gI s 223 3) 20))
set_option maxRecDepth 100000 in
theorem m175 {xs : Nat → Int32} {Ls : Nat} {Ψ : xO → xH → Prop} (s : xS) (c : Int32) (gq : li_write_ok s c) (h : Ψ (.inl none) (xhp (li_write s c))) : xM (xX0 xs Ls) 175 [vr 10 223, vi c] (xhp s) Ψ := by
  rw [li_write_eq] at h
  unfold li_write_d at h
  unfold li_write_ok at gq
  exact xM.of (P := p175) rfl rfl rfl (b175_0 s c (⟨fun hc => by rw [if_pos hc] at h; exact h, fun hc => by rw [if_neg hc] at h; replace gq := gq hc; exact ⟨gq, h⟩⟩))
/-! li_writeDigits -/
theorem b174_5 {xs : Nat → Int32} {Ls : Nat} {Φ : Option xV → xH → Prop} (s : xS) (x1 : Int64) (x4 : Int32) (g : ((x4 < 0 → Φ none (xhp s)) ∧ (¬ (x4 < 0) → ((vp_in x4 19) ∧ ((¬ (iten x4) = 0) ∧ ((li_write_ok s ((48 + ((x1 / (iten x4)) - (x1 / (iten x4)) / 10 * 10)).toInt32)) ∧ xW (xX0 xs Ls) p174 5 [(0, vr 10 223), (1, vl x1), (4, vi (x4 + (-1)))] [] (xhp (li_write s ((48 + ((x1 / (iten x4)) - (x1 / (iten x4)) / 10 * 10)).toInt32))) Φ)))))) : xW (xX0 xs Ls) p174 5 [(0, vr 10 223), (1, vl x1), (4, vi x4)] [] (xhp s) Φ := by
  refine xW.br (c := x4 < 0) (pc1 := 37) (L1 := [(0, vr 10 223), (1, vl x1), (4, vi x4)]) (st1 := []) (h1 := xhp s) (pc2 := 10) (L2 := [(0, vr 10 223), (1, vl x1), (4, vi x4)]) (st2 := []) (h2 := xhp s) 2 (fun _ _ _ _ => rfl) (fun hc => ?_) (fun hc => ?_)
  · replace g := g.1 hc
    exact xW.ret (v0 := none) (h1 := xhp s) 1 (fun _ _ _ _ => rfl) g
  · replace g := g.2 hc
    refine xW.side (c := vp_in x4 19) (pc1 := 21) (L1 := [(0, vr 10 223), (1, vl x1), (4, vi x4)]) (st1 := [vl (iten x4), vl x1, vl 48, vr 10 223]) (h1 := xhp s) 6 (fun _ _ _ _ => rfl) g.1 ?_
    replace g := g.2
    refine xW.side (c := ¬ (iten x4) = 0) (pc1 := 22) (L1 := [(0, vr 10 223), (1, vl x1), (4, vi x4)]) (st1 := [vl (x1 / (iten x4)), vl 48, vr 10 223]) (h1 := xhp s) 1 (fun _ _ _ _ => rfl) g.1 ?_
    replace g := g.2
    refine xW.side (c := ¬ (10 : Int64) = 0) (pc1 := 26) (L1 := [(0, vr 10 223), (1, vl x1), (4, vi x4)]) (st1 := [vl ((x1 / (iten x4)) - (x1 / (iten x4)) / 10 * 10), vl 48, vr 10 223]) (h1 := xhp s) 2 (fun _ _ _ _ => rfl) (by decide) ?_
    refine xW.call (y := 175) (as := [vr 10 223, vi ((48 + ((x1 / (iten x4)) - (x1 / (iten x4)) / 10 * 10)).toInt32)]) (h0 := xhp s) (pc0 := 28) (len := 3) (L0 := [(0, vr 10 223), (1, vl x1), (4, vi x4)]) (rest := []) 3 (fun _ _ _ _ => rfl) (m175 _ _ g.1 ?_)
    show xW (xX0 xs Ls) p174 31 [(0, vr 10 223), (1, vl x1), (4, vi x4)] [] (xhp (li_write s ((48 + ((x1 / (iten x4)) - (x1 / (iten x4)) / 10 * 10)).toInt32))) Φ
    replace g := g.2
    refine xW.seg (pc1 := 5) (L1 := [(4, vi (x4 + (-1))), (0, vr 10 223), (1, vl x1)]) (st1 := []) (h1 := xhp (li_write s ((48 + ((x1 / (iten x4)) - (x1 / (iten x4)) / 10 * 10)).toInt32))) 2 (fun _ _ _ _ => rfl) ?_
    exact xW.locs (L := [(0, vr 10 223), (1, vl x1), (4, vi (x4 + (-1)))]) ⟨rfl, rfl, rfl, trivial⟩ rfl g
noncomputable def li_writeDigits_5 : Nat → xS → Int64 → Int32 → xS
  | 0, s, _, _ => s
  | n + 1, s, x1, x4 => (if x4 < 0 then s else (li_writeDigits_5 n (li_write s ((48 + ((x1 / (iten x4)) - (x1 / (iten x4)) / 10 * 10)).toInt32)) x1 (x4 + (-1))))
def li_writeDigits_5_ok : Nat → xS → Int64 → Int32 → Prop
  | 0, _, _, _ => False
  | n + 1, s, x1, x4 => (¬ (x4 < 0) → ((vp_in x4 19) ∧ ((¬ (iten x4) = 0) ∧ ((li_write_ok s ((48 + ((x1 / (iten x4)) - (x1 / (iten x4)) / 10 * 10)).toInt32)) ∧ (li_writeDigits_5_ok n (li_write s ((48 + ((x1 / (iten x4)) - (x1 / (iten x4)) / 10 * 10)).toInt32)) x1 (x4 + (-1)))))))
set_option maxRecDepth 100000 in
theorem n174_5 {xs : Nat → Int32} {Ls : Nat} {Φ : Option xV → xH → Prop} : ∀ (n : Nat) (s : xS) (x1 : Int64) (x4 : Int32), li_writeDigits_5_ok n s x1 x4 → Φ none (xhp (li_writeDigits_5 n s x1 x4)) → xW (xX0 xs Ls) p174 5 [(0, vr 10 223), (1, vl x1), (4, vi x4)] [] (xhp s) Φ := by
  intro n
  induction n with
  | zero => intro s _ _ gq; exact gq.elim
  | succ n ih =>
    intro s x1 x4 gq h
    unfold li_writeDigits_5_ok at gq
    unfold li_writeDigits_5 at h
    exact b174_5 s x1 x4 (⟨fun hc => by rw [if_pos hc] at h; exact h, fun hc => by rw [if_neg hc] at h; replace gq := gq hc; exact ⟨gq.1, by replace gq := gq.2; exact ⟨gq.1, by replace gq := gq.2; exact ⟨gq.1, by replace gq := gq.2; exact ih _ _ _ gq h⟩⟩⟩⟩)
set_option maxRecDepth 100000 in
theorem b174_0 {xs : Nat → Int32} {Ls : Nat} {Φ : Option xV → xH → Prop} (s : xS) (w : Int64) (c : Int32) (g : xW (xX0 xs Ls) p174 5 [(0, vr 10 223), (1, vl w), (4, vi (c - 1))] [] (xhp s) Φ) : xW (xX0 xs Ls) p174 0 [(0, vr 10 223), (1, vl w), (3, vi c)] [] (xhp s) Φ := by
  refine xW.seg (pc1 := 5) (L1 := [(4, vi (c - 1)), (0, vr 10 223), (1, vl w), (3, vi c)]) (st1 := []) (h1 := xhp s) 4 (fun _ _ _ _ => rfl) ?_
  exact xW.locs (L := [(0, vr 10 223), (1, vl w), (4, vi (c - 1))]) ⟨rfl, rfl, rfl, trivial⟩ rfl g
noncomputable def li_writeDigits_d (s : xS) (w : Int64) (c : Int32) : xS := (li_writeDigits_5 xfu s w (c - 1))
noncomputable def li_writeDigits : xS → Int64 → Int32 → xS := Classical.choose (⟨li_writeDigits_d, rfl⟩ : ∃ f, f = li_writeDigits_d)
set_option maxRecDepth 100000 in
theorem li_writeDigits_eq : li_writeDigits = li_writeDigits_d := Classical.choose_spec (⟨li_writeDigits_d, rfl⟩ : ∃ f, f = li_writeDigits_d)
def li_writeDigits_ok (s : xS) (w : Int64) (c : Int32) : Prop := (li_writeDigits_5_ok xfu s w (c - 1))
set_option maxRecDepth 100000 in
theorem m174 {xs : Nat → Int32} {Ls : Nat} {Ψ : xO → xH → Prop} (s : xS) (w : Int64) (c : Int32) (gq : li_writeDigits_ok s w c) (h : Ψ (.inl none) (xhp (li_writeDigits s w c))) : xM (xX0 xs Ls) 174 [vr 10 223, vl w, vi c] (xhp s) Ψ := by
  rw [li_writeDigits_eq] at h
  unfold li_writeDigits_d at h
  unfold li_writeDigits_ok at gq
  exact xM.of (P := p174) rfl rfl rfl (b174_0 s w c (n174_5 _ _ _ _ gq h))
/-! li_writeWithPoint -/
theorem b173_0 {xs : Nat → Int32} {Ls : Nat} {Φ : Option xV → xH → Prop} (s : xS) (w : Int64) (f : Int32) (e : Int32) (g : ((vp_in e 19) ∧ ((¬ (iten e) = 0) ∧ ((li_writeDigits_ok s (w / (iten e)) f) ∧ ((li_write_ok (li_writeDigits s (w / (iten e)) f) 46) ∧ ((vp_in e 19) ∧ ((¬ (iten e) = 0) ∧ ((li_writeDigits_ok (li_write (li_writeDigits s (w / (iten e)) f) 46) (w - w / (iten e) * (iten e)) e) ∧ Φ none (xhp (li_writeDigits (li_write (li_writeDigits s (w / (iten e)) f) 46) (w - w / (iten e) * (iten e)) e)))))))))) : xW (xX0 xs Ls) p173 0 [(0, vr 10 223), (1, vl w), (3, vi f), (4, vi e)] [] (xhp s) Φ := by
  refine xW.side (c := vp_in e 19) (pc1 := 8) (L1 := [(0, vr 10 223), (1, vl w), (3, vi f), (4, vi e)]) (st1 := [vl (iten e), vl w, vr 10 223]) (h1 := xhp s) 5 (fun _ _ _ _ => rfl) g.1 ?_
  replace g := g.2
  refine xW.side (c := ¬ (iten e) = 0) (pc1 := 9) (L1 := [(0, vr 10 223), (1, vl w), (3, vi f), (4, vi e)]) (st1 := [vl (w / (iten e)), vr 10 223]) (h1 := xhp s) 1 (fun _ _ _ _ => rfl) g.1 ?_
  replace g := g.2
  refine xW.call (y := 174) (as := [vr 10 223, vl (w / (iten e)), vi f]) (h0 := xhp s) (pc0 := 10) (len := 3) (L0 := [(0, vr 10 223), (1, vl w), (3, vi f), (4, vi e)]) (rest := []) 2 (fun _ _ _ _ => rfl) (m174 _ _ _ g.1 ?_)
  show xW (xX0 xs Ls) p173 13 [(0, vr 10 223), (1, vl w), (3, vi f), (4, vi e)] [] (xhp (li_writeDigits s (w / (iten e)) f)) Φ
  replace g := g.2
  refine xW.call (y := 175) (as := [vr 10 223, vi 46]) (h0 := xhp (li_writeDigits s (w / (iten e)) f)) (pc0 := 16) (len := 3) (L0 := [(0, vr 10 223), (1, vl w), (3, vi f), (4, vi e)]) (rest := []) 3 (fun _ _ _ _ => rfl) (m175 _ _ g.1 ?_)
  show xW (xX0 xs Ls) p173 19 [(0, vr 10 223), (1, vl w), (3, vi f), (4, vi e)] [] (xhp (li_write (li_writeDigits s (w / (iten e)) f) 46)) Φ
  replace g := g.2
  refine xW.side (c := vp_in e 19) (pc1 := 27) (L1 := [(0, vr 10 223), (1, vl w), (3, vi f), (4, vi e)]) (st1 := [vl (iten e), vl w, vr 10 223]) (h1 := xhp (li_write (li_writeDigits s (w / (iten e)) f) 46)) 5 (fun _ _ _ _ => rfl) g.1 ?_
  replace g := g.2
  refine xW.side (c := ¬ (iten e) = 0) (pc1 := 28) (L1 := [(0, vr 10 223), (1, vl w), (3, vi f), (4, vi e)]) (st1 := [vl (w - w / (iten e) * (iten e)), vr 10 223]) (h1 := xhp (li_write (li_writeDigits s (w / (iten e)) f) 46)) 1 (fun _ _ _ _ => rfl) g.1 ?_
  replace g := g.2
  refine xW.call (y := 174) (as := [vr 10 223, vl (w - w / (iten e) * (iten e)), vi e]) (h0 := xhp (li_write (li_writeDigits s (w / (iten e)) f) 46)) (pc0 := 30) (len := 3) (L0 := [(0, vr 10 223), (1, vl w), (3, vi f), (4, vi e)]) (rest := []) 2 (fun _ _ _ _ => rfl) (m174 _ _ _ g.1 ?_)
  show xW (xX0 xs Ls) p173 33 [(0, vr 10 223), (1, vl w), (3, vi f), (4, vi e)] [] (xhp (li_writeDigits (li_write (li_writeDigits s (w / (iten e)) f) 46) (w - w / (iten e) * (iten e)) e)) Φ
  replace g := g.2
  exact xW.ret (v0 := none) (h1 := xhp (li_writeDigits (li_write (li_writeDigits s (w / (iten e)) f) 46) (w - w / (iten e) * (iten e)) e)) 1 (fun _ _ _ _ => rfl) g
noncomputable def li_writeWithPoint_d (s : xS) (w : Int64) (f : Int32) (e : Int32) : xS := (li_writeDigits (li_write (li_writeDigits s (w / (iten e)) f) 46) (w - w / (iten e) * (iten e)) e)
noncomputable def li_writeWithPoint : xS → Int64 → Int32 → Int32 → xS := Classical.choose (⟨li_writeWithPoint_d, rfl⟩ : ∃ f, f = li_writeWithPoint_d)
set_option maxRecDepth 100000 in
theorem li_writeWithPoint_eq : li_writeWithPoint = li_writeWithPoint_d := Classical.choose_spec (⟨li_writeWithPoint_d, rfl⟩ : ∃ f, f = li_writeWithPoint_d)
def li_writeWithPoint_ok (s : xS) (w : Int64) (f : Int32) (e : Int32) : Prop := ((vp_in e 19) ∧ ((¬ (iten e) = 0) ∧ ((li_writeDigits_ok s (w / (iten e)) f) ∧ ((li_write_ok (li_writeDigits s (w / (iten e)) f) 46) ∧ ((vp_in e 19) ∧ ((¬ (iten e) = 0) ∧ (li_writeDigits_ok (li_write (li_writeDigits s (w / (iten e)) f) 46) (w - w / (iten e) * (iten e)) e)))))))
set_option maxRecDepth 100000 in
theorem m173 {xs : Nat → Int32} {Ls : Nat} {Ψ : xO → xH → Prop} (s : xS) (w : Int64) (f : Int32) (e : Int32) (gq : li_writeWithPoint_ok s w f e) (h : Ψ (.inl none) (xhp (li_writeWithPoint s w f e))) : xM (xX0 xs Ls) 173 [vr 10 223, vl w, vi f, vi e] (xhp s) Ψ := by
  rw [li_writeWithPoint_eq] at h
  unfold li_writeWithPoint_d at h
  unfold li_writeWithPoint_ok at gq
  exact xM.of (P := p173) rfl rfl rfl (b173_0 s w f e (⟨gq.1, by replace gq := gq.2; exact ⟨gq.1, by replace gq := gq.2; exact ⟨gq.1, by replace gq := gq.2; exact ⟨gq.1, by replace gq := gq.2; exact ⟨gq.1, by replace gq := gq.2; exact ⟨gq.1, by replace gq := gq.2; exact ⟨gq, h⟩⟩⟩⟩⟩⟩⟩))
/-! li_writeFault -/
theorem b168_0 {xs : Nat → Int32} {Ls : Nat} {Φ : Option xV → xH → Prop} (s : xS) (f : Int32) (g : ((li_write_ok s 70) ∧ ((li_write_ok (li_write s 70) 65) ∧ ((li_write_ok (li_write (li_write s 70) 65) 85) ∧ ((li_write_ok (li_write (li_write (li_write s 70) 65) 85) 76) ∧ ((li_write_ok (li_write (li_write (li_write (li_write s 70) 65) 85) 76) 84) ∧ ((li_write_ok (li_write (li_write (li_write (li_write (li_write s 70) 65) 85) 76) 84) 32) ∧ ((li_writeDigits_ok (li_write (li_write (li_write (li_write (li_write (li_write s 70) 65) 85) 76) 84) 32) (f.toInt64) 1) ∧ Φ none (xhp (li_writeDigits (li_write (li_write (li_write (li_write (li_write (li_write s 70) 65) 85) 76) 84) 32) (f.toInt64) 1)))))))))) : xW (xX0 xs Ls) p168 0 [(0, vr 10 223), (1, vi f)] [] (xhp s) Φ := by
  refine xW.call (y := 175) (as := [vr 10 223, vi 70]) (h0 := xhp s) (pc0 := 3) (len := 3) (L0 := [(0, vr 10 223), (1, vi f)]) (rest := []) 3 (fun _ _ _ _ => rfl) (m175 _ _ g.1 ?_)
  show xW (xX0 xs Ls) p168 6 [(0, vr 10 223), (1, vi f)] [] (xhp (li_write s 70)) Φ
  replace g := g.2
  refine xW.call (y := 175) (as := [vr 10 223, vi 65]) (h0 := xhp (li_write s 70)) (pc0 := 9) (len := 3) (L0 := [(0, vr 10 223), (1, vi f)]) (rest := []) 3 (fun _ _ _ _ => rfl) (m175 _ _ g.1 ?_)
  show xW (xX0 xs Ls) p168 12 [(0, vr 10 223), (1, vi f)] [] (xhp (li_write (li_write s 70) 65)) Φ
  replace g := g.2
  refine xW.call (y := 175) (as := [vr 10 223, vi 85]) (h0 := xhp (li_write (li_write s 70) 65)) (pc0 := 15) (len := 3) (L0 := [(0, vr 10 223), (1, vi f)]) (rest := []) 3 (fun _ _ _ _ => rfl) (m175 _ _ g.1 ?_)
  show xW (xX0 xs Ls) p168 18 [(0, vr 10 223), (1, vi f)] [] (xhp (li_write (li_write (li_write s 70) 65) 85)) Φ
  replace g := g.2
  refine xW.call (y := 175) (as := [vr 10 223, vi 76]) (h0 := xhp (li_write (li_write (li_write s 70) 65) 85)) (pc0 := 21) (len := 3) (L0 := [(0, vr 10 223), (1, vi f)]) (rest := []) 3 (fun _ _ _ _ => rfl) (m175 _ _ g.1 ?_)
  show xW (xX0 xs Ls) p168 24 [(0, vr 10 223), (1, vi f)] [] (xhp (li_write (li_write (li_write (li_write s 70) 65) 85) 76)) Φ
  replace g := g.2
  refine xW.call (y := 175) (as := [vr 10 223, vi 84]) (h0 := xhp (li_write (li_write (li_write (li_write s 70) 65) 85) 76)) (pc0 := 27) (len := 3) (L0 := [(0, vr 10 223), (1, vi f)]) (rest := []) 3 (fun _ _ _ _ => rfl) (m175 _ _ g.1 ?_)
  show xW (xX0 xs Ls) p168 30 [(0, vr 10 223), (1, vi f)] [] (xhp (li_write (li_write (li_write (li_write (li_write s 70) 65) 85) 76) 84)) Φ
  replace g := g.2
  refine xW.call (y := 175) (as := [vr 10 223, vi 32]) (h0 := xhp (li_write (li_write (li_write (li_write (li_write s 70) 65) 85) 76) 84)) (pc0 := 33) (len := 3) (L0 := [(0, vr 10 223), (1, vi f)]) (rest := []) 3 (fun _ _ _ _ => rfl) (m175 _ _ g.1 ?_)
  show xW (xX0 xs Ls) p168 36 [(0, vr 10 223), (1, vi f)] [] (xhp (li_write (li_write (li_write (li_write (li_write (li_write s 70) 65) 85) 76) 84) 32)) Φ
  replace g := g.2
  refine xW.call (y := 174) (as := [vr 10 223, vl (f.toInt64), vi 1]) (h0 := xhp (li_write (li_write (li_write (li_write (li_write (li_write s 70) 65) 85) 76) 84) 32)) (pc0 := 40) (len := 3) (L0 := [(0, vr 10 223), (1, vi f)]) (rest := []) 5 (fun _ _ _ _ => rfl) (m174 _ _ _ g.1 ?_)
  show xW (xX0 xs Ls) p168 43 [(0, vr 10 223), (1, vi f)] [] (xhp (li_writeDigits (li_write (li_write (li_write (li_write (li_write (li_write s 70) 65) 85) 76) 84) 32) (f.toInt64) 1)) Φ
  replace g := g.2
  exact xW.ret (v0 := none) (h1 := xhp (li_writeDigits (li_write (li_write (li_write (li_write (li_write (li_write s 70) 65) 85) 76) 84) 32) (f.toInt64) 1)) 1 (fun _ _ _ _ => rfl) g
noncomputable def li_writeFault_d (s : xS) (f : Int32) : xS := (li_writeDigits (li_write (li_write (li_write (li_write (li_write (li_write s 70) 65) 85) 76) 84) 32) (f.toInt64) 1)
noncomputable def li_writeFault : xS → Int32 → xS := Classical.choose (⟨li_writeFault_d, rfl⟩ : ∃ f, f = li_writeFault_d)
set_option maxRecDepth 100000 in
theorem li_writeFault_eq : li_writeFault = li_writeFault_d := Classical.choose_spec (⟨li_writeFault_d, rfl⟩ : ∃ f, f = li_writeFault_d)
def li_writeFault_ok (s : xS) (f : Int32) : Prop := ((li_write_ok s 70) ∧ ((li_write_ok (li_write s 70) 65) ∧ ((li_write_ok (li_write (li_write s 70) 65) 85) ∧ ((li_write_ok (li_write (li_write (li_write s 70) 65) 85) 76) ∧ ((li_write_ok (li_write (li_write (li_write (li_write s 70) 65) 85) 76) 84) ∧ ((li_write_ok (li_write (li_write (li_write (li_write (li_write s 70) 65) 85) 76) 84) 32) ∧ (li_writeDigits_ok (li_write (li_write (li_write (li_write (li_write (li_write s 70) 65) 85) 76) 84) 32) (f.toInt64) 1)))))))
set_option maxRecDepth 100000 in
theorem m168 {xs : Nat → Int32} {Ls : Nat} {Ψ : xO → xH → Prop} (s : xS) (f : Int32) (gq : li_writeFault_ok s f) (h : Ψ (.inl none) (xhp (li_writeFault s f))) : xM (xX0 xs Ls) 168 [vr 10 223, vi f] (xhp s) Ψ := by
  rw [li_writeFault_eq] at h
  unfold li_writeFault_d at h
  unfold li_writeFault_ok at gq
  exact xM.of (P := p168) rfl rfl rfl (b168_0 s f (⟨gq.1, by replace gq := gq.2; exact ⟨gq.1, by replace gq := gq.2; exact ⟨gq.1, by replace gq := gq.2; exact ⟨gq.1, by replace gq := gq.2; exact ⟨gq.1, by replace gq := gq.2; exact ⟨gq.1, by replace gq := gq.2; exact ⟨gq, h⟩⟩⟩⟩⟩⟩⟩))
/-! li_writeEntry -/
theorem b169_62 {xs : Nat → Int32} {Ls : Nat} {Φ : Option xV → xH → Prop} (s : xS) (g : (((gI s 7 5) = 0 → Φ none (xhp s)) ∧ (¬ ((gI s 7 5) = 0) → ((li_write_ok s 69) ∧ ((li_write_ok (li_write s 69) (if (gI (li_write s 69) 7 6) = 0 then (43 : Int32) else 45)) ∧ ((li_writeDigits_ok (li_write (li_write s 69) (if (gI (li_write s 69) 7 6) = 0 then (43 : Int32) else 45)) ((gI (li_write (li_write s 69) (if (gI (li_write s 69) 7 6) = 0 then (43 : Int32) else 45)) 7 7).toInt64) (gI (li_write (li_write s 69) (if (gI (li_write s 69) 7 6) = 0 then (43 : Int32) else 45)) 7 8)) ∧ Φ none (xhp (li_writeDigits (li_write (li_write s 69) (if (gI (li_write s 69) 7 6) = 0 then (43 : Int32) else 45)) ((gI (li_write (li_write s 69) (if (gI (li_write s 69) 7 6) = 0 then (43 : Int32) else 45)) 7 7).toInt64) (gI (li_write (li_write s 69) (if (gI (li_write s 69) 7 6) = 0 then (43 : Int32) else 45)) 7 8))))))))) : xW (xX0 xs Ls) p169 62 [(0, vr 10 223), (1, vr 4 7)] [] (xhp s) Φ := by
  refine xW.br (c := (gI s 7 5) = 0) (pc1 := 106) (L1 := [(0, vr 10 223), (1, vr 4 7)]) (st1 := []) (h1 := xhp s) (pc2 := 69) (L2 := [(0, vr 10 223), (1, vr 4 7)]) (st2 := []) (h2 := xhp s) 3 (fun _ _ _ _ => rfl) (fun hc => ?_) (fun hc => ?_)
  · replace g := g.1 hc
    exact xW.ret (v0 := none) (h1 := xhp s) 1 (fun _ _ _ _ => rfl) g
  · replace g := g.2 hc
    refine xW.call (y := 175) (as := [vr 10 223, vi 69]) (h0 := xhp s) (pc0 := 72) (len := 3) (L0 := [(0, vr 10 223), (1, vr 4 7)]) (rest := []) 3 (fun _ _ _ _ => rfl) (m175 _ _ g.1 ?_)
    show xW (xX0 xs Ls) p169 75 [(0, vr 10 223), (1, vr 4 7)] [] (xhp (li_write s 69)) Φ
    replace g := g.2
    refine xW.seg (pc1 := 80) (L1 := [(0, vr 10 223), (1, vr 4 7)]) (st1 := [vi (gI (li_write s 69) 7 6), vr 10 223]) (h1 := xhp (li_write s 69)) 3 (fun _ _ _ _ => rfl) ?_
    suffices J : xW (xX0 xs Ls) p169 90 [(0, vr 10 223), (1, vr 4 7)] [vi (if (gI (li_write s 69) 7 6) = 0 then (43 : Int32) else 45), vr 10 223] (xhp (li_write s 69)) Φ by
      refine xW.br (c := (gI (li_write s 69) 7 6) = 0) (pc1 := 88) (L1 := [(0, vr 10 223), (1, vr 4 7)]) (st1 := [vr 10 223]) (h1 := xhp (li_write s 69)) (pc2 := 83) (L2 := [(0, vr 10 223), (1, vr 4 7)]) (st2 := [vr 10 223]) (h2 := xhp (li_write s 69)) 1 (fun _ _ _ _ => rfl) (fun hc => ?_) (fun hc => ?_)
      · have hc1 : (gI (li_write s 69) 7 6) = 0 := hc
        refine xW.seg (pc1 := 90) (L1 := [(0, vr 10 223), (1, vr 4 7)]) (st1 := [vi 43, vr 10 223]) (h1 := xhp (li_write s 69)) 1 (fun _ _ _ _ => rfl) ?_
        refine xW.to (v := vi (if (gI (li_write s 69) 7 6) = 0 then (43 : Int32) else 45)) ((congrArg vi (if_pos hc1)).symm) ?_
        exact J
      · have hc1 : ¬ ((gI (li_write s 69) 7 6) = 0) := hc
        refine xW.seg (pc1 := 90) (L1 := [(0, vr 10 223), (1, vr 4 7)]) (st1 := [vi 45, vr 10 223]) (h1 := xhp (li_write s 69)) 2 (fun _ _ _ _ => rfl) ?_
        refine xW.to (v := vi (if (gI (li_write s 69) 7 6) = 0 then (43 : Int32) else 45)) ((congrArg vi (if_neg hc1)).symm) ?_
        exact J
    refine xW.call (y := 175) (as := [vr 10 223, vi (if (gI (li_write s 69) 7 6) = 0 then (43 : Int32) else 45)]) (h0 := xhp (li_write s 69)) (pc0 := 90) (len := 3) (L0 := [(0, vr 10 223), (1, vr 4 7)]) (rest := []) 1 (fun _ _ _ _ => rfl) (m175 _ _ g.1 ?_)
    show xW (xX0 xs Ls) p169 93 [(0, vr 10 223), (1, vr 4 7)] [] (xhp (li_write (li_write s 69) (if (gI (li_write s 69) 7 6) = 0 then (43 : Int32) else 45))) Φ
    replace g := g.2
    refine xW.call (y := 174) (as := [vr 10 223, vl ((gI (li_write (li_write s 69) (if (gI (li_write s 69) 7 6) = 0 then (43 : Int32) else 45)) 7 7).toInt64), vi (gI (li_write (li_write s 69) (if (gI (li_write s 69) 7 6) = 0 then (43 : Int32) else 45)) 7 8)]) (h0 := xhp (li_write (li_write s 69) (if (gI (li_write s 69) 7 6) = 0 then (43 : Int32) else 45))) (pc0 := 103) (len := 3) (L0 := [(0, vr 10 223), (1, vr 4 7)]) (rest := []) 7 (fun _ _ _ _ => rfl) (m174 _ _ _ g.1 ?_)
    show xW (xX0 xs Ls) p169 106 [(0, vr 10 223), (1, vr 4 7)] [] (xhp (li_writeDigits (li_write (li_write s 69) (if (gI (li_write s 69) 7 6) = 0 then (43 : Int32) else 45)) ((gI (li_write (li_write s 69) (if (gI (li_write s 69) 7 6) = 0 then (43 : Int32) else 45)) 7 7).toInt64) (gI (li_write (li_write s 69) (if (gI (li_write s 69) 7 6) = 0 then (43 : Int32) else 45)) 7 8))) Φ
    replace g := g.2
    exact xW.ret (v0 := none) (h1 := xhp (li_writeDigits (li_write (li_write s 69) (if (gI (li_write s 69) 7 6) = 0 then (43 : Int32) else 45)) ((gI (li_write (li_write s 69) (if (gI (li_write s 69) 7 6) = 0 then (43 : Int32) else 45)) 7 7).toInt64) (gI (li_write (li_write s 69) (if (gI (li_write s 69) 7 6) = 0 then (43 : Int32) else 45)) 7 8))) 1 (fun _ _ _ _ => rfl) g
noncomputable def li_writeEntry_62_d (s : xS) : xS := (if (gI s 7 5) = 0 then s else (li_writeDigits (li_write (li_write s 69) (if (gI (li_write s 69) 7 6) = 0 then (43 : Int32) else 45)) ((gI (li_write (li_write s 69) (if (gI (li_write s 69) 7 6) = 0 then (43 : Int32) else 45)) 7 7).toInt64) (gI (li_write (li_write s 69) (if (gI (li_write s 69) 7 6) = 0 then (43 : Int32) else 45)) 7 8)))
noncomputable def li_writeEntry_62 : xS → xS := Classical.choose (⟨li_writeEntry_62_d, rfl⟩ : ∃ f, f = li_writeEntry_62_d)
set_option maxRecDepth 100000 in
theorem li_writeEntry_62_eq : li_writeEntry_62 = li_writeEntry_62_d := Classical.choose_spec (⟨li_writeEntry_62_d, rfl⟩ : ∃ f, f = li_writeEntry_62_d)
def li_writeEntry_62_ok (s : xS) : Prop := (¬ ((gI s 7 5) = 0) → ((li_write_ok s 69) ∧ ((li_write_ok (li_write s 69) (if (gI (li_write s 69) 7 6) = 0 then (43 : Int32) else 45)) ∧ (li_writeDigits_ok (li_write (li_write s 69) (if (gI (li_write s 69) 7 6) = 0 then (43 : Int32) else 45)) ((gI (li_write (li_write s 69) (if (gI (li_write s 69) 7 6) = 0 then (43 : Int32) else 45)) 7 7).toInt64) (gI (li_write (li_write s 69) (if (gI (li_write s 69) 7 6) = 0 then (43 : Int32) else 45)) 7 8)))))
set_option maxRecDepth 100000 in
theorem n169_62 {xs : Nat → Int32} {Ls : Nat} {Φ : Option xV → xH → Prop} (s : xS) (gq : li_writeEntry_62_ok s) (h : Φ none (xhp (li_writeEntry_62 s))) : xW (xX0 xs Ls) p169 62 [(0, vr 10 223), (1, vr 4 7)] [] (xhp s) Φ := by
  rw [li_writeEntry_62_eq] at h
  unfold li_writeEntry_62_d at h
  unfold li_writeEntry_62_ok at gq
  exact b169_62 s (⟨fun hc => by rw [if_pos hc] at h; exact h, fun hc => by rw [if_neg hc] at h; replace gq := gq hc; exact ⟨gq.1, by replace gq := gq.2; exact ⟨gq.1, by replace gq := gq.2; exact ⟨gq, h⟩⟩⟩⟩)
set_option maxRecDepth 100000 in
theorem b169_0 {xs : Nat → Int32} {Ls : Nat} {Φ : Option xV → xH → Prop} (s : xS) (g : ((li_write_ok s (if (gI s 7 1) = 0 then (32 : Int32) else 45)) ∧ ((¬ (gI (li_write s (if (gI s 7 1) = 0 then (32 : Int32) else 45)) 7 4) = (-1) → ((li_writeWithPoint_ok (li_write s (if (gI s 7 1) = 0 then (32 : Int32) else 45)) (gJ (li_write s (if (gI s 7 1) = 0 then (32 : Int32) else 45)) 7 2) (gI (li_write s (if (gI s 7 1) = 0 then (32 : Int32) else 45)) 7 4) ((gI (li_write s (if (gI s 7 1) = 0 then (32 : Int32) else 45)) 7 3) - (gI (li_write s (if (gI s 7 1) = 0 then (32 : Int32) else 45)) 7 4))) ∧ xW (xX0 xs Ls) p169 62 [(0, vr 10 223), (1, vr 4 7)] [] (xhp (li_writeWithPoint (li_write s (if (gI s 7 1) = 0 then (32 : Int32) else 45)) (gJ (li_write s (if (gI s 7 1) = 0 then (32 : Int32) else 45)) 7 2) (gI (li_write s (if (gI s 7 1) = 0 then (32 : Int32) else 45)) 7 4) ((gI (li_write s (if (gI s 7 1) = 0 then (32 : Int32) else 45)) 7 3) - (gI (li_write s (if (gI s 7 1) = 0 then (32 : Int32) else 45)) 7 4)))) Φ)) ∧ ((gI (li_write s (if (gI s 7 1) = 0 then (32 : Int32) else 45)) 7 4) = (-1) → ((li_writeDigits_ok (li_write s (if (gI s 7 1) = 0 then (32 : Int32) else 45)) (gJ (li_write s (if (gI s 7 1) = 0 then (32 : Int32) else 45)) 7 2) (gI (li_write s (if (gI s 7 1) = 0 then (32 : Int32) else 45)) 7 3)) ∧ xW (xX0 xs Ls) p169 62 [(0, vr 10 223), (1, vr 4 7)] [] (xhp (li_writeDigits (li_write s (if (gI s 7 1) = 0 then (32 : Int32) else 45)) (gJ (li_write s (if (gI s 7 1) = 0 then (32 : Int32) else 45)) 7 2) (gI (li_write s (if (gI s 7 1) = 0 then (32 : Int32) else 45)) 7 3))) Φ))))) : xW (xX0 xs Ls) p169 0 [(0, vr 10 223), (1, vr 4 7)] [] (xhp s) Φ := by
  refine xW.seg (pc1 := 5) (L1 := [(0, vr 10 223), (1, vr 4 7)]) (st1 := [vi (gI s 7 1), vr 10 223]) (h1 := xhp s) 3 (fun _ _ _ _ => rfl) ?_
  suffices J : xW (xX0 xs Ls) p169 15 [(0, vr 10 223), (1, vr 4 7)] [vi (if (gI s 7 1) = 0 then (32 : Int32) else 45), vr 10 223] (xhp s) Φ by
    refine xW.br (c := (gI s 7 1) = 0) (pc1 := 13) (L1 := [(0, vr 10 223), (1, vr 4 7)]) (st1 := [vr 10 223]) (h1 := xhp s) (pc2 := 8) (L2 := [(0, vr 10 223), (1, vr 4 7)]) (st2 := [vr 10 223]) (h2 := xhp s) 1 (fun _ _ _ _ => rfl) (fun hc => ?_) (fun hc => ?_)
    · have hc1 : (gI s 7 1) = 0 := hc
      refine xW.seg (pc1 := 15) (L1 := [(0, vr 10 223), (1, vr 4 7)]) (st1 := [vi 32, vr 10 223]) (h1 := xhp s) 1 (fun _ _ _ _ => rfl) ?_
      refine xW.to (v := vi (if (gI s 7 1) = 0 then (32 : Int32) else 45)) ((congrArg vi (if_pos hc1)).symm) ?_
      exact J
    · have hc1 : ¬ ((gI s 7 1) = 0) := hc
      refine xW.seg (pc1 := 15) (L1 := [(0, vr 10 223), (1, vr 4 7)]) (st1 := [vi 45, vr 10 223]) (h1 := xhp s) 2 (fun _ _ _ _ => rfl) ?_
      refine xW.to (v := vi (if (gI s 7 1) = 0 then (32 : Int32) else 45)) ((congrArg vi (if_neg hc1)).symm) ?_
      exact J
  refine xW.call (y := 175) (as := [vr 10 223, vi (if (gI s 7 1) = 0 then (32 : Int32) else 45)]) (h0 := xhp s) (pc0 := 15) (len := 3) (L0 := [(0, vr 10 223), (1, vr 4 7)]) (rest := []) 1 (fun _ _ _ _ => rfl) (m175 _ _ g.1 ?_)
  show xW (xX0 xs Ls) p169 18 [(0, vr 10 223), (1, vr 4 7)] [] (xhp (li_write s (if (gI s 7 1) = 0 then (32 : Int32) else 45))) Φ
  replace g := g.2
  refine xW.br (c := ¬ (gI (li_write s (if (gI s 7 1) = 0 then (32 : Int32) else 45)) 7 4) = (-1)) (pc1 := 41) (L1 := [(0, vr 10 223), (1, vr 4 7)]) (st1 := []) (h1 := xhp (li_write s (if (gI s 7 1) = 0 then (32 : Int32) else 45))) (pc2 := 26) (L2 := [(0, vr 10 223), (1, vr 4 7)]) (st2 := []) (h2 := xhp (li_write s (if (gI s 7 1) = 0 then (32 : Int32) else 45))) 4 (fun _ _ _ _ => rfl) (fun hc => ?_) (fun hc => ?_)
  · replace g := g.1 hc
    refine xW.call (y := 173) (as := [vr 10 223, vl (gJ (li_write s (if (gI s 7 1) = 0 then (32 : Int32) else 45)) 7 2), vi (gI (li_write s (if (gI s 7 1) = 0 then (32 : Int32) else 45)) 7 4), vi ((gI (li_write s (if (gI s 7 1) = 0 then (32 : Int32) else 45)) 7 3) - (gI (li_write s (if (gI s 7 1) = 0 then (32 : Int32) else 45)) 7 4))]) (h0 := xhp (li_write s (if (gI s 7 1) = 0 then (32 : Int32) else 45))) (pc0 := 59) (len := 3) (L0 := [(0, vr 10 223), (1, vr 4 7)]) (rest := []) 11 (fun _ _ _ _ => rfl) (m173 _ _ _ _ g.1 ?_)
    show xW (xX0 xs Ls) p169 62 [(0, vr 10 223), (1, vr 4 7)] [] (xhp (li_writeWithPoint (li_write s (if (gI s 7 1) = 0 then (32 : Int32) else 45)) (gJ (li_write s (if (gI s 7 1) = 0 then (32 : Int32) else 45)) 7 2) (gI (li_write s (if (gI s 7 1) = 0 then (32 : Int32) else 45)) 7 4) ((gI (li_write s (if (gI s 7 1) = 0 then (32 : Int32) else 45)) 7 3) - (gI (li_write s (if (gI s 7 1) = 0 then (32 : Int32) else 45)) 7 4)))) Φ
    replace g := g.2
    exact g
  · replace g := g.2 (Decidable.not_not.mp hc)
    refine xW.call (y := 174) (as := [vr 10 223, vl (gJ (li_write s (if (gI s 7 1) = 0 then (32 : Int32) else 45)) 7 2), vi (gI (li_write s (if (gI s 7 1) = 0 then (32 : Int32) else 45)) 7 3)]) (h0 := xhp (li_write s (if (gI s 7 1) = 0 then (32 : Int32) else 45))) (pc0 := 35) (len := 3) (L0 := [(0, vr 10 223), (1, vr 4 7)]) (rest := []) 6 (fun _ _ _ _ => rfl) (m174 _ _ _ g.1 ?_)
    show xW (xX0 xs Ls) p169 38 [(0, vr 10 223), (1, vr 4 7)] [] (xhp (li_writeDigits (li_write s (if (gI s 7 1) = 0 then (32 : Int32) else 45)) (gJ (li_write s (if (gI s 7 1) = 0 then (32 : Int32) else 45)) 7 2) (gI (li_write s (if (gI s 7 1) = 0 then (32 : Int32) else 45)) 7 3))) Φ
    replace g := g.2
    refine xW.seg (pc1 := 62) (L1 := [(0, vr 10 223), (1, vr 4 7)]) (st1 := []) (h1 := xhp (li_writeDigits (li_write s (if (gI s 7 1) = 0 then (32 : Int32) else 45)) (gJ (li_write s (if (gI s 7 1) = 0 then (32 : Int32) else 45)) 7 2) (gI (li_write s (if (gI s 7 1) = 0 then (32 : Int32) else 45)) 7 3))) 1 (fun _ _ _ _ => rfl) ?_
    exact g
noncomputable def li_writeEntry_d (s : xS) : xS := (if ¬ (gI (li_write s (if (gI s 7 1) = 0 then (32 : Int32) else 45)) 7 4) = (-1) then (li_writeEntry_62 (li_writeWithPoint (li_write s (if (gI s 7 1) = 0 then (32 : Int32) else 45)) (gJ (li_write s (if (gI s 7 1) = 0 then (32 : Int32) else 45)) 7 2) (gI (li_write s (if (gI s 7 1) = 0 then (32 : Int32) else 45)) 7 4) ((gI (li_write s (if (gI s 7 1) = 0 then (32 : Int32) else 45)) 7 3) - (gI (li_write s (if (gI s 7 1) = 0 then (32 : Int32) else 45)) 7 4)))) else (li_writeEntry_62 (li_writeDigits (li_write s (if (gI s 7 1) = 0 then (32 : Int32) else 45)) (gJ (li_write s (if (gI s 7 1) = 0 then (32 : Int32) else 45)) 7 2) (gI (li_write s (if (gI s 7 1) = 0 then (32 : Int32) else 45)) 7 3))))
noncomputable def li_writeEntry : xS → xS := Classical.choose (⟨li_writeEntry_d, rfl⟩ : ∃ f, f = li_writeEntry_d)
set_option maxRecDepth 100000 in
theorem li_writeEntry_eq : li_writeEntry = li_writeEntry_d := Classical.choose_spec (⟨li_writeEntry_d, rfl⟩ : ∃ f, f = li_writeEntry_d)
def li_writeEntry_ok (s : xS) : Prop := ((li_write_ok s (if (gI s 7 1) = 0 then (32 : Int32) else 45)) ∧ ((¬ (gI (li_write s (if (gI s 7 1) = 0 then (32 : Int32) else 45)) 7 4) = (-1) → ((li_writeWithPoint_ok (li_write s (if (gI s 7 1) = 0 then (32 : Int32) else 45)) (gJ (li_write s (if (gI s 7 1) = 0 then (32 : Int32) else 45)) 7 2) (gI (li_write s (if (gI s 7 1) = 0 then (32 : Int32) else 45)) 7 4) ((gI (li_write s (if (gI s 7 1) = 0 then (32 : Int32) else 45)) 7 3) - (gI (li_write s (if (gI s 7 1) = 0 then (32 : Int32) else 45)) 7 4))) ∧ (li_writeEntry_62_ok (li_writeWithPoint (li_write s (if (gI s 7 1) = 0 then (32 : Int32) else 45)) (gJ (li_write s (if (gI s 7 1) = 0 then (32 : Int32) else 45)) 7 2) (gI (li_write s (if (gI s 7 1) = 0 then (32 : Int32) else 45)) 7 4) ((gI (li_write s (if (gI s 7 1) = 0 then (32 : Int32) else 45)) 7 3) - (gI (li_write s (if (gI s 7 1) = 0 then (32 : Int32) else 45)) 7 4)))))) ∧ ((gI (li_write s (if (gI s 7 1) = 0 then (32 : Int32) else 45)) 7 4) = (-1) → ((li_writeDigits_ok (li_write s (if (gI s 7 1) = 0 then (32 : Int32) else 45)) (gJ (li_write s (if (gI s 7 1) = 0 then (32 : Int32) else 45)) 7 2) (gI (li_write s (if (gI s 7 1) = 0 then (32 : Int32) else 45)) 7 3)) ∧ (li_writeEntry_62_ok (li_writeDigits (li_write s (if (gI s 7 1) = 0 then (32 : Int32) else 45)) (gJ (li_write s (if (gI s 7 1) = 0 then (32 : Int32) else 45)) 7 2) (gI (li_write s (if (gI s 7 1) = 0 then (32 : Int32) else 45)) 7 3)))))))
set_option maxRecDepth 100000 in
theorem m169 {xs : Nat → Int32} {Ls : Nat} {Ψ : xO → xH → Prop} (s : xS) (gq : li_writeEntry_ok s) (h : Ψ (.inl none) (xhp (li_writeEntry s))) : xM (xX0 xs Ls) 169 [vr 10 223, vr 4 7] (xhp s) Ψ := by
  rw [li_writeEntry_eq] at h
  unfold li_writeEntry_d at h
  unfold li_writeEntry_ok at gq
  exact xM.of (P := p169) rfl rfl rfl (b169_0 s (⟨gq.1, by replace gq := gq.2; exact ⟨fun hc => by rw [if_pos hc] at h; replace gq := gq.1 hc; exact ⟨gq.1, by replace gq := gq.2; exact n169_62 _ gq h⟩, fun hc => by rw [if_neg (fun z => z hc)] at h; replace gq := gq.2 hc; exact ⟨gq.1, by replace gq := gq.2; exact n169_62 _ gq h⟩⟩⟩))
/-! li_writeFixed -/
theorem b171_114 {xs : Nat → Int32} {Ls : Nat} {Φ : Option xV → xH → Prop} (s : xS) (x2 : Int32) (x4 : Int64) (x6 : Int32) (g : ((li_writeWithPoint_ok s x4 x6 x2) ∧ Φ (some (vi 1)) (xhp (li_writeWithPoint s x4 x6 x2)))) : xW (xX0 xs Ls) p171 114 [(0, vr 10 223), (2, vi x2), (4, vl x4), (6, vi x6)] [] (xhp s) Φ := by
  refine xW.call (y := 173) (as := [vr 10 223, vl x4, vi x6, vi x2]) (h0 := xhp s) (pc0 := 120) (len := 3) (L0 := [(0, vr 10 223), (2, vi x2), (4, vl x4), (6, vi x6)]) (rest := []) 5 (fun _ _ _ _ => rfl) (m173 _ _ _ _ g.1 ?_)
  show xW (xX0 xs Ls) p171 123 [(0, vr 10 223), (2, vi x2), (4, vl x4), (6, vi x6)] [] (xhp (li_writeWithPoint s x4 x6 x2)) Φ
  replace g := g.2
  exact xW.retz (v0 := some (vi 1)) (h1 := xhp (li_writeWithPoint s x4 x6 x2)) (c := (1 : Int32) = 0 ∨ (1 : Int32) = 1) 2 (fun _ _ _ _ => rfl) (Or.inr rfl) g
noncomputable def li_writeFixed_114_d (s : xS) (x2 : Int32) (x4 : Int64) (x6 : Int32) : Bool × xS := (true, (li_writeWithPoint s x4 x6 x2))
noncomputable def li_writeFixed_114 : xS → Int32 → Int64 → Int32 → Bool × xS := Classical.choose (⟨li_writeFixed_114_d, rfl⟩ : ∃ f, f = li_writeFixed_114_d)
set_option maxRecDepth 100000 in
theorem li_writeFixed_114_eq : li_writeFixed_114 = li_writeFixed_114_d := Classical.choose_spec (⟨li_writeFixed_114_d, rfl⟩ : ∃ f, f = li_writeFixed_114_d)
def li_writeFixed_114_ok (s : xS) (x2 : Int32) (x4 : Int64) (x6 : Int32) : Prop := (li_writeWithPoint_ok s x4 x6 x2)
set_option maxRecDepth 100000 in
theorem n171_114 {xs : Nat → Int32} {Ls : Nat} {Φ : Option xV → xH → Prop} (s : xS) (x2 : Int32) (x4 : Int64) (x6 : Int32) (gq : li_writeFixed_114_ok s x2 x4 x6) (h : Φ (some (vi (zb (li_writeFixed_114 s x2 x4 x6).1))) (xhp (li_writeFixed_114 s x2 x4 x6).2)) : xW (xX0 xs Ls) p171 114 [(0, vr 10 223), (2, vi x2), (4, vl x4), (6, vi x6)] [] (xhp s) Φ := by
  rw [li_writeFixed_114_eq] at h
  unfold li_writeFixed_114_d at h
  unfold li_writeFixed_114_ok at gq
  exact b171_114 s x2 x4 x6 (⟨gq, (by (try dsimp only at h); exact h)⟩)
set_option maxRecDepth 100000 in
theorem b171_85 {xs : Nat → Int32} {Ls : Nat} {Φ : Option xV → xH → Prop} (s : xS) (x2 : Int32) (x4 : Int64) (x6 : Int32) (g : ((12 ≤ (x6 + x2) → xW (xX0 xs Ls) p171 114 [(0, vr 10 223), (2, vi x2), (4, vl x4), (6, vi x6)] [] (xhp s) Φ) ∧ (¬ (12 ≤ (x6 + x2)) → ((vp_in (x6 + x2) 19) ∧ ((x4 < (iten (x6 + x2)) → xW (xX0 xs Ls) p171 114 [(0, vr 10 223), (2, vi x2), (4, vl x4), (6, vi x6)] [] (xhp s) Φ) ∧ (¬ (x4 < (iten (x6 + x2))) → xW (xX0 xs Ls) p171 85 [(0, vr 10 223), (2, vi x2), (4, vl x4), (6, vi (x6 + 1))] [] (xhp s) Φ)))))) : xW (xX0 xs Ls) p171 85 [(0, vr 10 223), (2, vi x2), (4, vl x4), (6, vi x6)] [] (xhp s) Φ := by
  refine xW.br (c := 12 ≤ (x6 + x2)) (pc1 := 114) (L1 := [(0, vr 10 223), (2, vi x2), (4, vl x4), (6, vi x6)]) (st1 := []) (h1 := xhp s) (pc2 := 94) (L2 := [(0, vr 10 223), (2, vi x2), (4, vl x4), (6, vi x6)]) (st2 := []) (h2 := xhp s) 5 (fun _ _ _ _ => rfl) (fun hc => ?_) (fun hc => ?_)
  · replace g := g.1 hc
    exact g
  · replace g := g.2 hc
    refine xW.side (c := vp_in (x6 + x2) 19) (pc1 := 104) (L1 := [(0, vr 10 223), (2, vi x2), (4, vl x4), (6, vi x6)]) (st1 := [vl (iten (x6 + x2)), vl x4]) (h1 := xhp s) 6 (fun _ _ _ _ => rfl) g.1 ?_
    replace g := g.2
    refine xW.br (c := (lg_cmp x4 (iten (x6 + x2))) < 0) (pc1 := 114) (L1 := [(0, vr 10 223), (2, vi x2), (4, vl x4), (6, vi x6)]) (st1 := []) (h1 := xhp s) (pc2 := 108) (L2 := [(0, vr 10 223), (2, vi x2), (4, vl x4), (6, vi x6)]) (st2 := []) (h2 := xhp s) 2 (fun _ _ _ _ => rfl) (fun hc => ?_) (fun hc => ?_)
    · replace g := g.1 (lc_lt.mp hc)
      exact g
    · replace g := g.2 (fun q => hc (lc_lt.mpr q))
      refine xW.seg (pc1 := 85) (L1 := [(6, vi (x6 + 1)), (0, vr 10 223), (2, vi x2), (4, vl x4)]) (st1 := []) (h1 := xhp s) 2 (fun _ _ _ _ => rfl) ?_
      exact xW.locs (L := [(0, vr 10 223), (2, vi x2), (4, vl x4), (6, vi (x6 + 1))]) ⟨rfl, rfl, rfl, rfl, trivial⟩ rfl g
noncomputable def li_writeFixed_85 : Nat → xS → Int32 → Int64 → Int32 → Bool × xS
  | 0, s, _, _, _ => (false, s)
  | n + 1, s, x2, x4, x6 => (if 12 ≤ (x6 + x2) then (li_writeFixed_114 s x2 x4 x6) else (if x4 < (iten (x6 + x2)) then (li_writeFixed_114 s x2 x4 x6) else (li_writeFixed_85 n s x2 x4 (x6 + 1))))
def li_writeFixed_85_ok : Nat → xS → Int32 → Int64 → Int32 → Prop
  | 0, _, _, _, _ => False
  | n + 1, s, x2, x4, x6 => ((12 ≤ (x6 + x2) → (li_writeFixed_114_ok s x2 x4 x6)) ∧ (¬ (12 ≤ (x6 + x2)) → ((vp_in (x6 + x2) 19) ∧ ((x4 < (iten (x6 + x2)) → (li_writeFixed_114_ok s x2 x4 x6)) ∧ (¬ (x4 < (iten (x6 + x2))) → (li_writeFixed_85_ok n s x2 x4 (x6 + 1)))))))
set_option maxRecDepth 100000 in
theorem n171_85 {xs : Nat → Int32} {Ls : Nat} {Φ : Option xV → xH → Prop} : ∀ (n : Nat) (s : xS) (x2 : Int32) (x4 : Int64) (x6 : Int32), li_writeFixed_85_ok n s x2 x4 x6 → Φ (some (vi (zb (li_writeFixed_85 n s x2 x4 x6).1))) (xhp (li_writeFixed_85 n s x2 x4 x6).2) → xW (xX0 xs Ls) p171 85 [(0, vr 10 223), (2, vi x2), (4, vl x4), (6, vi x6)] [] (xhp s) Φ := by
  intro n
  induction n with
  | zero => intro s _ _ _ gq; exact gq.elim
  | succ n ih =>
    intro s x2 x4 x6 gq h
    unfold li_writeFixed_85_ok at gq
    unfold li_writeFixed_85 at h
    exact b171_85 s x2 x4 x6 (⟨fun hc => by rw [if_pos hc] at h; replace gq := gq.1 hc; exact n171_114 _ _ _ _ gq h, fun hc => by rw [if_neg hc] at h; replace gq := gq.2 hc; exact ⟨gq.1, by replace gq := gq.2; exact ⟨fun hc => by rw [if_pos hc] at h; replace gq := gq.1 hc; exact n171_114 _ _ _ _ gq h, fun hc => by rw [if_neg hc] at h; replace gq := gq.2 hc; exact ih _ _ _ _ gq h⟩⟩⟩)
set_option maxRecDepth 100000 in
theorem b171_62 {xs : Nat → Int32} {Ls : Nat} {Φ : Option xV → xH → Prop} (s : xS) (x2 : Int32) (y0 : Int64) (g : ((¬ y0 = 0 → xW (xX0 xs Ls) p171 85 [(0, vr 10 223), (2, vi x2), (4, vl y0), (6, vi 1)] [] (xhp s) Φ) ∧ (y0 = 0 → (((gJ s 18 0) = 0 → xW (xX0 xs Ls) p171 85 [(0, vr 10 223), (2, vi x2), (4, vl y0), (6, vi 1)] [] (xhp s) Φ) ∧ (¬ ((gJ s 18 0) = 0) → Φ (some (vi 0)) (xhp s)))))) : xW (xX0 xs Ls) p171 62 [(0, vr 10 223), (1, vr 5 18), (2, vi x2)] [vl y0] (xhp s) Φ := by
  refine xW.br (c := ¬ (lg_cmp y0 0) = 0) (pc1 := 82) (L1 := [(4, vl y0), (0, vr 10 223), (1, vr 5 18), (2, vi x2)]) (st1 := []) (h1 := xhp s) (pc2 := 71) (L2 := [(4, vl y0), (0, vr 10 223), (1, vr 5 18), (2, vi x2)]) (st2 := []) (h2 := xhp s) 5 (fun _ _ _ _ => rfl) (fun hc => ?_) (fun hc => ?_)
  · replace g := g.1 (fun q => hc (lc_eq.mpr q))
    refine xW.seg (pc1 := 85) (L1 := [(6, vi 1), (4, vl y0), (0, vr 10 223), (1, vr 5 18), (2, vi x2)]) (st1 := []) (h1 := xhp s) 2 (fun _ _ _ _ => rfl) ?_
    exact xW.locs (L := [(0, vr 10 223), (2, vi x2), (4, vl y0), (6, vi 1)]) ⟨rfl, rfl, rfl, rfl, trivial⟩ rfl g
  · replace g := g.2 (lc_eq.mp (Decidable.not_not.mp hc))
    refine xW.br (c := (lg_cmp (gJ s 18 0) 0) = 0) (pc1 := 82) (L1 := [(4, vl y0), (0, vr 10 223), (1, vr 5 18), (2, vi x2)]) (st1 := []) (h1 := xhp s) (pc2 := 80) (L2 := [(4, vl y0), (0, vr 10 223), (1, vr 5 18), (2, vi x2)]) (st2 := []) (h2 := xhp s) 5 (fun _ _ _ _ => rfl) (fun hc => ?_) (fun hc => ?_)
    · replace g := g.1 (lc_eq.mp hc)
      refine xW.seg (pc1 := 85) (L1 := [(6, vi 1), (4, vl y0), (0, vr 10 223), (1, vr 5 18), (2, vi x2)]) (st1 := []) (h1 := xhp s) 2 (fun _ _ _ _ => rfl) ?_
      exact xW.locs (L := [(0, vr 10 223), (2, vi x2), (4, vl y0), (6, vi 1)]) ⟨rfl, rfl, rfl, rfl, trivial⟩ rfl g
    · replace g := g.2 (fun q => hc (lc_eq.mpr q))
      exact xW.retz (v0 := some (vi 0)) (h1 := xhp s) (c := (0 : Int32) = 0 ∨ (0 : Int32) = 1) 2 (fun _ _ _ _ => rfl) (Or.inl rfl) g
noncomputable def li_writeFixed_62_d (s : xS) (x2 : Int32) (y0 : Int64) : Bool × xS := (if ¬ y0 = 0 then (li_writeFixed_85 xfu s x2 y0 1) else (if (gJ s 18 0) = 0 then (li_writeFixed_85 xfu s x2 y0 1) else (false, s)))
noncomputable def li_writeFixed_62 : xS → Int32 → Int64 → Bool × xS := Classical.choose (⟨li_writeFixed_62_d, rfl⟩ : ∃ f, f = li_writeFixed_62_d)
set_option maxRecDepth 100000 in
theorem li_writeFixed_62_eq : li_writeFixed_62 = li_writeFixed_62_d := Classical.choose_spec (⟨li_writeFixed_62_d, rfl⟩ : ∃ f, f = li_writeFixed_62_d)
def li_writeFixed_62_ok (s : xS) (x2 : Int32) (y0 : Int64) : Prop := ((¬ y0 = 0 → (li_writeFixed_85_ok xfu s x2 y0 1)) ∧ (y0 = 0 → ((gJ s 18 0) = 0 → (li_writeFixed_85_ok xfu s x2 y0 1))))
set_option maxRecDepth 100000 in
theorem n171_62 {xs : Nat → Int32} {Ls : Nat} {Φ : Option xV → xH → Prop} (s : xS) (x2 : Int32) (y0 : Int64) (gq : li_writeFixed_62_ok s x2 y0) (h : Φ (some (vi (zb (li_writeFixed_62 s x2 y0).1))) (xhp (li_writeFixed_62 s x2 y0).2)) : xW (xX0 xs Ls) p171 62 [(0, vr 10 223), (1, vr 5 18), (2, vi x2)] [vl y0] (xhp s) Φ := by
  rw [li_writeFixed_62_eq] at h
  unfold li_writeFixed_62_d at h
  unfold li_writeFixed_62_ok at gq
  exact b171_62 s x2 y0 (⟨fun hc => by rw [if_pos hc] at h; replace gq := gq.1 hc; exact n171_85 _ _ _ _ _ gq h, fun hc => by rw [if_neg (fun z => z hc)] at h; replace gq := gq.2 hc; exact ⟨fun hc => by rw [if_pos hc] at h; replace gq := gq hc; exact n171_85 _ _ _ _ _ gq h, fun hc => by rw [if_neg hc] at h; exact (by (try dsimp only at h); exact h)⟩⟩)
set_option maxRecDepth 100000 in
theorem b171_0 {xs : Nat → Int32} {Ls : Nat} {Φ : Option xV → xH → Prop} (s : xS) (g : (((gI s 18 1) ≤ 11 → ((((11 - (gI s 18 1)) - (imin (gI s 223 1) (11 - (gI s 18 1)))) ≤ 12 → ((vp_in ((11 - (gI s 18 1)) - (imin (gI s 223 1) (11 - (gI s 18 1)))) 19) ∧ ((te_nearest_ok s (labs (gJ s 18 0)) (iten ((11 - (gI s 18 1)) - (imin (gI s 223 1) (11 - (gI s 18 1))))) 0) ∧ xW (xX0 xs Ls) p171 62 [(0, vr 10 223), (1, vr 5 18), (2, vi (imin (gI s 223 1) (11 - (gI s 18 1))))] [vl (te_nearest s (labs (gJ s 18 0)) (iten ((11 - (gI s 18 1)) - (imin (gI s 223 1) (11 - (gI s 18 1))))) 0)] (xhp s) Φ))) ∧ (¬ (((11 - (gI s 18 1)) - (imin (gI s 223 1) (11 - (gI s 18 1)))) ≤ 12) → xW (xX0 xs Ls) p171 62 [(0, vr 10 223), (1, vr 5 18), (2, vi (imin (gI s 223 1) (11 - (gI s 18 1))))] [vl 0] (xhp s) Φ))) ∧ (¬ ((gI s 18 1) ≤ 11) → Φ (some (vi 0)) (xhp s)))) : xW (xX0 xs Ls) p171 0 [(0, vr 10 223), (1, vr 5 18)] [] (xhp s) Φ := by
  refine xW.br (c := (gI s 18 1) ≤ 11) (pc1 := 11) (L1 := [(0, vr 10 223), (1, vr 5 18)]) (st1 := []) (h1 := xhp s) (pc2 := 9) (L2 := [(0, vr 10 223), (1, vr 5 18)]) (st2 := []) (h2 := xhp s) 4 (fun _ _ _ _ => rfl) (fun hc => ?_) (fun hc => ?_)
  · replace g := g.1 hc
    refine xW.br (c := ((11 - (gI s 18 1)) - (imin (gI s 223 1) (11 - (gI s 18 1)))) ≤ 12) (pc1 := 46) (L1 := [(3, vi ((11 - (gI s 18 1)) - (imin (gI s 223 1) (11 - (gI s 18 1))))), (2, vi (imin (gI s 223 1) (11 - (gI s 18 1)))), (0, vr 10 223), (1, vr 5 18)]) (st1 := []) (h1 := xhp s) (pc2 := 42) (L2 := [(3, vi ((11 - (gI s 18 1)) - (imin (gI s 223 1) (11 - (gI s 18 1))))), (2, vi (imin (gI s 223 1) (11 - (gI s 18 1)))), (0, vr 10 223), (1, vr 5 18)]) (st2 := []) (h2 := xhp s) 18 (fun _ _ _ _ => rfl) (fun hc => ?_) (fun hc => ?_)
    · replace g := g.1 hc
      refine xW.side (c := vp_in ((11 - (gI s 18 1)) - (imin (gI s 223 1) (11 - (gI s 18 1)))) 19) (pc1 := 58) (L1 := [(3, vi ((11 - (gI s 18 1)) - (imin (gI s 223 1) (11 - (gI s 18 1))))), (2, vi (imin (gI s 223 1) (11 - (gI s 18 1)))), (0, vr 10 223), (1, vr 5 18)]) (st1 := [vl (iten ((11 - (gI s 18 1)) - (imin (gI s 223 1) (11 - (gI s 18 1))))), vl (labs (gJ s 18 0))]) (h1 := xhp s) 6 (fun _ _ _ _ => rfl) g.1 ?_
      replace g := g.2
      refine xW.call (y := 29) (as := [vl (labs (gJ s 18 0)), vl (iten ((11 - (gI s 18 1)) - (imin (gI s 223 1) (11 - (gI s 18 1))))), vi 0]) (h0 := xhp s) (pc0 := 59) (len := 3) (L0 := [(3, vi ((11 - (gI s 18 1)) - (imin (gI s 223 1) (11 - (gI s 18 1))))), (2, vi (imin (gI s 223 1) (11 - (gI s 18 1)))), (0, vr 10 223), (1, vr 5 18)]) (rest := []) 2 (fun _ _ _ _ => rfl) (m29 _ _ _ _ g.1 ?_)
      show xW (xX0 xs Ls) p171 62 [(3, vi ((11 - (gI s 18 1)) - (imin (gI s 223 1) (11 - (gI s 18 1))))), (2, vi (imin (gI s 223 1) (11 - (gI s 18 1)))), (0, vr 10 223), (1, vr 5 18)] [vl (te_nearest s (labs (gJ s 18 0)) (iten ((11 - (gI s 18 1)) - (imin (gI s 223 1) (11 - (gI s 18 1))))) 0)] (xhp s) Φ
      replace g := g.2
      exact xW.locs (L := [(0, vr 10 223), (1, vr 5 18), (2, vi (imin (gI s 223 1) (11 - (gI s 18 1))))]) ⟨rfl, rfl, rfl, trivial⟩ rfl g
    · replace g := g.2 hc
      refine xW.seg (pc1 := 62) (L1 := [(3, vi ((11 - (gI s 18 1)) - (imin (gI s 223 1) (11 - (gI s 18 1))))), (2, vi (imin (gI s 223 1) (11 - (gI s 18 1)))), (0, vr 10 223), (1, vr 5 18)]) (st1 := [vl 0]) (h1 := xhp s) 2 (fun _ _ _ _ => rfl) ?_
      exact xW.locs (L := [(0, vr 10 223), (1, vr 5 18), (2, vi (imin (gI s 223 1) (11 - (gI s 18 1))))]) ⟨rfl, rfl, rfl, trivial⟩ rfl g
  · replace g := g.2 hc
    exact xW.retz (v0 := some (vi 0)) (h1 := xhp s) (c := (0 : Int32) = 0 ∨ (0 : Int32) = 1) 2 (fun _ _ _ _ => rfl) (Or.inl rfl) g
noncomputable def li_writeFixed_d (s : xS) : Bool × xS := (if (gI s 18 1) ≤ 11 then (if ((11 - (gI s 18 1)) - (imin (gI s 223 1) (11 - (gI s 18 1)))) ≤ 12 then (li_writeFixed_62 s (imin (gI s 223 1) (11 - (gI s 18 1))) (te_nearest s (labs (gJ s 18 0)) (iten ((11 - (gI s 18 1)) - (imin (gI s 223 1) (11 - (gI s 18 1))))) 0)) else (li_writeFixed_62 s (imin (gI s 223 1) (11 - (gI s 18 1))) 0)) else (false, s))
noncomputable def li_writeFixed : xS → Bool × xS := Classical.choose (⟨li_writeFixed_d, rfl⟩ : ∃ f, f = li_writeFixed_d)
set_option maxRecDepth 100000 in
theorem li_writeFixed_eq : li_writeFixed = li_writeFixed_d := Classical.choose_spec (⟨li_writeFixed_d, rfl⟩ : ∃ f, f = li_writeFixed_d)
def li_writeFixed_ok (s : xS) : Prop := ((gI s 18 1) ≤ 11 → ((((11 - (gI s 18 1)) - (imin (gI s 223 1) (11 - (gI s 18 1)))) ≤ 12 → ((vp_in ((11 - (gI s 18 1)) - (imin (gI s 223 1) (11 - (gI s 18 1)))) 19) ∧ ((te_nearest_ok s (labs (gJ s 18 0)) (iten ((11 - (gI s 18 1)) - (imin (gI s 223 1) (11 - (gI s 18 1))))) 0) ∧ (li_writeFixed_62_ok s (imin (gI s 223 1) (11 - (gI s 18 1))) (te_nearest s (labs (gJ s 18 0)) (iten ((11 - (gI s 18 1)) - (imin (gI s 223 1) (11 - (gI s 18 1))))) 0))))) ∧ (¬ (((11 - (gI s 18 1)) - (imin (gI s 223 1) (11 - (gI s 18 1)))) ≤ 12) → (li_writeFixed_62_ok s (imin (gI s 223 1) (11 - (gI s 18 1))) 0))))
set_option maxRecDepth 100000 in
theorem m171 {xs : Nat → Int32} {Ls : Nat} {Ψ : xO → xH → Prop} (s : xS) (gq : li_writeFixed_ok s) (h : Ψ (.inl (some (vi (zb (li_writeFixed s).1)))) (xhp (li_writeFixed s).2)) : xM (xX0 xs Ls) 171 [vr 10 223, vr 5 18] (xhp s) Ψ := by
  rw [li_writeFixed_eq] at h
  unfold li_writeFixed_d at h
  unfold li_writeFixed_ok at gq
  exact xM.of (P := p171) rfl rfl rfl (b171_0 s (⟨fun hc => by rw [if_pos hc] at h; replace gq := gq hc; exact ⟨fun hc => by rw [if_pos hc] at h; replace gq := gq.1 hc; exact ⟨gq.1, by replace gq := gq.2; exact ⟨gq.1, by replace gq := gq.2; exact n171_62 _ _ _ gq h⟩⟩, fun hc => by rw [if_neg hc] at h; replace gq := gq.2 hc; exact n171_62 _ _ _ gq h⟩, fun hc => by rw [if_neg hc] at h; exact (by (try dsimp only at h); exact h)⟩))
/-! li_writeScientific -/
theorem b172_81 {xs : Nat → Int32} {Ls : Nat} {Φ : Option xV → xH → Prop} (s : xS) (x6 : Int64) (x8 : Int32) (g : ((li_writeWithPoint_ok s x6 1 (gI s 223 1)) ∧ ((li_write_ok (li_writeWithPoint s x6 1 (gI s 223 1)) 69) ∧ ((li_write_ok (li_write (li_writeWithPoint s x6 1 (gI s 223 1)) 69) (if 0 ≤ x8 then (43 : Int32) else 45)) ∧ ((li_writeDigits_ok (li_write (li_write (li_writeWithPoint s x6 1 (gI s 223 1)) 69) (if 0 ≤ x8 then (43 : Int32) else 45)) ((iabs x8).toInt64) 2) ∧ Φ none (xhp (li_writeDigits (li_write (li_write (li_writeWithPoint s x6 1 (gI s 223 1)) 69) (if 0 ≤ x8 then (43 : Int32) else 45)) ((iabs x8).toInt64) 2))))))) : xW (xX0 xs Ls) p172 81 [(0, vr 10 223), (6, vl x6), (8, vi x8)] [] (xhp s) Φ := by
  refine xW.call (y := 173) (as := [vr 10 223, vl x6, vi 1, vi (gI s 223 1)]) (h0 := xhp s) (pc0 := 89) (len := 3) (L0 := [(0, vr 10 223), (6, vl x6), (8, vi x8)]) (rest := []) 6 (fun _ _ _ _ => rfl) (m173 _ _ _ _ g.1 ?_)
  show xW (xX0 xs Ls) p172 92 [(0, vr 10 223), (6, vl x6), (8, vi x8)] [] (xhp (li_writeWithPoint s x6 1 (gI s 223 1))) Φ
  replace g := g.2
  refine xW.call (y := 175) (as := [vr 10 223, vi 69]) (h0 := xhp (li_writeWithPoint s x6 1 (gI s 223 1))) (pc0 := 95) (len := 3) (L0 := [(0, vr 10 223), (6, vl x6), (8, vi x8)]) (rest := []) 3 (fun _ _ _ _ => rfl) (m175 _ _ g.1 ?_)
  show xW (xX0 xs Ls) p172 98 [(0, vr 10 223), (6, vl x6), (8, vi x8)] [] (xhp (li_write (li_writeWithPoint s x6 1 (gI s 223 1)) 69)) Φ
  replace g := g.2
  refine xW.seg (pc1 := 101) (L1 := [(0, vr 10 223), (6, vl x6), (8, vi x8)]) (st1 := [vi x8, vr 10 223]) (h1 := xhp (li_write (li_writeWithPoint s x6 1 (gI s 223 1)) 69)) 2 (fun _ _ _ _ => rfl) ?_
  suffices J : xW (xX0 xs Ls) p172 111 [(0, vr 10 223), (6, vl x6), (8, vi x8)] [vi (if 0 ≤ x8 then (43 : Int32) else 45), vr 10 223] (xhp (li_write (li_writeWithPoint s x6 1 (gI s 223 1)) 69)) Φ by
    refine xW.br (c := 0 ≤ x8) (pc1 := 109) (L1 := [(0, vr 10 223), (6, vl x6), (8, vi x8)]) (st1 := [vr 10 223]) (h1 := xhp (li_write (li_writeWithPoint s x6 1 (gI s 223 1)) 69)) (pc2 := 104) (L2 := [(0, vr 10 223), (6, vl x6), (8, vi x8)]) (st2 := [vr 10 223]) (h2 := xhp (li_write (li_writeWithPoint s x6 1 (gI s 223 1)) 69)) 1 (fun _ _ _ _ => rfl) (fun hc => ?_) (fun hc => ?_)
    · have hc1 : 0 ≤ x8 := hc
      refine xW.seg (pc1 := 111) (L1 := [(0, vr 10 223), (6, vl x6), (8, vi x8)]) (st1 := [vi 43, vr 10 223]) (h1 := xhp (li_write (li_writeWithPoint s x6 1 (gI s 223 1)) 69)) 1 (fun _ _ _ _ => rfl) ?_
      refine xW.to (v := vi (if 0 ≤ x8 then (43 : Int32) else 45)) ((congrArg vi (if_pos hc1)).symm) ?_
      exact J
    · have hc1 : ¬ (0 ≤ x8) := hc
      refine xW.seg (pc1 := 111) (L1 := [(0, vr 10 223), (6, vl x6), (8, vi x8)]) (st1 := [vi 45, vr 10 223]) (h1 := xhp (li_write (li_writeWithPoint s x6 1 (gI s 223 1)) 69)) 2 (fun _ _ _ _ => rfl) ?_
      refine xW.to (v := vi (if 0 ≤ x8 then (43 : Int32) else 45)) ((congrArg vi (if_neg hc1)).symm) ?_
      exact J
  refine xW.call (y := 175) (as := [vr 10 223, vi (if 0 ≤ x8 then (43 : Int32) else 45)]) (h0 := xhp (li_write (li_writeWithPoint s x6 1 (gI s 223 1)) 69)) (pc0 := 111) (len := 3) (L0 := [(0, vr 10 223), (6, vl x6), (8, vi x8)]) (rest := []) 1 (fun _ _ _ _ => rfl) (m175 _ _ g.1 ?_)
  show xW (xX0 xs Ls) p172 114 [(0, vr 10 223), (6, vl x6), (8, vi x8)] [] (xhp (li_write (li_write (li_writeWithPoint s x6 1 (gI s 223 1)) 69) (if 0 ≤ x8 then (43 : Int32) else 45))) Φ
  replace g := g.2
  refine xW.call (y := 174) (as := [vr 10 223, vl ((iabs x8).toInt64), vi 2]) (h0 := xhp (li_write (li_write (li_writeWithPoint s x6 1 (gI s 223 1)) 69) (if 0 ≤ x8 then (43 : Int32) else 45))) (pc0 := 122) (len := 3) (L0 := [(0, vr 10 223), (6, vl x6), (8, vi x8)]) (rest := []) 6 (fun _ _ _ _ => rfl) (m174 _ _ _ g.1 ?_)
  show xW (xX0 xs Ls) p172 125 [(0, vr 10 223), (6, vl x6), (8, vi x8)] [] (xhp (li_writeDigits (li_write (li_write (li_writeWithPoint s x6 1 (gI s 223 1)) 69) (if 0 ≤ x8 then (43 : Int32) else 45)) ((iabs x8).toInt64) 2)) Φ
  replace g := g.2
  exact xW.ret (v0 := none) (h1 := xhp (li_writeDigits (li_write (li_write (li_writeWithPoint s x6 1 (gI s 223 1)) 69) (if 0 ≤ x8 then (43 : Int32) else 45)) ((iabs x8).toInt64) 2)) 1 (fun _ _ _ _ => rfl) g
noncomputable def li_writeScientific_81_d (s : xS) (x6 : Int64) (x8 : Int32) : xS := (li_writeDigits (li_write (li_write (li_writeWithPoint s x6 1 (gI s 223 1)) 69) (if 0 ≤ x8 then (43 : Int32) else 45)) ((iabs x8).toInt64) 2)
noncomputable def li_writeScientific_81 : xS → Int64 → Int32 → xS := Classical.choose (⟨li_writeScientific_81_d, rfl⟩ : ∃ f, f = li_writeScientific_81_d)
set_option maxRecDepth 100000 in
theorem li_writeScientific_81_eq : li_writeScientific_81 = li_writeScientific_81_d := Classical.choose_spec (⟨li_writeScientific_81_d, rfl⟩ : ∃ f, f = li_writeScientific_81_d)
def li_writeScientific_81_ok (s : xS) (x6 : Int64) (x8 : Int32) : Prop := ((li_writeWithPoint_ok s x6 1 (gI s 223 1)) ∧ ((li_write_ok (li_writeWithPoint s x6 1 (gI s 223 1)) 69) ∧ ((li_write_ok (li_write (li_writeWithPoint s x6 1 (gI s 223 1)) 69) (if 0 ≤ x8 then (43 : Int32) else 45)) ∧ (li_writeDigits_ok (li_write (li_write (li_writeWithPoint s x6 1 (gI s 223 1)) 69) (if 0 ≤ x8 then (43 : Int32) else 45)) ((iabs x8).toInt64) 2))))
set_option maxRecDepth 100000 in
theorem n172_81 {xs : Nat → Int32} {Ls : Nat} {Φ : Option xV → xH → Prop} (s : xS) (x6 : Int64) (x8 : Int32) (gq : li_writeScientific_81_ok s x6 x8) (h : Φ none (xhp (li_writeScientific_81 s x6 x8))) : xW (xX0 xs Ls) p172 81 [(0, vr 10 223), (6, vl x6), (8, vi x8)] [] (xhp s) Φ := by
  rw [li_writeScientific_81_eq] at h
  unfold li_writeScientific_81_d at h
  unfold li_writeScientific_81_ok at gq
  exact b172_81 s x6 x8 (⟨gq.1, by replace gq := gq.2; exact ⟨gq.1, by replace gq := gq.2; exact ⟨gq.1, by replace gq := gq.2; exact ⟨gq, h⟩⟩⟩⟩)
set_option maxRecDepth 100000 in
theorem b172_0 {xs : Nat → Int32} {Ls : Nat} {Φ : Option xV → xH → Prop} (s : xS) (g : ((vp_in (11 - (gI s 223 1)) 19) ∧ ((te_nearest_ok s (labs (gJ s 18 0)) (iten (11 - (gI s 223 1))) 0) ∧ ((vp_in ((gI s 223 1) + 1) 19) ∧ ((¬ (te_nearest s (labs (gJ s 18 0)) (iten (11 - (gI s 223 1))) 0) = (iten ((gI s 223 1) + 1)) → xW (xX0 xs Ls) p172 81 [(0, vr 10 223), (6, vl (te_nearest s (labs (gJ s 18 0)) (iten (11 - (gI s 223 1))) 0)), (8, vi (gI s 18 1))] [] (xhp s) Φ) ∧ ((te_nearest s (labs (gJ s 18 0)) (iten (11 - (gI s 223 1))) 0) = (iten ((gI s 223 1) + 1)) → ((¬ (gI s 18 1) = 99 → ((vp_in (gI s 223 1) 19) ∧ xW (xX0 xs Ls) p172 81 [(0, vr 10 223), (6, vl (iten (gI s 223 1))), (8, vi ((gI s 18 1) + 1))] [] (xhp s) Φ)) ∧ ((gI s 18 1) = 99 → ((¬ (iten (11 - (gI s 223 1))) = 0) ∧ xW (xX0 xs Ls) p172 81 [(0, vr 10 223), (6, vl ((labs (gJ s 18 0)) / (iten (11 - (gI s 223 1))))), (8, vi (gI s 18 1))] [] (xhp s) Φ))))))))) : xW (xX0 xs Ls) p172 0 [(0, vr 10 223), (1, vr 5 18)] [] (xhp s) Φ := by
  refine xW.side (c := vp_in (11 - (gI s 223 1)) 19) (pc1 := 11) (L1 := [(0, vr 10 223), (1, vr 5 18)]) (st1 := [vl (iten (11 - (gI s 223 1)))]) (h1 := xhp s) 6 (fun _ _ _ _ => rfl) g.1 ?_
  replace g := g.2
  refine xW.call (y := 29) (as := [vl (labs (gJ s 18 0)), vl (iten (11 - (gI s 223 1))), vi 0]) (h0 := xhp s) (pc0 := 25) (len := 3) (L0 := [(4, vl (labs (gJ s 18 0))), (2, vl (iten (11 - (gI s 223 1)))), (0, vr 10 223), (1, vr 5 18)]) (rest := []) 9 (fun _ _ _ _ => rfl) (m29 _ _ _ _ g.1 ?_)
  show xW (xX0 xs Ls) p172 28 [(4, vl (labs (gJ s 18 0))), (2, vl (iten (11 - (gI s 223 1)))), (0, vr 10 223), (1, vr 5 18)] [vl (te_nearest s (labs (gJ s 18 0)) (iten (11 - (gI s 223 1))) 0)] (xhp s) Φ
  replace g := g.2
  refine xW.side (c := vp_in ((gI s 223 1) + 1) 19) (pc1 := 48) (L1 := [(8, vi (gI s 18 1)), (6, vl (te_nearest s (labs (gJ s 18 0)) (iten (11 - (gI s 223 1))) 0)), (4, vl (labs (gJ s 18 0))), (2, vl (iten (11 - (gI s 223 1)))), (0, vr 10 223), (1, vr 5 18)]) (st1 := [vl (iten ((gI s 223 1) + 1)), vl (te_nearest s (labs (gJ s 18 0)) (iten (11 - (gI s 223 1))) 0)]) (h1 := xhp s) 11 (fun _ _ _ _ => rfl) g.1 ?_
  replace g := g.2
  refine xW.br (c := ¬ (lg_cmp (te_nearest s (labs (gJ s 18 0)) (iten (11 - (gI s 223 1))) 0) (iten ((gI s 223 1) + 1))) = 0) (pc1 := 81) (L1 := [(8, vi (gI s 18 1)), (6, vl (te_nearest s (labs (gJ s 18 0)) (iten (11 - (gI s 223 1))) 0)), (4, vl (labs (gJ s 18 0))), (2, vl (iten (11 - (gI s 223 1)))), (0, vr 10 223), (1, vr 5 18)]) (st1 := []) (h1 := xhp s) (pc2 := 52) (L2 := [(8, vi (gI s 18 1)), (6, vl (te_nearest s (labs (gJ s 18 0)) (iten (11 - (gI s 223 1))) 0)), (4, vl (labs (gJ s 18 0))), (2, vl (iten (11 - (gI s 223 1)))), (0, vr 10 223), (1, vr 5 18)]) (st2 := []) (h2 := xhp s) 2 (fun _ _ _ _ => rfl) (fun hc => ?_) (fun hc => ?_)
  · replace g := g.1 (fun q => hc (lc_eq.mpr q))
    exact xW.locs (L := [(0, vr 10 223), (6, vl (te_nearest s (labs (gJ s 18 0)) (iten (11 - (gI s 223 1))) 0)), (8, vi (gI s 18 1))]) ⟨rfl, rfl, rfl, trivial⟩ rfl g
  · replace g := g.2 (lc_eq.mp (Decidable.not_not.mp hc))
    refine xW.br (c := ¬ (gI s 18 1) = 99) (pc1 := 68) (L1 := [(8, vi (gI s 18 1)), (6, vl (te_nearest s (labs (gJ s 18 0)) (iten (11 - (gI s 223 1))) 0)), (4, vl (labs (gJ s 18 0))), (2, vl (iten (11 - (gI s 223 1)))), (0, vr 10 223), (1, vr 5 18)]) (st1 := []) (h1 := xhp s) (pc2 := 59) (L2 := [(8, vi (gI s 18 1)), (6, vl (te_nearest s (labs (gJ s 18 0)) (iten (11 - (gI s 223 1))) 0)), (4, vl (labs (gJ s 18 0))), (2, vl (iten (11 - (gI s 223 1)))), (0, vr 10 223), (1, vr 5 18)]) (st2 := []) (h2 := xhp s) 3 (fun _ _ _ _ => rfl) (fun hc => ?_) (fun hc => ?_)
    · replace g := g.1 hc
      refine xW.side (c := vp_in (gI s 223 1) 19) (pc1 := 76) (L1 := [(8, vi (gI s 18 1)), (6, vl (te_nearest s (labs (gJ s 18 0)) (iten (11 - (gI s 223 1))) 0)), (4, vl (labs (gJ s 18 0))), (2, vl (iten (11 - (gI s 223 1)))), (0, vr 10 223), (1, vr 5 18)]) (st1 := [vl (iten (gI s 223 1))]) (h1 := xhp s) 4 (fun _ _ _ _ => rfl) g.1 ?_
      replace g := g.2
      refine xW.seg (pc1 := 81) (L1 := [(8, vi ((gI s 18 1) + 1)), (6, vl (iten (gI s 223 1))), (4, vl (labs (gJ s 18 0))), (2, vl (iten (11 - (gI s 223 1)))), (0, vr 10 223), (1, vr 5 18)]) (st1 := []) (h1 := xhp s) 2 (fun _ _ _ _ => rfl) ?_
      exact xW.locs (L := [(0, vr 10 223), (6, vl (iten (gI s 223 1))), (8, vi ((gI s 18 1) + 1))]) ⟨rfl, rfl, rfl, trivial⟩ rfl g
    · replace g := g.2 (Decidable.not_not.mp hc)
      refine xW.side (c := ¬ (iten (11 - (gI s 223 1))) = 0) (pc1 := 63) (L1 := [(8, vi (gI s 18 1)), (6, vl (te_nearest s (labs (gJ s 18 0)) (iten (11 - (gI s 223 1))) 0)), (4, vl (labs (gJ s 18 0))), (2, vl (iten (11 - (gI s 223 1)))), (0, vr 10 223), (1, vr 5 18)]) (st1 := [vl ((labs (gJ s 18 0)) / (iten (11 - (gI s 223 1))))]) (h1 := xhp s) 3 (fun _ _ _ _ => rfl) g.1 ?_
      replace g := g.2
      refine xW.seg (pc1 := 81) (L1 := [(6, vl ((labs (gJ s 18 0)) / (iten (11 - (gI s 223 1))))), (8, vi (gI s 18 1)), (4, vl (labs (gJ s 18 0))), (2, vl (iten (11 - (gI s 223 1)))), (0, vr 10 223), (1, vr 5 18)]) (st1 := []) (h1 := xhp s) 2 (fun _ _ _ _ => rfl) ?_
      exact xW.locs (L := [(0, vr 10 223), (6, vl ((labs (gJ s 18 0)) / (iten (11 - (gI s 223 1))))), (8, vi (gI s 18 1))]) ⟨rfl, rfl, rfl, trivial⟩ rfl g
noncomputable def li_writeScientific_d (s : xS) : xS := (if ¬ (te_nearest s (labs (gJ s 18 0)) (iten (11 - (gI s 223 1))) 0) = (iten ((gI s 223 1) + 1)) then (li_writeScientific_81 s (te_nearest s (labs (gJ s 18 0)) (iten (11 - (gI s 223 1))) 0) (gI s 18 1)) else (if ¬ (gI s 18 1) = 99 then (li_writeScientific_81 s (iten (gI s 223 1)) ((gI s 18 1) + 1)) else (li_writeScientific_81 s ((labs (gJ s 18 0)) / (iten (11 - (gI s 223 1)))) (gI s 18 1))))
noncomputable def li_writeScientific : xS → xS := Classical.choose (⟨li_writeScientific_d, rfl⟩ : ∃ f, f = li_writeScientific_d)
set_option maxRecDepth 100000 in
theorem li_writeScientific_eq : li_writeScientific = li_writeScientific_d := Classical.choose_spec (⟨li_writeScientific_d, rfl⟩ : ∃ f, f = li_writeScientific_d)
def li_writeScientific_ok (s : xS) : Prop := ((vp_in (11 - (gI s 223 1)) 19) ∧ ((te_nearest_ok s (labs (gJ s 18 0)) (iten (11 - (gI s 223 1))) 0) ∧ ((vp_in ((gI s 223 1) + 1) 19) ∧ ((¬ (te_nearest s (labs (gJ s 18 0)) (iten (11 - (gI s 223 1))) 0) = (iten ((gI s 223 1) + 1)) → (li_writeScientific_81_ok s (te_nearest s (labs (gJ s 18 0)) (iten (11 - (gI s 223 1))) 0) (gI s 18 1))) ∧ ((te_nearest s (labs (gJ s 18 0)) (iten (11 - (gI s 223 1))) 0) = (iten ((gI s 223 1) + 1)) → ((¬ (gI s 18 1) = 99 → ((vp_in (gI s 223 1) 19) ∧ (li_writeScientific_81_ok s (iten (gI s 223 1)) ((gI s 18 1) + 1)))) ∧ ((gI s 18 1) = 99 → ((¬ (iten (11 - (gI s 223 1))) = 0) ∧ (li_writeScientific_81_ok s ((labs (gJ s 18 0)) / (iten (11 - (gI s 223 1)))) (gI s 18 1))))))))))
set_option maxRecDepth 100000 in
theorem m172 {xs : Nat → Int32} {Ls : Nat} {Ψ : xO → xH → Prop} (s : xS) (gq : li_writeScientific_ok s) (h : Ψ (.inl none) (xhp (li_writeScientific s))) : xM (xX0 xs Ls) 172 [vr 10 223, vr 5 18] (xhp s) Ψ := by
  rw [li_writeScientific_eq] at h
  unfold li_writeScientific_d at h
  unfold li_writeScientific_ok at gq
  exact xM.of (P := p172) rfl rfl rfl (b172_0 s (⟨gq.1, by replace gq := gq.2; exact ⟨gq.1, by replace gq := gq.2; exact ⟨gq.1, by replace gq := gq.2; exact ⟨fun hc => by rw [if_pos hc] at h; replace gq := gq.1 hc; exact n172_81 _ _ _ gq h, fun hc => by rw [if_neg (fun z => z hc)] at h; replace gq := gq.2 hc; exact ⟨fun hc => by rw [if_pos hc] at h; replace gq := gq.1 hc; exact ⟨gq.1, by replace gq := gq.2; exact n172_81 _ _ _ gq h⟩, fun hc => by rw [if_neg (fun z => z hc)] at h; replace gq := gq.2 hc; exact ⟨gq.1, by replace gq := gq.2; exact n172_81 _ _ _ gq h⟩⟩⟩⟩⟩⟩))
/-! li_writeNumber -/
theorem b170_33 {xs : Nat → Int32} {Ls : Nat} {Φ : Option xV → xH → Prop} (s : xS) (g : ((li_writeScientific_ok s) ∧ Φ none (xhp (li_writeScientific s)))) : xW (xX0 xs Ls) p170 33 [(0, vr 10 223), (1, vr 5 18)] [] (xhp s) Φ := by
  refine xW.call (y := 172) (as := [vr 10 223, vr 5 18]) (h0 := xhp s) (pc0 := 35) (len := 3) (L0 := [(0, vr 10 223), (1, vr 5 18)]) (rest := []) 3 (fun _ _ _ _ => rfl) (m172 _ g.1 ?_)
  show xW (xX0 xs Ls) p170 38 [(0, vr 10 223), (1, vr 5 18)] [] (xhp (li_writeScientific s)) Φ
  replace g := g.2
  exact xW.ret (v0 := none) (h1 := xhp (li_writeScientific s)) 1 (fun _ _ _ _ => rfl) g
noncomputable def li_writeNumber_33_d (s : xS) : xS := (li_writeScientific s)
noncomputable def li_writeNumber_33 : xS → xS := Classical.choose (⟨li_writeNumber_33_d, rfl⟩ : ∃ f, f = li_writeNumber_33_d)
set_option maxRecDepth 100000 in
theorem li_writeNumber_33_eq : li_writeNumber_33 = li_writeNumber_33_d := Classical.choose_spec (⟨li_writeNumber_33_d, rfl⟩ : ∃ f, f = li_writeNumber_33_d)
def li_writeNumber_33_ok (s : xS) : Prop := (li_writeScientific_ok s)
set_option maxRecDepth 100000 in
theorem n170_33 {xs : Nat → Int32} {Ls : Nat} {Φ : Option xV → xH → Prop} (s : xS) (gq : li_writeNumber_33_ok s) (h : Φ none (xhp (li_writeNumber_33 s))) : xW (xX0 xs Ls) p170 33 [(0, vr 10 223), (1, vr 5 18)] [] (xhp s) Φ := by
  rw [li_writeNumber_33_eq] at h
  unfold li_writeNumber_33_d at h
  unfold li_writeNumber_33_ok at gq
  exact b170_33 s (⟨gq, h⟩)
set_option maxRecDepth 100000 in
theorem b170_0 {xs : Nat → Int32} {Ls : Nat} {Φ : Option xV → xH → Prop} (s : xS) (g : ((li_write_ok s (if (de_isBelowZero s 18) = true then (45 : Int32) else 32)) ∧ ((¬ (gI (li_write s (if (de_isBelowZero s 18) = true then (45 : Int32) else 32)) 223 0) = 0 → xW (xX0 xs Ls) p170 33 [(0, vr 10 223), (1, vr 5 18)] [] (xhp (li_write s (if (de_isBelowZero s 18) = true then (45 : Int32) else 32))) Φ) ∧ ((gI (li_write s (if (de_isBelowZero s 18) = true then (45 : Int32) else 32)) 223 0) = 0 → ((li_writeFixed_ok (li_write s (if (de_isBelowZero s 18) = true then (45 : Int32) else 32))) ∧ (((li_writeFixed (li_write s (if (de_isBelowZero s 18) = true then (45 : Int32) else 32))).1 = true → Φ none (xhp ((li_writeFixed (li_write s (if (de_isBelowZero s 18) = true then (45 : Int32) else 32))).2))) ∧ ((li_writeFixed (li_write s (if (de_isBelowZero s 18) = true then (45 : Int32) else 32))).1 = false → xW (xX0 xs Ls) p170 33 [(0, vr 10 223), (1, vr 5 18)] [] (xhp ((li_writeFixed (li_write s (if (de_isBelowZero s 18) = true then (45 : Int32) else 32))).2)) Φ))))))) : xW (xX0 xs Ls) p170 0 [(0, vr 10 223), (1, vr 5 18)] [] (xhp s) Φ := by
  refine xW.call (y := 140) (as := [vr 5 18]) (h0 := xhp s) (pc0 := 2) (len := 3) (L0 := [(0, vr 10 223), (1, vr 5 18)]) (rest := [vr 10 223]) 3 (fun _ _ _ _ => rfl) (m140 _ _ ?_)
  show xW (xX0 xs Ls) p170 5 [(0, vr 10 223), (1, vr 5 18)] [vi (zb (de_isBelowZero s 18)), vr 10 223] (xhp s) Φ
  suffices J : xW (xX0 xs Ls) p170 15 [(0, vr 10 223), (1, vr 5 18)] [vi (if (de_isBelowZero s 18) = true then (45 : Int32) else 32), vr 10 223] (xhp s) Φ by
    refine xW.br (c := (zb (de_isBelowZero s 18)) = 0) (pc1 := 13) (L1 := [(0, vr 10 223), (1, vr 5 18)]) (st1 := [vr 10 223]) (h1 := xhp s) (pc2 := 8) (L2 := [(0, vr 10 223), (1, vr 5 18)]) (st2 := [vr 10 223]) (h2 := xhp s) 1 (fun _ _ _ _ => rfl) (fun hc => ?_) (fun hc => ?_)
    · have hc1 : (de_isBelowZero s 18) = false := (zb_eq0.mp hc)
      refine xW.seg (pc1 := 15) (L1 := [(0, vr 10 223), (1, vr 5 18)]) (st1 := [vi 32, vr 10 223]) (h1 := xhp s) 1 (fun _ _ _ _ => rfl) ?_
      refine xW.to (v := vi (if (de_isBelowZero s 18) = true then (45 : Int32) else 32)) ((congrArg vi (if_neg (by rw [hc1]; decide : ¬ ((de_isBelowZero s 18) = true)))).symm) ?_
      exact J
    · have hc1 : (de_isBelowZero s 18) = true := (zb_ne0.mp hc)
      refine xW.seg (pc1 := 15) (L1 := [(0, vr 10 223), (1, vr 5 18)]) (st1 := [vi 45, vr 10 223]) (h1 := xhp s) 2 (fun _ _ _ _ => rfl) ?_
      refine xW.to (v := vi (if (de_isBelowZero s 18) = true then (45 : Int32) else 32)) ((congrArg vi (if_pos hc1)).symm) ?_
      exact J
  refine xW.call (y := 175) (as := [vr 10 223, vi (if (de_isBelowZero s 18) = true then (45 : Int32) else 32)]) (h0 := xhp s) (pc0 := 15) (len := 3) (L0 := [(0, vr 10 223), (1, vr 5 18)]) (rest := []) 1 (fun _ _ _ _ => rfl) (m175 _ _ g.1 ?_)
  show xW (xX0 xs Ls) p170 18 [(0, vr 10 223), (1, vr 5 18)] [] (xhp (li_write s (if (de_isBelowZero s 18) = true then (45 : Int32) else 32))) Φ
  replace g := g.2
  refine xW.br (c := ¬ (gI (li_write s (if (de_isBelowZero s 18) = true then (45 : Int32) else 32)) 223 0) = 0) (pc1 := 33) (L1 := [(0, vr 10 223), (1, vr 5 18)]) (st1 := []) (h1 := xhp (li_write s (if (de_isBelowZero s 18) = true then (45 : Int32) else 32))) (pc2 := 25) (L2 := [(0, vr 10 223), (1, vr 5 18)]) (st2 := []) (h2 := xhp (li_write s (if (de_isBelowZero s 18) = true then (45 : Int32) else 32))) 3 (fun _ _ _ _ => rfl) (fun hc => ?_) (fun hc => ?_)
  · replace g := g.1 hc
    exact g
  · replace g := g.2 (Decidable.not_not.mp hc)
    refine xW.call (y := 171) (as := [vr 10 223, vr 5 18]) (h0 := xhp (li_write s (if (de_isBelowZero s 18) = true then (45 : Int32) else 32))) (pc0 := 27) (len := 3) (L0 := [(0, vr 10 223), (1, vr 5 18)]) (rest := []) 3 (fun _ _ _ _ => rfl) (m171 _ g.1 ?_)
    show xW (xX0 xs Ls) p170 30 [(0, vr 10 223), (1, vr 5 18)] [vi (zb ((li_writeFixed (li_write s (if (de_isBelowZero s 18) = true then (45 : Int32) else 32))).1))] (xhp ((li_writeFixed (li_write s (if (de_isBelowZero s 18) = true then (45 : Int32) else 32))).2)) Φ
    replace g := g.2
    refine xW.br (c := ¬ (zb ((li_writeFixed (li_write s (if (de_isBelowZero s 18) = true then (45 : Int32) else 32))).1)) = 0) (pc1 := 38) (L1 := [(0, vr 10 223), (1, vr 5 18)]) (st1 := []) (h1 := xhp ((li_writeFixed (li_write s (if (de_isBelowZero s 18) = true then (45 : Int32) else 32))).2)) (pc2 := 33) (L2 := [(0, vr 10 223), (1, vr 5 18)]) (st2 := []) (h2 := xhp ((li_writeFixed (li_write s (if (de_isBelowZero s 18) = true then (45 : Int32) else 32))).2)) 1 (fun _ _ _ _ => rfl) (fun hc => ?_) (fun hc => ?_)
    · replace g := g.1 (zb_ne0.mp hc)
      exact xW.ret (v0 := none) (h1 := xhp ((li_writeFixed (li_write s (if (de_isBelowZero s 18) = true then (45 : Int32) else 32))).2)) 1 (fun _ _ _ _ => rfl) g
    · replace g := g.2 (zb_eq0.mp (Decidable.not_not.mp hc))
      exact g
noncomputable def li_writeNumber_d (s : xS) : xS := (if ¬ (gI (li_write s (if (de_isBelowZero s 18) = true then (45 : Int32) else 32)) 223 0) = 0 then (li_writeNumber_33 (li_write s (if (de_isBelowZero s 18) = true then (45 : Int32) else 32))) else (if (li_writeFixed (li_write s (if (de_isBelowZero s 18) = true then (45 : Int32) else 32))).1 = true then ((li_writeFixed (li_write s (if (de_isBelowZero s 18) = true then (45 : Int32) else 32))).2) else (li_writeNumber_33 ((li_writeFixed (li_write s (if (de_isBelowZero s 18) = true then (45 : Int32) else 32))).2))))
noncomputable def li_writeNumber : xS → xS := Classical.choose (⟨li_writeNumber_d, rfl⟩ : ∃ f, f = li_writeNumber_d)
set_option maxRecDepth 100000 in
theorem li_writeNumber_eq : li_writeNumber = li_writeNumber_d := Classical.choose_spec (⟨li_writeNumber_d, rfl⟩ : ∃ f, f = li_writeNumber_d)
def li_writeNumber_ok (s : xS) : Prop := ((li_write_ok s (if (de_isBelowZero s 18) = true then (45 : Int32) else 32)) ∧ ((¬ (gI (li_write s (if (de_isBelowZero s 18) = true then (45 : Int32) else 32)) 223 0) = 0 → (li_writeNumber_33_ok (li_write s (if (de_isBelowZero s 18) = true then (45 : Int32) else 32)))) ∧ ((gI (li_write s (if (de_isBelowZero s 18) = true then (45 : Int32) else 32)) 223 0) = 0 → ((li_writeFixed_ok (li_write s (if (de_isBelowZero s 18) = true then (45 : Int32) else 32))) ∧ ((li_writeFixed (li_write s (if (de_isBelowZero s 18) = true then (45 : Int32) else 32))).1 = false → (li_writeNumber_33_ok ((li_writeFixed (li_write s (if (de_isBelowZero s 18) = true then (45 : Int32) else 32))).2)))))))
set_option maxRecDepth 100000 in
theorem m170 {xs : Nat → Int32} {Ls : Nat} {Ψ : xO → xH → Prop} (s : xS) (gq : li_writeNumber_ok s) (h : Ψ (.inl none) (xhp (li_writeNumber s))) : xM (xX0 xs Ls) 170 [vr 10 223, vr 5 18] (xhp s) Ψ := by
  rw [li_writeNumber_eq] at h
  unfold li_writeNumber_d at h
  unfold li_writeNumber_ok at gq
  exact xM.of (P := p170) rfl rfl rfl (b170_0 s (⟨gq.1, by replace gq := gq.2; exact ⟨fun hc => by rw [if_pos hc] at h; replace gq := gq.1 hc; exact n170_33 _ gq h, fun hc => by rw [if_neg (fun z => z hc)] at h; replace gq := gq.2 hc; exact ⟨gq.1, by replace gq := gq.2; exact ⟨fun hc => by rw [if_pos hc] at h; exact h, fun hc => by rw [if_neg (by rw [hc]; decide)] at h; replace gq := gq hc; exact n170_33 _ gq h⟩⟩⟩⟩))
/-! li_part -/
theorem b167_6 {xs : Nat → Int32} {Ls : Nat} {Φ : Option xV → xH → Prop} (s : xS) (x1 : Int32) (x2 : Int64) (x4 : Int32) (g : ((x4 < 0 → Φ (some (vl x2)) (xhp s)) ∧ (¬ (x4 < 0) → ((20 ≤ ((8 * x1) + x4) → xW (xX0 xs Ls) p167 6 [(0, vr 10 223), (1, vi x1), (2, vl ((x2 <<< ((8 : Int32).toInt64 &&& 63)) ||| ((0 : Int32).toInt64))), (4, vi (x4 + (-1)))] [] (xhp s) Φ) ∧ (¬ (20 ≤ ((8 * x1) + x4)) → (((gI s 223 3) ≤ ((8 * x1) + x4) → xW (xX0 xs Ls) p167 6 [(0, vr 10 223), (1, vi x1), (2, vl ((x2 <<< ((8 : Int32).toInt64 &&& 63)) ||| ((32 : Int32).toInt64))), (4, vi (x4 + (-1)))] [] (xhp s) Φ) ∧ (¬ ((gI s 223 3) ≤ ((8 * x1) + x4)) → ((vp_in ((8 * x1) + x4) 20) ∧ xW (xX0 xs Ls) p167 6 [(0, vr 10 223), (1, vi x1), (2, vl ((x2 <<< ((8 : Int32).toInt64 &&& 63)) ||| ((gI s 224 (((8 * x1) + x4).toNatClampNeg)).toInt64))), (4, vi (x4 + (-1)))] [] (xhp s) Φ)))))))) : xW (xX0 xs Ls) p167 6 [(0, vr 10 223), (1, vi x1), (2, vl x2), (4, vi x4)] [] (xhp s) Φ := by
  refine xW.br (c := x4 < 0) (pc1 := 68) (L1 := [(0, vr 10 223), (1, vi x1), (2, vl x2), (4, vi x4)]) (st1 := []) (h1 := xhp s) (pc2 := 11) (L2 := [(0, vr 10 223), (1, vi x1), (2, vl x2), (4, vi x4)]) (st2 := []) (h2 := xhp s) 2 (fun _ _ _ _ => rfl) (fun hc => ?_) (fun hc => ?_)
  · replace g := g.1 hc
    exact xW.ret (v0 := some (vl x2)) (h1 := xhp s) 2 (fun _ _ _ _ => rfl) g
  · replace g := g.2 hc
    refine xW.br (c := 20 ≤ ((8 * x1) + x4)) (pc1 := 53) (L1 := [(6, vi 0), (5, vi ((8 * x1) + x4)), (0, vr 10 223), (1, vi x1), (2, vl x2), (4, vi x4)]) (st1 := []) (h1 := xhp s) (pc2 := 30) (L2 := [(6, vi 0), (5, vi ((8 * x1) + x4)), (0, vr 10 223), (1, vi x1), (2, vl x2), (4, vi x4)]) (st2 := []) (h2 := xhp s) 11 (fun _ _ _ _ => rfl) (fun hc => ?_) (fun hc => ?_)
    · replace g := g.1 hc
      refine xW.seg (pc1 := 6) (L1 := [(4, vi (x4 + (-1))), (2, vl ((x2 <<< ((8 : Int32).toInt64 &&& 63)) ||| ((0 : Int32).toInt64))), (6, vi 0), (5, vi ((8 * x1) + x4)), (0, vr 10 223), (1, vi x1)]) (st1 := []) (h1 := xhp s) 9 (fun _ _ _ _ => rfl) ?_
      exact xW.locs (L := [(0, vr 10 223), (1, vi x1), (2, vl ((x2 <<< ((8 : Int32).toInt64 &&& 63)) ||| ((0 : Int32).toInt64))), (4, vi (x4 + (-1)))]) ⟨rfl, rfl, rfl, rfl, trivial⟩ rfl g
    · replace g := g.2 hc
      refine xW.br (c := (gI s 223 3) ≤ ((8 * x1) + x4)) (pc1 := 49) (L1 := [(6, vi 0), (5, vi ((8 * x1) + x4)), (0, vr 10 223), (1, vi x1), (2, vl x2), (4, vi x4)]) (st1 := []) (h1 := xhp s) (pc2 := 39) (L2 := [(6, vi 0), (5, vi ((8 * x1) + x4)), (0, vr 10 223), (1, vi x1), (2, vl x2), (4, vi x4)]) (st2 := []) (h2 := xhp s) 4 (fun _ _ _ _ => rfl) (fun hc => ?_) (fun hc => ?_)
      · replace g := g.1 hc
        refine xW.seg (pc1 := 6) (L1 := [(4, vi (x4 + (-1))), (2, vl ((x2 <<< ((8 : Int32).toInt64 &&& 63)) ||| ((32 : Int32).toInt64))), (6, vi 32), (5, vi ((8 * x1) + x4)), (0, vr 10 223), (1, vi x1)]) (st1 := []) (h1 := xhp s) 11 (fun _ _ _ _ => rfl) ?_
        exact xW.locs (L := [(0, vr 10 223), (1, vi x1), (2, vl ((x2 <<< ((8 : Int32).toInt64 &&& 63)) ||| ((32 : Int32).toInt64))), (4, vi (x4 + (-1)))]) ⟨rfl, rfl, rfl, rfl, trivial⟩ rfl g
      · replace g := g.2 hc
        refine xW.side (c := vp_in ((8 * x1) + x4) 20) (pc1 := 46) (L1 := [(6, vi 0), (5, vi ((8 * x1) + x4)), (0, vr 10 223), (1, vi x1), (2, vl x2), (4, vi x4)]) (st1 := [vi (gI s 224 (((8 * x1) + x4).toNatClampNeg))]) (h1 := xhp s) 4 (fun _ _ _ _ => rfl) g.1 ?_
        replace g := g.2
        refine xW.seg (pc1 := 6) (L1 := [(4, vi (x4 + (-1))), (2, vl ((x2 <<< ((8 : Int32).toInt64 &&& 63)) ||| ((gI s 224 (((8 * x1) + x4).toNatClampNeg)).toInt64))), (6, vi (gI s 224 (((8 * x1) + x4).toNatClampNeg))), (5, vi ((8 * x1) + x4)), (0, vr 10 223), (1, vi x1)]) (st1 := []) (h1 := xhp s) 11 (fun _ _ _ _ => rfl) ?_
        exact xW.locs (L := [(0, vr 10 223), (1, vi x1), (2, vl ((x2 <<< ((8 : Int32).toInt64 &&& 63)) ||| ((gI s 224 (((8 * x1) + x4).toNatClampNeg)).toInt64))), (4, vi (x4 + (-1)))]) ⟨rfl, rfl, rfl, rfl, trivial⟩ rfl g
noncomputable def li_part_6 : Nat → xS → Int32 → Int64 → Int32 → Int64
  | 0, s, _, _, _ => 0
  | n + 1, s, x1, x2, x4 => (if x4 < 0 then x2 else (if 20 ≤ ((8 * x1) + x4) then (li_part_6 n s x1 ((x2 <<< ((8 : Int32).toInt64 &&& 63)) ||| ((0 : Int32).toInt64)) (x4 + (-1))) else (if (gI s 223 3) ≤ ((8 * x1) + x4) then (li_part_6 n s x1 ((x2 <<< ((8 : Int32).toInt64 &&& 63)) ||| ((32 : Int32).toInt64)) (x4 + (-1))) else (li_part_6 n s x1 ((x2 <<< ((8 : Int32).toInt64 &&& 63)) ||| ((gI s 224 (((8 * x1) + x4).toNatClampNeg)).toInt64)) (x4 + (-1))))))
def li_part_6_ok : Nat → xS → Int32 → Int64 → Int32 → Prop
  | 0, _, _, _, _ => False
  | n + 1, s, x1, x2, x4 => (¬ (x4 < 0) → ((20 ≤ ((8 * x1) + x4) → (li_part_6_ok n s x1 ((x2 <<< ((8 : Int32).toInt64 &&& 63)) ||| ((0 : Int32).toInt64)) (x4 + (-1)))) ∧ (¬ (20 ≤ ((8 * x1) + x4)) → (((gI s 223 3) ≤ ((8 * x1) + x4) → (li_part_6_ok n s x1 ((x2 <<< ((8 : Int32).toInt64 &&& 63)) ||| ((32 : Int32).toInt64)) (x4 + (-1)))) ∧ (¬ ((gI s 223 3) ≤ ((8 * x1) + x4)) → ((vp_in ((8 * x1) + x4) 20) ∧ (li_part_6_ok n s x1 ((x2 <<< ((8 : Int32).toInt64 &&& 63)) ||| ((gI s 224 (((8 * x1) + x4).toNatClampNeg)).toInt64)) (x4 + (-1)))))))))
set_option maxRecDepth 100000 in
theorem n167_6 {xs : Nat → Int32} {Ls : Nat} {Φ : Option xV → xH → Prop} : ∀ (n : Nat) (s : xS) (x1 : Int32) (x2 : Int64) (x4 : Int32), li_part_6_ok n s x1 x2 x4 → Φ (some (vl (li_part_6 n s x1 x2 x4))) (xhp s) → xW (xX0 xs Ls) p167 6 [(0, vr 10 223), (1, vi x1), (2, vl x2), (4, vi x4)] [] (xhp s) Φ := by
  intro n
  induction n with
  | zero => intro s _ _ _ gq; exact gq.elim
  | succ n ih =>
    intro s x1 x2 x4 gq h
    unfold li_part_6_ok at gq
    unfold li_part_6 at h
    exact b167_6 s x1 x2 x4 (⟨fun hc => by rw [if_pos hc] at h; exact h, fun hc => by rw [if_neg hc] at h; replace gq := gq hc; exact ⟨fun hc => by rw [if_pos hc] at h; replace gq := gq.1 hc; exact ih _ _ _ _ gq h, fun hc => by rw [if_neg hc] at h; replace gq := gq.2 hc; exact ⟨fun hc => by rw [if_pos hc] at h; replace gq := gq.1 hc; exact ih _ _ _ _ gq h, fun hc => by rw [if_neg hc] at h; replace gq := gq.2 hc; exact ⟨gq.1, by replace gq := gq.2; exact ih _ _ _ _ gq h⟩⟩⟩⟩)
set_option maxRecDepth 100000 in
theorem b167_0 {xs : Nat → Int32} {Ls : Nat} {Φ : Option xV → xH → Prop} (s : xS) (p : Int32) (g : xW (xX0 xs Ls) p167 6 [(0, vr 10 223), (1, vi p), (2, vl 0), (4, vi 7)] [] (xhp s) Φ) : xW (xX0 xs Ls) p167 0 [(0, vr 10 223), (1, vi p)] [] (xhp s) Φ := by
  refine xW.seg (pc1 := 6) (L1 := [(4, vi 7), (2, vl 0), (0, vr 10 223), (1, vi p)]) (st1 := []) (h1 := xhp s) 4 (fun _ _ _ _ => rfl) ?_
  exact xW.locs (L := [(0, vr 10 223), (1, vi p), (2, vl 0), (4, vi 7)]) ⟨rfl, rfl, rfl, rfl, trivial⟩ rfl g
noncomputable def li_part (s : xS) (p : Int32) : Int64 := (li_part_6 xfu s p 0 7)
def li_part_ok (s : xS) (p : Int32) : Prop := (li_part_6_ok xfu s p 0 7)
set_option maxRecDepth 100000 in
theorem m167 {xs : Nat → Int32} {Ls : Nat} {Ψ : xO → xH → Prop} (s : xS) (p : Int32) (gq : li_part_ok s p) (h : Ψ (.inl (some (vl (li_part s p)))) (xhp s)) : xM (xX0 xs Ls) 167 [vr 10 223, vi p] (xhp s) Ψ := by
  unfold li_part at h
  unfold li_part_ok at gq
  exact xM.of (P := p167) rfl rfl rfl (b167_0 s p (n167_6 _ _ _ _ _ gq h))
