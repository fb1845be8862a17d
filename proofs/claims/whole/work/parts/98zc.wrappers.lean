/-! THE LAW'S METHODS THAT CATCH -/
theorem w208r {xs : Nat → Int32} {Ls : Nat} {Ψ : xO → xH → Prop} (s s' : xS) (m : Int32) (hm : ∀ Ψ' : xO → xH → Prop, Ψ' (.inl (none)) (xhp s') → xM (xX0 xs Ls) 1 [vr 0 0, vi m] (xhp s) Ψ') (h : Ψ (.inl (some (vi 0))) (xhp s')) : xM (xX0 xs Ls) 208 [vr 0 0, vi m] (xhp s) Ψ := by
  refine xM.of (P := p208) rfl rfl rfl ?_
  refine xW.call (y := 1) (as := [vr 0 0, vi m]) (h0 := xhp s) (pc0 := 2) (len := 3) (L0 := [(0, vr 0 0), (1, vi m)]) (rest := []) 3 (fun _ _ _ _ => rfl) (hm _ ?_)
  show xW (xX0 xs Ls) p208 5 [(0, vr 0 0), (1, vi m)] [] (xhp s') _
  exact xW.ret (v0 := some (vi 0)) (h1 := xhp s') 3 (fun _ _ _ _ => rfl) h
theorem w208t0 {xs : Nat → Int32} {Ls : Nat} {Ψ : xO → xH → Prop} (s s' : xS) (m : Int32) (hm : ∀ Ψ' : xO → xH → Prop, Ψ' (.inr 0) (xhp s') → xM (xX0 xs Ls) 1 [vr 0 0, vi m] (xhp s) Ψ') (h : Ψ (.inl (some (vi 1))) (xhp s')) : xM (xX0 xs Ls) 208 [vr 0 0, vi m] (xhp s) Ψ := by
  refine xM.of (P := p208) rfl rfl rfl ?_
  refine xW.call (y := 1) (as := [vr 0 0, vi m]) (h0 := xhp s) (pc0 := 2) (len := 3) (L0 := [(0, vr 0 0), (1, vi m)]) (rest := []) 3 (fun _ _ _ _ => rfl) (hm _ ?_)
  show xW (xX0 xs Ls) p208 9 [(0, vr 0 0), (1, vi m)] [] (xhp s') _
  exact xW.ret (v0 := some (vi 1)) (h1 := xhp s') 2 (fun _ _ _ _ => rfl) h
theorem w208t1 {xs : Nat → Int32} {Ls : Nat} {Ψ : xO → xH → Prop} (s s' : xS) (m : Int32) (hm : ∀ Ψ' : xO → xH → Prop, Ψ' (.inr 1) (xhp s') → xM (xX0 xs Ls) 1 [vr 0 0, vi m] (xhp s) Ψ') (h : Ψ (.inl (some (vi 2))) (xhp s')) : xM (xX0 xs Ls) 208 [vr 0 0, vi m] (xhp s) Ψ := by
  refine xM.of (P := p208) rfl rfl rfl ?_
  refine xW.call (y := 1) (as := [vr 0 0, vi m]) (h0 := xhp s) (pc0 := 2) (len := 3) (L0 := [(0, vr 0 0), (1, vi m)]) (rest := []) 3 (fun _ _ _ _ => rfl) (hm _ ?_)
  show xW (xX0 xs Ls) p208 12 [(0, vr 0 0), (1, vi m)] [] (xhp s') _
  exact xW.ret (v0 := some (vi 2)) (h1 := xhp s') 2 (fun _ _ _ _ => rfl) h
theorem w209r {xs : Nat → Int32} {Ls : Nat} {Ψ : xO → xH → Prop} (s s' : xS) (m : Int64) (v : Int32) (hm : ∀ Ψ' : xO → xH → Prop, Ψ' (.inl (some (vi v))) (xhp s') → xM (xX0 xs Ls) 2 [vr 0 0, vl m] (xhp s) Ψ') (h : Ψ (.inl (some (vi 0))) (xhp (sJ s' 243 0 v.toInt64))) : xM (xX0 xs Ls) 209 [vr 0 0, vl m, vr 41 243] (xhp s) Ψ := by
  refine xM.of (P := p209) rfl rfl rfl ?_
  refine xW.call (y := 2) (as := [vr 0 0, vl m]) (h0 := xhp s) (pc0 := 4) (len := 3) (L0 := [(0, vr 0 0), (1, vl m), (3, vr 41 243)]) (rest := [vi 0, vr 41 243]) 5 (fun _ _ _ _ => rfl) (hm _ ?_)
  show xW (xX0 xs Ls) p209 7 [(0, vr 0 0), (1, vl m), (3, vr 41 243)] [vi v, vi 0, vr 41 243] (xhp s') _
  refine xW.side (c := vp_in 0 1) (pc1 := 9) (L1 := [(0, vr 0 0), (1, vl m), (3, vr 41 243)]) (st1 := []) (h1 := xhp (sJ s' 243 0 v.toInt64)) 2 (fun _ _ _ _ => rfl) (vp_lit rfl) ?_
  exact xW.ret (v0 := some (vi 0)) (h1 := xhp (sJ s' 243 0 v.toInt64)) 3 (fun _ _ _ _ => rfl) h
theorem w209t0 {xs : Nat → Int32} {Ls : Nat} {Ψ : xO → xH → Prop} (s s' : xS) (m : Int64) (hm : ∀ Ψ' : xO → xH → Prop, Ψ' (.inr 0) (xhp s') → xM (xX0 xs Ls) 2 [vr 0 0, vl m] (xhp s) Ψ') (h : Ψ (.inl (some (vi 1))) (xhp s')) : xM (xX0 xs Ls) 209 [vr 0 0, vl m, vr 41 243] (xhp s) Ψ := by
  refine xM.of (P := p209) rfl rfl rfl ?_
  refine xW.call (y := 2) (as := [vr 0 0, vl m]) (h0 := xhp s) (pc0 := 4) (len := 3) (L0 := [(0, vr 0 0), (1, vl m), (3, vr 41 243)]) (rest := [vi 0, vr 41 243]) 5 (fun _ _ _ _ => rfl) (hm _ ?_)
  show xW (xX0 xs Ls) p209 14 [(0, vr 0 0), (1, vl m), (3, vr 41 243)] [] (xhp s') _
  exact xW.ret (v0 := some (vi 1)) (h1 := xhp s') 2 (fun _ _ _ _ => rfl) h
theorem w210r {xs : Nat → Int32} {Ls : Nat} {Ψ : xO → xH → Prop} (s s' : xS) (m : Int32) (v : Int32) (hm : ∀ Ψ' : xO → xH → Prop, Ψ' (.inl (some (vi v))) (xhp s') → xM (xX0 xs Ls) 3 [vr 0 0, vi m] (xhp s) Ψ') (h : Ψ (.inl (some (vi 0))) (xhp (sJ s' 243 0 v.toInt64))) : xM (xX0 xs Ls) 210 [vr 0 0, vi m, vr 41 243] (xhp s) Ψ := by
  refine xM.of (P := p210) rfl rfl rfl ?_
  refine xW.call (y := 3) (as := [vr 0 0, vi m]) (h0 := xhp s) (pc0 := 4) (len := 3) (L0 := [(0, vr 0 0), (1, vi m), (2, vr 41 243)]) (rest := [vi 0, vr 41 243]) 5 (fun _ _ _ _ => rfl) (hm _ ?_)
  show xW (xX0 xs Ls) p210 7 [(0, vr 0 0), (1, vi m), (2, vr 41 243)] [vi v, vi 0, vr 41 243] (xhp s') _
  refine xW.side (c := vp_in 0 1) (pc1 := 9) (L1 := [(0, vr 0 0), (1, vi m), (2, vr 41 243)]) (st1 := []) (h1 := xhp (sJ s' 243 0 v.toInt64)) 2 (fun _ _ _ _ => rfl) (vp_lit rfl) ?_
  exact xW.ret (v0 := some (vi 0)) (h1 := xhp (sJ s' 243 0 v.toInt64)) 3 (fun _ _ _ _ => rfl) h
theorem w210t1 {xs : Nat → Int32} {Ls : Nat} {Ψ : xO → xH → Prop} (s s' : xS) (m : Int32) (hm : ∀ Ψ' : xO → xH → Prop, Ψ' (.inr 1) (xhp s') → xM (xX0 xs Ls) 3 [vr 0 0, vi m] (xhp s) Ψ') (h : Ψ (.inl (some (vi 1))) (xhp s')) : xM (xX0 xs Ls) 210 [vr 0 0, vi m, vr 41 243] (xhp s) Ψ := by
  refine xM.of (P := p210) rfl rfl rfl ?_
  refine xW.call (y := 3) (as := [vr 0 0, vi m]) (h0 := xhp s) (pc0 := 4) (len := 3) (L0 := [(0, vr 0 0), (1, vi m), (2, vr 41 243)]) (rest := [vi 0, vr 41 243]) 5 (fun _ _ _ _ => rfl) (hm _ ?_)
  show xW (xX0 xs Ls) p210 13 [(0, vr 0 0), (1, vi m), (2, vr 41 243)] [] (xhp s') _
  exact xW.ret (v0 := some (vi 1)) (h1 := xhp s') 2 (fun _ _ _ _ => rfl) h
theorem w211r {xs : Nat → Int32} {Ls : Nat} {Ψ : xO → xH → Prop} (s s' : xS) (m : Int32) (v : Int32) (hm : ∀ Ψ' : xO → xH → Prop, Ψ' (.inl (some (vi v))) (xhp s') → xM (xX0 xs Ls) 5 [vr 0 0, vi m] (xhp s) Ψ') (h : Ψ (.inl (some (vi 0))) (xhp (sJ s' 243 0 v.toInt64))) : xM (xX0 xs Ls) 211 [vr 0 0, vi m, vr 41 243] (xhp s) Ψ := by
  refine xM.of (P := p211) rfl rfl rfl ?_
  refine xW.call (y := 5) (as := [vr 0 0, vi m]) (h0 := xhp s) (pc0 := 4) (len := 3) (L0 := [(0, vr 0 0), (1, vi m), (2, vr 41 243)]) (rest := [vi 0, vr 41 243]) 5 (fun _ _ _ _ => rfl) (hm _ ?_)
  show xW (xX0 xs Ls) p211 7 [(0, vr 0 0), (1, vi m), (2, vr 41 243)] [vi v, vi 0, vr 41 243] (xhp s') _
  refine xW.side (c := vp_in 0 1) (pc1 := 9) (L1 := [(0, vr 0 0), (1, vi m), (2, vr 41 243)]) (st1 := []) (h1 := xhp (sJ s' 243 0 v.toInt64)) 2 (fun _ _ _ _ => rfl) (vp_lit rfl) ?_
  exact xW.ret (v0 := some (vi 0)) (h1 := xhp (sJ s' 243 0 v.toInt64)) 3 (fun _ _ _ _ => rfl) h
theorem w211t0 {xs : Nat → Int32} {Ls : Nat} {Ψ : xO → xH → Prop} (s s' : xS) (m : Int32) (hm : ∀ Ψ' : xO → xH → Prop, Ψ' (.inr 0) (xhp s') → xM (xX0 xs Ls) 5 [vr 0 0, vi m] (xhp s) Ψ') (h : Ψ (.inl (some (vi 1))) (xhp s')) : xM (xX0 xs Ls) 211 [vr 0 0, vi m, vr 41 243] (xhp s) Ψ := by
  refine xM.of (P := p211) rfl rfl rfl ?_
  refine xW.call (y := 5) (as := [vr 0 0, vi m]) (h0 := xhp s) (pc0 := 4) (len := 3) (L0 := [(0, vr 0 0), (1, vi m), (2, vr 41 243)]) (rest := [vi 0, vr 41 243]) 5 (fun _ _ _ _ => rfl) (hm _ ?_)
  show xW (xX0 xs Ls) p211 13 [(0, vr 0 0), (1, vi m), (2, vr 41 243)] [] (xhp s') _
  exact xW.ret (v0 := some (vi 1)) (h1 := xhp s') 2 (fun _ _ _ _ => rfl) h
theorem w211t2 {xs : Nat → Int32} {Ls : Nat} {Ψ : xO → xH → Prop} (s s' : xS) (m : Int32) (hm : ∀ Ψ' : xO → xH → Prop, Ψ' (.inr 2) (xhp s') → xM (xX0 xs Ls) 5 [vr 0 0, vi m] (xhp s) Ψ') (h : Ψ (.inl (some (vi 2))) (xhp s')) : xM (xX0 xs Ls) 211 [vr 0 0, vi m, vr 41 243] (xhp s) Ψ := by
  refine xM.of (P := p211) rfl rfl rfl ?_
  refine xW.call (y := 5) (as := [vr 0 0, vi m]) (h0 := xhp s) (pc0 := 4) (len := 3) (L0 := [(0, vr 0 0), (1, vi m), (2, vr 41 243)]) (rest := [vi 0, vr 41 243]) 5 (fun _ _ _ _ => rfl) (hm _ ?_)
  show xW (xX0 xs Ls) p211 16 [(0, vr 0 0), (1, vi m), (2, vr 41 243)] [] (xhp s') _
  exact xW.ret (v0 := some (vi 2)) (h1 := xhp s') 2 (fun _ _ _ _ => rfl) h
theorem w211t1 {xs : Nat → Int32} {Ls : Nat} {Ψ : xO → xH → Prop} (s s' : xS) (m : Int32) (hm : ∀ Ψ' : xO → xH → Prop, Ψ' (.inr 1) (xhp s') → xM (xX0 xs Ls) 5 [vr 0 0, vi m] (xhp s) Ψ') (h : Ψ (.inl (some (vi 3))) (xhp s')) : xM (xX0 xs Ls) 211 [vr 0 0, vi m, vr 41 243] (xhp s) Ψ := by
  refine xM.of (P := p211) rfl rfl rfl ?_
  refine xW.call (y := 5) (as := [vr 0 0, vi m]) (h0 := xhp s) (pc0 := 4) (len := 3) (L0 := [(0, vr 0 0), (1, vi m), (2, vr 41 243)]) (rest := [vi 0, vr 41 243]) 5 (fun _ _ _ _ => rfl) (hm _ ?_)
  show xW (xX0 xs Ls) p211 19 [(0, vr 0 0), (1, vi m), (2, vr 41 243)] [] (xhp s') _
  exact xW.ret (v0 := some (vi 3)) (h1 := xhp s') 2 (fun _ _ _ _ => rfl) h
theorem w212r {xs : Nat → Int32} {Ls : Nat} {Ψ : xO → xH → Prop} (s s' : xS) (m : Int32) (v : Int64) (hm : ∀ Ψ' : xO → xH → Prop, Ψ' (.inl (some (vl v))) (xhp s') → xM (xX0 xs Ls) 6 [vr 0 0, vi m] (xhp s) Ψ') (h : Ψ (.inl (some (vi 0))) (xhp (sJ s' 243 0 v))) : xM (xX0 xs Ls) 212 [vr 0 0, vi m, vr 41 243] (xhp s) Ψ := by
  refine xM.of (P := p212) rfl rfl rfl ?_
  refine xW.call (y := 6) (as := [vr 0 0, vi m]) (h0 := xhp s) (pc0 := 4) (len := 3) (L0 := [(0, vr 0 0), (1, vi m), (2, vr 41 243)]) (rest := [vi 0, vr 41 243]) 5 (fun _ _ _ _ => rfl) (hm _ ?_)
  show xW (xX0 xs Ls) p212 7 [(0, vr 0 0), (1, vi m), (2, vr 41 243)] [vl v, vi 0, vr 41 243] (xhp s') _
  refine xW.side (c := vp_in 0 1) (pc1 := 8) (L1 := [(0, vr 0 0), (1, vi m), (2, vr 41 243)]) (st1 := []) (h1 := xhp (sJ s' 243 0 v)) 1 (fun _ _ _ _ => rfl) (vp_lit rfl) ?_
  exact xW.ret (v0 := some (vi 0)) (h1 := xhp (sJ s' 243 0 v)) 3 (fun _ _ _ _ => rfl) h
theorem w212t1 {xs : Nat → Int32} {Ls : Nat} {Ψ : xO → xH → Prop} (s s' : xS) (m : Int32) (hm : ∀ Ψ' : xO → xH → Prop, Ψ' (.inr 1) (xhp s') → xM (xX0 xs Ls) 6 [vr 0 0, vi m] (xhp s) Ψ') (h : Ψ (.inl (some (vi 1))) (xhp s')) : xM (xX0 xs Ls) 212 [vr 0 0, vi m, vr 41 243] (xhp s) Ψ := by
  refine xM.of (P := p212) rfl rfl rfl ?_
  refine xW.call (y := 6) (as := [vr 0 0, vi m]) (h0 := xhp s) (pc0 := 4) (len := 3) (L0 := [(0, vr 0 0), (1, vi m), (2, vr 41 243)]) (rest := [vi 0, vr 41 243]) 5 (fun _ _ _ _ => rfl) (hm _ ?_)
  show xW (xX0 xs Ls) p212 12 [(0, vr 0 0), (1, vi m), (2, vr 41 243)] [] (xhp s') _
  exact xW.ret (v0 := some (vi 1)) (h1 := xhp s') 2 (fun _ _ _ _ => rfl) h
theorem w213r {xs : Nat → Int32} {Ls : Nat} {Ψ : xO → xH → Prop} (s s' : xS) (m : Int32) (v : Int64) (hm : ∀ Ψ' : xO → xH → Prop, Ψ' (.inl (some (vl v))) (xhp s') → xM (xX0 xs Ls) 7 [vr 0 0, vi m] (xhp s) Ψ') (h : Ψ (.inl (some (vi 0))) (xhp (sJ s' 243 0 v))) : xM (xX0 xs Ls) 213 [vr 0 0, vi m, vr 41 243] (xhp s) Ψ := by
  refine xM.of (P := p213) rfl rfl rfl ?_
  refine xW.call (y := 7) (as := [vr 0 0, vi m]) (h0 := xhp s) (pc0 := 4) (len := 3) (L0 := [(0, vr 0 0), (1, vi m), (2, vr 41 243)]) (rest := [vi 0, vr 41 243]) 5 (fun _ _ _ _ => rfl) (hm _ ?_)
  show xW (xX0 xs Ls) p213 7 [(0, vr 0 0), (1, vi m), (2, vr 41 243)] [vl v, vi 0, vr 41 243] (xhp s') _
  refine xW.side (c := vp_in 0 1) (pc1 := 8) (L1 := [(0, vr 0 0), (1, vi m), (2, vr 41 243)]) (st1 := []) (h1 := xhp (sJ s' 243 0 v)) 1 (fun _ _ _ _ => rfl) (vp_lit rfl) ?_
  exact xW.ret (v0 := some (vi 0)) (h1 := xhp (sJ s' 243 0 v)) 3 (fun _ _ _ _ => rfl) h
theorem w213t3 {xs : Nat → Int32} {Ls : Nat} {Ψ : xO → xH → Prop} (s s' : xS) (m : Int32) (hm : ∀ Ψ' : xO → xH → Prop, Ψ' (.inr 3) (xhp s') → xM (xX0 xs Ls) 7 [vr 0 0, vi m] (xhp s) Ψ') (h : Ψ (.inl (some (vi 1))) (xhp s')) : xM (xX0 xs Ls) 213 [vr 0 0, vi m, vr 41 243] (xhp s) Ψ := by
  refine xM.of (P := p213) rfl rfl rfl ?_
  refine xW.call (y := 7) (as := [vr 0 0, vi m]) (h0 := xhp s) (pc0 := 4) (len := 3) (L0 := [(0, vr 0 0), (1, vi m), (2, vr 41 243)]) (rest := [vi 0, vr 41 243]) 5 (fun _ _ _ _ => rfl) (hm _ ?_)
  show xW (xX0 xs Ls) p213 12 [(0, vr 0 0), (1, vi m), (2, vr 41 243)] [] (xhp s') _
  exact xW.ret (v0 := some (vi 1)) (h1 := xhp s') 2 (fun _ _ _ _ => rfl) h
theorem w214r {xs : Nat → Int32} {Ls : Nat} {Ψ : xO → xH → Prop} (s s' : xS) (m : Int32) (v : Int32) (hm : ∀ Ψ' : xO → xH → Prop, Ψ' (.inl (some (vi v))) (xhp s') → xM (xX0 xs Ls) 8 [vr 0 0, vi m] (xhp s) Ψ') (h : Ψ (.inl (some (vi 0))) (xhp (sJ s' 243 0 v.toInt64))) : xM (xX0 xs Ls) 214 [vr 0 0, vi m, vr 41 243] (xhp s) Ψ := by
  refine xM.of (P := p214) rfl rfl rfl ?_
  refine xW.call (y := 8) (as := [vr 0 0, vi m]) (h0 := xhp s) (pc0 := 4) (len := 3) (L0 := [(0, vr 0 0), (1, vi m), (2, vr 41 243)]) (rest := [vi 0, vr 41 243]) 5 (fun _ _ _ _ => rfl) (hm _ ?_)
  show xW (xX0 xs Ls) p214 7 [(0, vr 0 0), (1, vi m), (2, vr 41 243)] [vi v, vi 0, vr 41 243] (xhp s') _
  refine xW.side (c := vp_in 0 1) (pc1 := 9) (L1 := [(0, vr 0 0), (1, vi m), (2, vr 41 243)]) (st1 := []) (h1 := xhp (sJ s' 243 0 v.toInt64)) 2 (fun _ _ _ _ => rfl) (vp_lit rfl) ?_
  exact xW.ret (v0 := some (vi 0)) (h1 := xhp (sJ s' 243 0 v.toInt64)) 3 (fun _ _ _ _ => rfl) h
theorem w214t3 {xs : Nat → Int32} {Ls : Nat} {Ψ : xO → xH → Prop} (s s' : xS) (m : Int32) (hm : ∀ Ψ' : xO → xH → Prop, Ψ' (.inr 3) (xhp s') → xM (xX0 xs Ls) 8 [vr 0 0, vi m] (xhp s) Ψ') (h : Ψ (.inl (some (vi 1))) (xhp s')) : xM (xX0 xs Ls) 214 [vr 0 0, vi m, vr 41 243] (xhp s) Ψ := by
  refine xM.of (P := p214) rfl rfl rfl ?_
  refine xW.call (y := 8) (as := [vr 0 0, vi m]) (h0 := xhp s) (pc0 := 4) (len := 3) (L0 := [(0, vr 0 0), (1, vi m), (2, vr 41 243)]) (rest := [vi 0, vr 41 243]) 5 (fun _ _ _ _ => rfl) (hm _ ?_)
  show xW (xX0 xs Ls) p214 13 [(0, vr 0 0), (1, vi m), (2, vr 41 243)] [] (xhp s') _
  exact xW.ret (v0 := some (vi 1)) (h1 := xhp s') 2 (fun _ _ _ _ => rfl) h
theorem w215r {xs : Nat → Int32} {Ls : Nat} {Ψ : xO → xH → Prop} (s s' : xS) (m : Int32) (b : Int32) (hm : ∀ Ψ' : xO → xH → Prop, Ψ' (.inl (none)) (xhp s') → xM (xX0 xs Ls) 9 [vr 0 0, vi m, vi b] (xhp s) Ψ') (h : Ψ (.inl (some (vi 0))) (xhp s')) : xM (xX0 xs Ls) 215 [vr 0 0, vi m, vi b] (xhp s) Ψ := by
  refine xM.of (P := p215) rfl rfl rfl ?_
  refine xW.call (y := 9) (as := [vr 0 0, vi m, vi b]) (h0 := xhp s) (pc0 := 3) (len := 3) (L0 := [(0, vr 0 0), (1, vi m), (2, vi b)]) (rest := []) 4 (fun _ _ _ _ => rfl) (hm _ ?_)
  show xW (xX0 xs Ls) p215 6 [(0, vr 0 0), (1, vi m), (2, vi b)] [] (xhp s') _
  exact xW.ret (v0 := some (vi 0)) (h1 := xhp s') 3 (fun _ _ _ _ => rfl) h
theorem w215t1 {xs : Nat → Int32} {Ls : Nat} {Ψ : xO → xH → Prop} (s s' : xS) (m : Int32) (b : Int32) (hm : ∀ Ψ' : xO → xH → Prop, Ψ' (.inr 1) (xhp s') → xM (xX0 xs Ls) 9 [vr 0 0, vi m, vi b] (xhp s) Ψ') (h : Ψ (.inl (some (vi 1))) (xhp s')) : xM (xX0 xs Ls) 215 [vr 0 0, vi m, vi b] (xhp s) Ψ := by
  refine xM.of (P := p215) rfl rfl rfl ?_
  refine xW.call (y := 9) (as := [vr 0 0, vi m, vi b]) (h0 := xhp s) (pc0 := 3) (len := 3) (L0 := [(0, vr 0 0), (1, vi m), (2, vi b)]) (rest := []) 4 (fun _ _ _ _ => rfl) (hm _ ?_)
  show xW (xX0 xs Ls) p215 10 [(0, vr 0 0), (1, vi m), (2, vi b)] [] (xhp s') _
  exact xW.ret (v0 := some (vi 1)) (h1 := xhp s') 2 (fun _ _ _ _ => rfl) h
theorem w216r {xs : Nat → Int32} {Ls : Nat} {Ψ : xO → xH → Prop} (s s' : xS) (m : Int32) (b : Int64) (hm : ∀ Ψ' : xO → xH → Prop, Ψ' (.inl (none)) (xhp s') → xM (xX0 xs Ls) 10 [vr 0 0, vi m, vl b] (xhp s) Ψ') (h : Ψ (.inl (some (vi 0))) (xhp s')) : xM (xX0 xs Ls) 216 [vr 0 0, vi m, vl b] (xhp s) Ψ := by
  refine xM.of (P := p216) rfl rfl rfl ?_
  refine xW.call (y := 10) (as := [vr 0 0, vi m, vl b]) (h0 := xhp s) (pc0 := 3) (len := 3) (L0 := [(0, vr 0 0), (1, vi m), (2, vl b)]) (rest := []) 4 (fun _ _ _ _ => rfl) (hm _ ?_)
  show xW (xX0 xs Ls) p216 6 [(0, vr 0 0), (1, vi m), (2, vl b)] [] (xhp s') _
  exact xW.ret (v0 := some (vi 0)) (h1 := xhp s') 3 (fun _ _ _ _ => rfl) h
theorem w216t0 {xs : Nat → Int32} {Ls : Nat} {Ψ : xO → xH → Prop} (s s' : xS) (m : Int32) (b : Int64) (hm : ∀ Ψ' : xO → xH → Prop, Ψ' (.inr 0) (xhp s') → xM (xX0 xs Ls) 10 [vr 0 0, vi m, vl b] (xhp s) Ψ') (h : Ψ (.inl (some (vi 1))) (xhp s')) : xM (xX0 xs Ls) 216 [vr 0 0, vi m, vl b] (xhp s) Ψ := by
  refine xM.of (P := p216) rfl rfl rfl ?_
  refine xW.call (y := 10) (as := [vr 0 0, vi m, vl b]) (h0 := xhp s) (pc0 := 3) (len := 3) (L0 := [(0, vr 0 0), (1, vi m), (2, vl b)]) (rest := []) 4 (fun _ _ _ _ => rfl) (hm _ ?_)
  show xW (xX0 xs Ls) p216 11 [(0, vr 0 0), (1, vi m), (2, vl b)] [] (xhp s') _
  exact xW.ret (v0 := some (vi 1)) (h1 := xhp s') 2 (fun _ _ _ _ => rfl) h
theorem w216t3 {xs : Nat → Int32} {Ls : Nat} {Ψ : xO → xH → Prop} (s s' : xS) (m : Int32) (b : Int64) (hm : ∀ Ψ' : xO → xH → Prop, Ψ' (.inr 3) (xhp s') → xM (xX0 xs Ls) 10 [vr 0 0, vi m, vl b] (xhp s) Ψ') (h : Ψ (.inl (some (vi 2))) (xhp s')) : xM (xX0 xs Ls) 216 [vr 0 0, vi m, vl b] (xhp s) Ψ := by
  refine xM.of (P := p216) rfl rfl rfl ?_
  refine xW.call (y := 10) (as := [vr 0 0, vi m, vl b]) (h0 := xhp s) (pc0 := 3) (len := 3) (L0 := [(0, vr 0 0), (1, vi m), (2, vl b)]) (rest := []) 4 (fun _ _ _ _ => rfl) (hm _ ?_)
  show xW (xX0 xs Ls) p216 15 [(0, vr 0 0), (1, vi m), (2, vl b)] [] (xhp s') _
  exact xW.ret (v0 := some (vi 2)) (h1 := xhp s') 2 (fun _ _ _ _ => rfl) h
theorem w217r {xs : Nat → Int32} {Ls : Nat} {Ψ : xO → xH → Prop} (s s' : xS) (m : Int32) (v : Int32) (hm : ∀ Ψ' : xO → xH → Prop, Ψ' (.inl (some (vi v))) (xhp s') → xM (xX0 xs Ls) 11 [vr 0 0, vi m] (xhp s) Ψ') (h : Ψ (.inl (some (vi 0))) (xhp (sJ s' 243 0 v.toInt64))) : xM (xX0 xs Ls) 217 [vr 0 0, vi m, vr 41 243] (xhp s) Ψ := by
  refine xM.of (P := p217) rfl rfl rfl ?_
  refine xW.call (y := 11) (as := [vr 0 0, vi m]) (h0 := xhp s) (pc0 := 4) (len := 3) (L0 := [(0, vr 0 0), (1, vi m), (2, vr 41 243)]) (rest := [vi 0, vr 41 243]) 5 (fun _ _ _ _ => rfl) (hm _ ?_)
  show xW (xX0 xs Ls) p217 7 [(0, vr 0 0), (1, vi m), (2, vr 41 243)] [vi v, vi 0, vr 41 243] (xhp s') _
  refine xW.side (c := vp_in 0 1) (pc1 := 9) (L1 := [(0, vr 0 0), (1, vi m), (2, vr 41 243)]) (st1 := []) (h1 := xhp (sJ s' 243 0 v.toInt64)) 2 (fun _ _ _ _ => rfl) (vp_lit rfl) ?_
  exact xW.ret (v0 := some (vi 0)) (h1 := xhp (sJ s' 243 0 v.toInt64)) 3 (fun _ _ _ _ => rfl) h
theorem w217t3 {xs : Nat → Int32} {Ls : Nat} {Ψ : xO → xH → Prop} (s s' : xS) (m : Int32) (hm : ∀ Ψ' : xO → xH → Prop, Ψ' (.inr 3) (xhp s') → xM (xX0 xs Ls) 11 [vr 0 0, vi m] (xhp s) Ψ') (h : Ψ (.inl (some (vi 1))) (xhp s')) : xM (xX0 xs Ls) 217 [vr 0 0, vi m, vr 41 243] (xhp s) Ψ := by
  refine xM.of (P := p217) rfl rfl rfl ?_
  refine xW.call (y := 11) (as := [vr 0 0, vi m]) (h0 := xhp s) (pc0 := 4) (len := 3) (L0 := [(0, vr 0 0), (1, vi m), (2, vr 41 243)]) (rest := [vi 0, vr 41 243]) 5 (fun _ _ _ _ => rfl) (hm _ ?_)
  show xW (xX0 xs Ls) p217 13 [(0, vr 0 0), (1, vi m), (2, vr 41 243)] [] (xhp s') _
  exact xW.ret (v0 := some (vi 1)) (h1 := xhp s') 2 (fun _ _ _ _ => rfl) h
theorem w218r {xs : Nat → Int32} {Ls : Nat} {Ψ : xO → xH → Prop} (s s' : xS) (m : Int32) (v : Int32) (hm : ∀ Ψ' : xO → xH → Prop, Ψ' (.inl (some (vi v))) (xhp s') → xM (xX0 xs Ls) 15 [vr 0 0, vi m] (xhp s) Ψ') (h : Ψ (.inl (some (vi 0))) (xhp (sJ s' 243 0 v.toInt64))) : xM (xX0 xs Ls) 218 [vr 0 0, vi m, vr 41 243] (xhp s) Ψ := by
  refine xM.of (P := p218) rfl rfl rfl ?_
  refine xW.call (y := 15) (as := [vr 0 0, vi m]) (h0 := xhp s) (pc0 := 4) (len := 3) (L0 := [(0, vr 0 0), (1, vi m), (2, vr 41 243)]) (rest := [vi 0, vr 41 243]) 5 (fun _ _ _ _ => rfl) (hm _ ?_)
  show xW (xX0 xs Ls) p218 7 [(0, vr 0 0), (1, vi m), (2, vr 41 243)] [vi v, vi 0, vr 41 243] (xhp s') _
  refine xW.side (c := vp_in 0 1) (pc1 := 9) (L1 := [(0, vr 0 0), (1, vi m), (2, vr 41 243)]) (st1 := []) (h1 := xhp (sJ s' 243 0 v.toInt64)) 2 (fun _ _ _ _ => rfl) (vp_lit rfl) ?_
  exact xW.ret (v0 := some (vi 0)) (h1 := xhp (sJ s' 243 0 v.toInt64)) 3 (fun _ _ _ _ => rfl) h
theorem w218t3 {xs : Nat → Int32} {Ls : Nat} {Ψ : xO → xH → Prop} (s s' : xS) (m : Int32) (hm : ∀ Ψ' : xO → xH → Prop, Ψ' (.inr 3) (xhp s') → xM (xX0 xs Ls) 15 [vr 0 0, vi m] (xhp s) Ψ') (h : Ψ (.inl (some (vi 1))) (xhp s')) : xM (xX0 xs Ls) 218 [vr 0 0, vi m, vr 41 243] (xhp s) Ψ := by
  refine xM.of (P := p218) rfl rfl rfl ?_
  refine xW.call (y := 15) (as := [vr 0 0, vi m]) (h0 := xhp s) (pc0 := 4) (len := 3) (L0 := [(0, vr 0 0), (1, vi m), (2, vr 41 243)]) (rest := [vi 0, vr 41 243]) 5 (fun _ _ _ _ => rfl) (hm _ ?_)
  show xW (xX0 xs Ls) p218 13 [(0, vr 0 0), (1, vi m), (2, vr 41 243)] [] (xhp s') _
  exact xW.ret (v0 := some (vi 1)) (h1 := xhp s') 2 (fun _ _ _ _ => rfl) h
theorem w219r {xs : Nat → Int32} {Ls : Nat} {Ψ : xO → xH → Prop} (s s' : xS)  (v : Bool) (hm : ∀ Ψ' : xO → xH → Prop, Ψ' (.inl (some (vi (zb v)))) (xhp s') → xM (xX0 xs Ls) 16 [vr 0 0] (xhp s) Ψ') (h : Ψ (.inl (some (vi 0))) (xhp (sJ s' 243 0 (bif v then 1 else 0)))) : xM (xX0 xs Ls) 219 [vr 0 0, vr 41 243] (xhp s) Ψ := by
  refine xM.of (P := p219) rfl rfl rfl ?_
  refine xW.call (y := 16) (as := [vr 0 0]) (h0 := xhp s) (pc0 := 3) (len := 3) (L0 := [(0, vr 0 0), (1, vr 41 243)]) (rest := [vi 0, vr 41 243]) 4 (fun _ _ _ _ => rfl) (hm _ ?_)
  show xW (xX0 xs Ls) p219 6 [(0, vr 0 0), (1, vr 41 243)] [vi (zb v), vi 0, vr 41 243] (xhp s') _
  refine xW.br (c := zb v = 0) (pc1 := 13) (L1 := [(0, vr 0 0), (1, vr 41 243)]) (st1 := [vi 0, vr 41 243]) (h1 := xhp s') (pc2 := 9) (L2 := [(0, vr 0 0), (1, vr 41 243)]) (st2 := [vi 0, vr 41 243]) (h2 := xhp s') 1 (fun _ _ _ _ => rfl) (fun hc => ?_) (fun hc => ?_)
  · have hv : v = false := zb_eq0.mp hc
    subst hv
    refine xW.side (c := vp_in 0 1) (pc1 := 15) (L1 := [(0, vr 0 0), (1, vr 41 243)]) (st1 := []) (h1 := xhp (sJ s' 243 0 0)) 2 (fun _ _ _ _ => rfl) (vp_lit rfl) ?_
    exact xW.ret (v0 := some (vi 0)) (h1 := xhp (sJ s' 243 0 0)) 3 (fun _ _ _ _ => rfl) h
  · have hv : v = true := zb_ne0.mp hc
    subst hv
    refine xW.side (c := vp_in 0 1) (pc1 := 15) (L1 := [(0, vr 0 0), (1, vr 41 243)]) (st1 := []) (h1 := xhp (sJ s' 243 0 1)) 3 (fun _ _ _ _ => rfl) (vp_lit rfl) ?_
    exact xW.ret (v0 := some (vi 0)) (h1 := xhp (sJ s' 243 0 1)) 3 (fun _ _ _ _ => rfl) h
theorem w219t0 {xs : Nat → Int32} {Ls : Nat} {Ψ : xO → xH → Prop} (s s' : xS)  (hm : ∀ Ψ' : xO → xH → Prop, Ψ' (.inr 0) (xhp s') → xM (xX0 xs Ls) 16 [vr 0 0] (xhp s) Ψ') (h : Ψ (.inl (some (vi 1))) (xhp s')) : xM (xX0 xs Ls) 219 [vr 0 0, vr 41 243] (xhp s) Ψ := by
  refine xM.of (P := p219) rfl rfl rfl ?_
  refine xW.call (y := 16) (as := [vr 0 0]) (h0 := xhp s) (pc0 := 3) (len := 3) (L0 := [(0, vr 0 0), (1, vr 41 243)]) (rest := [vi 0, vr 41 243]) 4 (fun _ _ _ _ => rfl) (hm _ ?_)
  show xW (xX0 xs Ls) p219 19 [(0, vr 0 0), (1, vr 41 243)] [] (xhp s') _
  exact xW.ret (v0 := some (vi 1)) (h1 := xhp s') 2 (fun _ _ _ _ => rfl) h
