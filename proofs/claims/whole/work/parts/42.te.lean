/-! te_byteOf -/
theorem b22_0 {xs : Nat → Int32} {Ls : Nat} {Φ : Option xV → xH → Prop} (s : xS) (b : Int64) (i : Int32) (g : Φ (some (vi ((((b.toUInt64 >>> ((8 * i).toInt64.toUInt64 &&& Int64.toUInt64 63)).toInt64).toInt32) &&& 255))) (xhp s)) : xW (xX0 xs Ls) p22 0 [(0, vl b), (2, vi i)] [] (xhp s) Φ := by
  exact xW.ret (v0 := some (vi ((((b.toUInt64 >>> ((8 * i).toInt64.toUInt64 &&& Int64.toUInt64 63)).toInt64).toInt32) &&& 255))) (h1 := xhp s) 9 (fun _ _ _ _ => rfl) g
noncomputable def te_byteOf (b : Int64) (i : Int32) : Int32 := ((((b.toUInt64 >>> ((8 * i).toInt64.toUInt64 &&& Int64.toUInt64 63)).toInt64).toInt32) &&& 255)
set_option maxRecDepth 100000 in
theorem m22 {xs : Nat → Int32} {Ls : Nat} {Ψ : xO → xH → Prop} (s : xS) (b : Int64) (i : Int32) (h : Ψ (.inl (some (vi (te_byteOf b i)))) (xhp s)) : xM (xX0 xs Ls) 22 [vl b, vi i] (xhp s) Ψ := by
  unfold te_byteOf at h
  exact xM.of (P := p22) rfl rfl rfl (b22_0 s b i (h))
/-! te_isDigit -/
theorem b23_0 {xs : Nat → Int32} {Ls : Nat} {Φ : Option xV → xH → Prop} (s : xS) (k : Int32) (g : Φ (some (vi (zb ((!decide (k < 48)) && (!decide (57 < k)))))) (xhp s)) : xW (xX0 xs Ls) p23 0 [(0, vi k)] [] (xhp s) Φ := by
  refine xW.seg (pc1 := 3) (L1 := [(0, vi k)]) (st1 := [vi 48, vi k]) (h1 := xhp s) 2 (fun _ _ _ _ => rfl) ?_
  suffices J : xW (xX0 xs Ls) p23 17 [(0, vi k)] [vi (zb ((!decide (k < 48)) && (!decide (57 < k))))] (xhp s) Φ by
    refine xW.br (c := k < 48) (pc1 := 16) (L1 := [(0, vi k)]) (st1 := []) (h1 := xhp s) (pc2 := 6) (L2 := [(0, vi k)]) (st2 := []) (h2 := xhp s) 1 (fun _ _ _ _ => rfl) (fun hc => ?_) (fun hc => ?_)
    · have hc1 : k < 48 := hc
      refine xW.seg (pc1 := 17) (L1 := [(0, vi k)]) (st1 := [vi 0]) (h1 := xhp s) 1 (fun _ _ _ _ => rfl) ?_
      refine xW.to (v := vi (zb ((!decide (k < 48)) && (!decide (57 < k))))) (zb_f (by simp only [decide_eq_true hc1, Bool.true_or, Bool.or_true, Bool.false_or, Bool.or_false, Bool.true_and, Bool.and_true, Bool.false_and, Bool.and_false, Bool.not_true, Bool.not_false, cond_true, cond_false])) ?_
      exact J
    · have hc1 : ¬ (k < 48) := hc
      refine xW.br (c := 57 < k) (pc1 := 16) (L1 := [(0, vi k)]) (st1 := []) (h1 := xhp s) (pc2 := 12) (L2 := [(0, vi k)]) (st2 := []) (h2 := xhp s) 3 (fun _ _ _ _ => rfl) (fun hc => ?_) (fun hc => ?_)
      · have hc2 : 57 < k := hc
        refine xW.seg (pc1 := 17) (L1 := [(0, vi k)]) (st1 := [vi 0]) (h1 := xhp s) 1 (fun _ _ _ _ => rfl) ?_
        refine xW.to (v := vi (zb ((!decide (k < 48)) && (!decide (57 < k))))) (zb_f (by simp only [decide_eq_false hc1, decide_eq_true hc2, Bool.true_or, Bool.or_true, Bool.false_or, Bool.or_false, Bool.true_and, Bool.and_true, Bool.false_and, Bool.and_false, Bool.not_true, Bool.not_false, cond_true, cond_false])) ?_
        exact J
      · have hc2 : ¬ (57 < k) := hc
        refine xW.seg (pc1 := 17) (L1 := [(0, vi k)]) (st1 := [vi 1]) (h1 := xhp s) 2 (fun _ _ _ _ => rfl) ?_
        refine xW.to (v := vi (zb ((!decide (k < 48)) && (!decide (57 < k))))) (zb_t (by simp only [decide_eq_false hc1, decide_eq_false hc2, Bool.true_or, Bool.or_true, Bool.false_or, Bool.or_false, Bool.true_and, Bool.and_true, Bool.false_and, Bool.and_false, Bool.not_true, Bool.not_false, cond_true, cond_false])) ?_
        exact J
  exact xW.retz (v0 := some (vi (zb ((!decide (k < 48)) && (!decide (57 < k)))))) (h1 := xhp s) (c := (zb ((!decide (k < 48)) && (!decide (57 < k)))) = 0 ∨ (zb ((!decide (k < 48)) && (!decide (57 < k)))) = 1) 1 (fun _ _ _ _ => rfl) (zb01 _) g
noncomputable def te_isDigit (k : Int32) : Bool := ((!decide (k < 48)) && (!decide (57 < k)))
set_option maxRecDepth 100000 in
theorem m23 {xs : Nat → Int32} {Ls : Nat} {Ψ : xO → xH → Prop} (s : xS) (k : Int32) (h : Ψ (.inl (some (vi (zb (te_isDigit k))))) (xhp s)) : xM (xX0 xs Ls) 23 [vi k] (xhp s) Ψ := by
  unfold te_isDigit at h
  exact xM.of (P := p23) rfl rfl rfl (b23_0 s k (h))
/-! te_beginsEntry -/
theorem b24_0 {xs : Nat → Int32} {Ls : Nat} {Φ : Option xV → xH → Prop} (s : xS) (k : Int32) (g : Φ (some (vi (zb ((te_isDigit k) || ((decide (k = 46)) || (decide (k = 69))))))) (xhp s)) : xW (xX0 xs Ls) p24 0 [(0, vi k)] [] (xhp s) Φ := by
  refine xW.call (y := 23) (as := [vi k]) (h0 := xhp s) (pc0 := 1) (len := 3) (L0 := [(0, vi k)]) (rest := []) 2 (fun _ _ _ _ => rfl) (m23 _ _ ?_)
  show xW (xX0 xs Ls) p24 4 [(0, vi k)] [vi (zb (te_isDigit k))] (xhp s) Φ
  suffices J : xW (xX0 xs Ls) p24 24 [(0, vi k)] [vi (zb ((te_isDigit k) || ((decide (k = 46)) || (decide (k = 69)))))] (xhp s) Φ by
    refine xW.br (c := ¬ (zb (te_isDigit k)) = 0) (pc1 := 19) (L1 := [(0, vi k)]) (st1 := []) (h1 := xhp s) (pc2 := 7) (L2 := [(0, vi k)]) (st2 := []) (h2 := xhp s) 1 (fun _ _ _ _ => rfl) (fun hc => ?_) (fun hc => ?_)
    · have hc1 : (te_isDigit k) = true := (zb_ne0.mp hc)
      refine xW.seg (pc1 := 24) (L1 := [(0, vi k)]) (st1 := [vi 1]) (h1 := xhp s) 2 (fun _ _ _ _ => rfl) ?_
      refine xW.to (v := vi (zb ((te_isDigit k) || ((decide (k = 46)) || (decide (k = 69)))))) (zb_t (by simp only [hc1, Bool.true_or, Bool.or_true, Bool.false_or, Bool.or_false, Bool.true_and, Bool.and_true, Bool.false_and, Bool.and_false, Bool.not_true, Bool.not_false, cond_true, cond_false])) ?_
      exact J
    · have hc1 : (te_isDigit k) = false := (zb_eq0.mp (Decidable.not_not.mp hc))
      refine xW.br (c := k = 46) (pc1 := 19) (L1 := [(0, vi k)]) (st1 := []) (h1 := xhp s) (pc2 := 13) (L2 := [(0, vi k)]) (st2 := []) (h2 := xhp s) 3 (fun _ _ _ _ => rfl) (fun hc => ?_) (fun hc => ?_)
      · have hc2 : k = 46 := hc
        refine xW.seg (pc1 := 24) (L1 := [(0, vi k)]) (st1 := [vi 1]) (h1 := xhp s) 2 (fun _ _ _ _ => rfl) ?_
        refine xW.to (v := vi (zb ((te_isDigit k) || ((decide (k = 46)) || (decide (k = 69)))))) (zb_t (by simp only [hc1, decide_eq_true hc2, Bool.true_or, Bool.or_true, Bool.false_or, Bool.or_false, Bool.true_and, Bool.and_true, Bool.false_and, Bool.and_false, Bool.not_true, Bool.not_false, cond_true, cond_false])) ?_
        exact J
      · have hc2 : ¬ (k = 46) := hc
        refine xW.br (c := ¬ k = 69) (pc1 := 23) (L1 := [(0, vi k)]) (st1 := []) (h1 := xhp s) (pc2 := 19) (L2 := [(0, vi k)]) (st2 := []) (h2 := xhp s) 3 (fun _ _ _ _ => rfl) (fun hc => ?_) (fun hc => ?_)
        · have hc3 : ¬ k = 69 := hc
          refine xW.seg (pc1 := 24) (L1 := [(0, vi k)]) (st1 := [vi 0]) (h1 := xhp s) 1 (fun _ _ _ _ => rfl) ?_
          refine xW.to (v := vi (zb ((te_isDigit k) || ((decide (k = 46)) || (decide (k = 69)))))) (zb_f (by simp only [hc1, decide_eq_false hc2, decide_eq_false hc3, Bool.true_or, Bool.or_true, Bool.false_or, Bool.or_false, Bool.true_and, Bool.and_true, Bool.false_and, Bool.and_false, Bool.not_true, Bool.not_false, cond_true, cond_false])) ?_
          exact J
        · have hc3 : k = 69 := (Decidable.not_not.mp hc)
          refine xW.seg (pc1 := 24) (L1 := [(0, vi k)]) (st1 := [vi 1]) (h1 := xhp s) 2 (fun _ _ _ _ => rfl) ?_
          refine xW.to (v := vi (zb ((te_isDigit k) || ((decide (k = 46)) || (decide (k = 69)))))) (zb_t (by simp only [hc1, decide_eq_false hc2, decide_eq_true hc3, Bool.true_or, Bool.or_true, Bool.false_or, Bool.or_false, Bool.true_and, Bool.and_true, Bool.false_and, Bool.and_false, Bool.not_true, Bool.not_false, cond_true, cond_false])) ?_
          exact J
  exact xW.retz (v0 := some (vi (zb ((te_isDigit k) || ((decide (k = 46)) || (decide (k = 69))))))) (h1 := xhp s) (c := (zb ((te_isDigit k) || ((decide (k = 46)) || (decide (k = 69))))) = 0 ∨ (zb ((te_isDigit k) || ((decide (k = 46)) || (decide (k = 69))))) = 1) 1 (fun _ _ _ _ => rfl) (zb01 _) g
noncomputable def te_beginsEntry (k : Int32) : Bool := ((te_isDigit k) || ((decide (k = 46)) || (decide (k = 69))))
set_option maxRecDepth 100000 in
theorem m24 {xs : Nat → Int32} {Ls : Nat} {Ψ : xO → xH → Prop} (s : xS) (k : Int32) (h : Ψ (.inl (some (vi (zb (te_beginsEntry k))))) (xhp s)) : xM (xX0 xs Ls) 24 [vi k] (xhp s) Ψ := by
  unfold te_beginsEntry at h
  exact xM.of (P := p24) rfl rfl rfl (b24_0 s k (h))
/-! te_isOperation -/
theorem b25_0 {xs : Nat → Int32} {Ls : Nat} {Φ : Option xV → xH → Prop} (s : xS) (k : Int32) (g : Φ (some (vi (zb ((decide (k = 43)) || ((decide (k = 45)) || ((decide (k = 42)) || (decide (k = 47)))))))) (xhp s)) : xW (xX0 xs Ls) p25 0 [(0, vi k)] [] (xhp s) Φ := by
  refine xW.seg (pc1 := 3) (L1 := [(0, vi k)]) (st1 := [vi 43, vi k]) (h1 := xhp s) 2 (fun _ _ _ _ => rfl) ?_
  suffices J : xW (xX0 xs Ls) p25 29 [(0, vi k)] [vi (zb ((decide (k = 43)) || ((decide (k = 45)) || ((decide (k = 42)) || (decide (k = 47))))))] (xhp s) Φ by
    refine xW.br (c := k = 43) (pc1 := 24) (L1 := [(0, vi k)]) (st1 := []) (h1 := xhp s) (pc2 := 6) (L2 := [(0, vi k)]) (st2 := []) (h2 := xhp s) 1 (fun _ _ _ _ => rfl) (fun hc => ?_) (fun hc => ?_)
    · have hc1 : k = 43 := hc
      refine xW.seg (pc1 := 29) (L1 := [(0, vi k)]) (st1 := [vi 1]) (h1 := xhp s) 2 (fun _ _ _ _ => rfl) ?_
      refine xW.to (v := vi (zb ((decide (k = 43)) || ((decide (k = 45)) || ((decide (k = 42)) || (decide (k = 47))))))) (zb_t (by simp only [decide_eq_true hc1, Bool.true_or, Bool.or_true, Bool.false_or, Bool.or_false, Bool.true_and, Bool.and_true, Bool.false_and, Bool.and_false, Bool.not_true, Bool.not_false, cond_true, cond_false])) ?_
      exact J
    · have hc1 : ¬ (k = 43) := hc
      refine xW.br (c := k = 45) (pc1 := 24) (L1 := [(0, vi k)]) (st1 := []) (h1 := xhp s) (pc2 := 12) (L2 := [(0, vi k)]) (st2 := []) (h2 := xhp s) 3 (fun _ _ _ _ => rfl) (fun hc => ?_) (fun hc => ?_)
      · have hc2 : k = 45 := hc
        refine xW.seg (pc1 := 29) (L1 := [(0, vi k)]) (st1 := [vi 1]) (h1 := xhp s) 2 (fun _ _ _ _ => rfl) ?_
        refine xW.to (v := vi (zb ((decide (k = 43)) || ((decide (k = 45)) || ((decide (k = 42)) || (decide (k = 47))))))) (zb_t (by simp only [decide_eq_false hc1, decide_eq_true hc2, Bool.true_or, Bool.or_true, Bool.false_or, Bool.or_false, Bool.true_and, Bool.and_true, Bool.false_and, Bool.and_false, Bool.not_true, Bool.not_false, cond_true, cond_false])) ?_
        exact J
      · have hc2 : ¬ (k = 45) := hc
        refine xW.br (c := k = 42) (pc1 := 24) (L1 := [(0, vi k)]) (st1 := []) (h1 := xhp s) (pc2 := 18) (L2 := [(0, vi k)]) (st2 := []) (h2 := xhp s) 3 (fun _ _ _ _ => rfl) (fun hc => ?_) (fun hc => ?_)
        · have hc3 : k = 42 := hc
          refine xW.seg (pc1 := 29) (L1 := [(0, vi k)]) (st1 := [vi 1]) (h1 := xhp s) 2 (fun _ _ _ _ => rfl) ?_
          refine xW.to (v := vi (zb ((decide (k = 43)) || ((decide (k = 45)) || ((decide (k = 42)) || (decide (k = 47))))))) (zb_t (by simp only [decide_eq_false hc1, decide_eq_false hc2, decide_eq_true hc3, Bool.true_or, Bool.or_true, Bool.false_or, Bool.or_false, Bool.true_and, Bool.and_true, Bool.false_and, Bool.and_false, Bool.not_true, Bool.not_false, cond_true, cond_false])) ?_
          exact J
        · have hc3 : ¬ (k = 42) := hc
          refine xW.br (c := ¬ k = 47) (pc1 := 28) (L1 := [(0, vi k)]) (st1 := []) (h1 := xhp s) (pc2 := 24) (L2 := [(0, vi k)]) (st2 := []) (h2 := xhp s) 3 (fun _ _ _ _ => rfl) (fun hc => ?_) (fun hc => ?_)
          · have hc4 : ¬ k = 47 := hc
            refine xW.seg (pc1 := 29) (L1 := [(0, vi k)]) (st1 := [vi 0]) (h1 := xhp s) 1 (fun _ _ _ _ => rfl) ?_
            refine xW.to (v := vi (zb ((decide (k = 43)) || ((decide (k = 45)) || ((decide (k = 42)) || (decide (k = 47))))))) (zb_f (by simp only [decide_eq_false hc1, decide_eq_false hc2, decide_eq_false hc3, decide_eq_false hc4, Bool.true_or, Bool.or_true, Bool.false_or, Bool.or_false, Bool.true_and, Bool.and_true, Bool.false_and, Bool.and_false, Bool.not_true, Bool.not_false, cond_true, cond_false])) ?_
            exact J
          · have hc4 : k = 47 := (Decidable.not_not.mp hc)
            refine xW.seg (pc1 := 29) (L1 := [(0, vi k)]) (st1 := [vi 1]) (h1 := xhp s) 2 (fun _ _ _ _ => rfl) ?_
            refine xW.to (v := vi (zb ((decide (k = 43)) || ((decide (k = 45)) || ((decide (k = 42)) || (decide (k = 47))))))) (zb_t (by simp only [decide_eq_false hc1, decide_eq_false hc2, decide_eq_false hc3, decide_eq_true hc4, Bool.true_or, Bool.or_true, Bool.false_or, Bool.or_false, Bool.true_and, Bool.and_true, Bool.false_and, Bool.and_false, Bool.not_true, Bool.not_false, cond_true, cond_false])) ?_
            exact J
  exact xW.retz (v0 := some (vi (zb ((decide (k = 43)) || ((decide (k = 45)) || ((decide (k = 42)) || (decide (k = 47)))))))) (h1 := xhp s) (c := (zb ((decide (k = 43)) || ((decide (k = 45)) || ((decide (k = 42)) || (decide (k = 47)))))) = 0 ∨ (zb ((decide (k = 43)) || ((decide (k = 45)) || ((decide (k = 42)) || (decide (k = 47)))))) = 1) 1 (fun _ _ _ _ => rfl) (zb01 _) g
noncomputable def te_isOperation (k : Int32) : Bool := ((decide (k = 43)) || ((decide (k = 45)) || ((decide (k = 42)) || (decide (k = 47)))))
set_option maxRecDepth 100000 in
theorem m25 {xs : Nat → Int32} {Ls : Nat} {Ψ : xO → xH → Prop} (s : xS) (k : Int32) (h : Ψ (.inl (some (vi (zb (te_isOperation k))))) (xhp s)) : xM (xX0 xs Ls) 25 [vi k] (xhp s) Ψ := by
  unfold te_isOperation at h
  exact xM.of (P := p25) rfl rfl rfl (b25_0 s k (h))
/-! te_isFunction -/
theorem b26_0 {xs : Nat → Int32} {Ls : Nat} {Φ : Option xV → xH → Prop} (s : xS) (k : Int32) (g : Φ (some (vi (zb ((decide (k = 81)) || ((decide (k = 83)) || (decide (k = 73))))))) (xhp s)) : xW (xX0 xs Ls) p26 0 [(0, vi k)] [] (xhp s) Φ := by
  refine xW.seg (pc1 := 3) (L1 := [(0, vi k)]) (st1 := [vi 81, vi k]) (h1 := xhp s) 2 (fun _ _ _ _ => rfl) ?_
  suffices J : xW (xX0 xs Ls) p26 23 [(0, vi k)] [vi (zb ((decide (k = 81)) || ((decide (k = 83)) || (decide (k = 73)))))] (xhp s) Φ by
    refine xW.br (c := k = 81) (pc1 := 18) (L1 := [(0, vi k)]) (st1 := []) (h1 := xhp s) (pc2 := 6) (L2 := [(0, vi k)]) (st2 := []) (h2 := xhp s) 1 (fun _ _ _ _ => rfl) (fun hc => ?_) (fun hc => ?_)
    · have hc1 : k = 81 := hc
      refine xW.seg (pc1 := 23) (L1 := [(0, vi k)]) (st1 := [vi 1]) (h1 := xhp s) 2 (fun _ _ _ _ => rfl) ?_
      refine xW.to (v := vi (zb ((decide (k = 81)) || ((decide (k = 83)) || (decide (k = 73)))))) (zb_t (by simp only [decide_eq_true hc1, Bool.true_or, Bool.or_true, Bool.false_or, Bool.or_false, Bool.true_and, Bool.and_true, Bool.false_and, Bool.and_false, Bool.not_true, Bool.not_false, cond_true, cond_false])) ?_
      exact J
    · have hc1 : ¬ (k = 81) := hc
      refine xW.br (c := k = 83) (pc1 := 18) (L1 := [(0, vi k)]) (st1 := []) (h1 := xhp s) (pc2 := 12) (L2 := [(0, vi k)]) (st2 := []) (h2 := xhp s) 3 (fun _ _ _ _ => rfl) (fun hc => ?_) (fun hc => ?_)
      · have hc2 : k = 83 := hc
        refine xW.seg (pc1 := 23) (L1 := [(0, vi k)]) (st1 := [vi 1]) (h1 := xhp s) 2 (fun _ _ _ _ => rfl) ?_
        refine xW.to (v := vi (zb ((decide (k = 81)) || ((decide (k = 83)) || (decide (k = 73)))))) (zb_t (by simp only [decide_eq_false hc1, decide_eq_true hc2, Bool.true_or, Bool.or_true, Bool.false_or, Bool.or_false, Bool.true_and, Bool.and_true, Bool.false_and, Bool.and_false, Bool.not_true, Bool.not_false, cond_true, cond_false])) ?_
        exact J
      · have hc2 : ¬ (k = 83) := hc
        refine xW.br (c := ¬ k = 73) (pc1 := 22) (L1 := [(0, vi k)]) (st1 := []) (h1 := xhp s) (pc2 := 18) (L2 := [(0, vi k)]) (st2 := []) (h2 := xhp s) 3 (fun _ _ _ _ => rfl) (fun hc => ?_) (fun hc => ?_)
        · have hc3 : ¬ k = 73 := hc
          refine xW.seg (pc1 := 23) (L1 := [(0, vi k)]) (st1 := [vi 0]) (h1 := xhp s) 1 (fun _ _ _ _ => rfl) ?_
          refine xW.to (v := vi (zb ((decide (k = 81)) || ((decide (k = 83)) || (decide (k = 73)))))) (zb_f (by simp only [decide_eq_false hc1, decide_eq_false hc2, decide_eq_false hc3, Bool.true_or, Bool.or_true, Bool.false_or, Bool.or_false, Bool.true_and, Bool.and_true, Bool.false_and, Bool.and_false, Bool.not_true, Bool.not_false, cond_true, cond_false])) ?_
          exact J
        · have hc3 : k = 73 := (Decidable.not_not.mp hc)
          refine xW.seg (pc1 := 23) (L1 := [(0, vi k)]) (st1 := [vi 1]) (h1 := xhp s) 2 (fun _ _ _ _ => rfl) ?_
          refine xW.to (v := vi (zb ((decide (k = 81)) || ((decide (k = 83)) || (decide (k = 73)))))) (zb_t (by simp only [decide_eq_false hc1, decide_eq_false hc2, decide_eq_true hc3, Bool.true_or, Bool.or_true, Bool.false_or, Bool.or_false, Bool.true_and, Bool.and_true, Bool.false_and, Bool.and_false, Bool.not_true, Bool.not_false, cond_true, cond_false])) ?_
          exact J
  exact xW.retz (v0 := some (vi (zb ((decide (k = 81)) || ((decide (k = 83)) || (decide (k = 73))))))) (h1 := xhp s) (c := (zb ((decide (k = 81)) || ((decide (k = 83)) || (decide (k = 73))))) = 0 ∨ (zb ((decide (k = 81)) || ((decide (k = 83)) || (decide (k = 73))))) = 1) 1 (fun _ _ _ _ => rfl) (zb01 _) g
noncomputable def te_isFunction (k : Int32) : Bool := ((decide (k = 81)) || ((decide (k = 83)) || (decide (k = 73))))
set_option maxRecDepth 100000 in
theorem m26 {xs : Nat → Int32} {Ls : Nat} {Ψ : xO → xH → Prop} (s : xS) (k : Int32) (h : Ψ (.inl (some (vi (zb (te_isFunction k))))) (xhp s)) : xM (xX0 xs Ls) 26 [vi k] (xhp s) Ψ := by
  unfold te_isFunction at h
  exact xM.of (P := p26) rfl rfl rfl (b26_0 s k (h))
/-! te_isRecall -/
theorem b27_0 {xs : Nat → Int32} {Ls : Nat} {Φ : Option xV → xH → Prop} (s : xS) (k : Int32) (g : Φ (some (vi (zb ((!decide (k < 97)) && (!decide (106 < k)))))) (xhp s)) : xW (xX0 xs Ls) p27 0 [(0, vi k)] [] (xhp s) Φ := by
  refine xW.seg (pc1 := 3) (L1 := [(0, vi k)]) (st1 := [vi 97, vi k]) (h1 := xhp s) 2 (fun _ _ _ _ => rfl) ?_
  suffices J : xW (xX0 xs Ls) p27 17 [(0, vi k)] [vi (zb ((!decide (k < 97)) && (!decide (106 < k))))] (xhp s) Φ by
    refine xW.br (c := k < 97) (pc1 := 16) (L1 := [(0, vi k)]) (st1 := []) (h1 := xhp s) (pc2 := 6) (L2 := [(0, vi k)]) (st2 := []) (h2 := xhp s) 1 (fun _ _ _ _ => rfl) (fun hc => ?_) (fun hc => ?_)
    · have hc1 : k < 97 := hc
      refine xW.seg (pc1 := 17) (L1 := [(0, vi k)]) (st1 := [vi 0]) (h1 := xhp s) 1 (fun _ _ _ _ => rfl) ?_
      refine xW.to (v := vi (zb ((!decide (k < 97)) && (!decide (106 < k))))) (zb_f (by simp only [decide_eq_true hc1, Bool.true_or, Bool.or_true, Bool.false_or, Bool.or_false, Bool.true_and, Bool.and_true, Bool.false_and, Bool.and_false, Bool.not_true, Bool.not_false, cond_true, cond_false])) ?_
      exact J
    · have hc1 : ¬ (k < 97) := hc
      refine xW.br (c := 106 < k) (pc1 := 16) (L1 := [(0, vi k)]) (st1 := []) (h1 := xhp s) (pc2 := 12) (L2 := [(0, vi k)]) (st2 := []) (h2 := xhp s) 3 (fun _ _ _ _ => rfl) (fun hc => ?_) (fun hc => ?_)
      · have hc2 : 106 < k := hc
        refine xW.seg (pc1 := 17) (L1 := [(0, vi k)]) (st1 := [vi 0]) (h1 := xhp s) 1 (fun _ _ _ _ => rfl) ?_
        refine xW.to (v := vi (zb ((!decide (k < 97)) && (!decide (106 < k))))) (zb_f (by simp only [decide_eq_false hc1, decide_eq_true hc2, Bool.true_or, Bool.or_true, Bool.false_or, Bool.or_false, Bool.true_and, Bool.and_true, Bool.false_and, Bool.and_false, Bool.not_true, Bool.not_false, cond_true, cond_false])) ?_
        exact J
      · have hc2 : ¬ (106 < k) := hc
        refine xW.seg (pc1 := 17) (L1 := [(0, vi k)]) (st1 := [vi 1]) (h1 := xhp s) 2 (fun _ _ _ _ => rfl) ?_
        refine xW.to (v := vi (zb ((!decide (k < 97)) && (!decide (106 < k))))) (zb_t (by simp only [decide_eq_false hc1, decide_eq_false hc2, Bool.true_or, Bool.or_true, Bool.false_or, Bool.or_false, Bool.true_and, Bool.and_true, Bool.false_and, Bool.and_false, Bool.not_true, Bool.not_false, cond_true, cond_false])) ?_
        exact J
  exact xW.retz (v0 := some (vi (zb ((!decide (k < 97)) && (!decide (106 < k)))))) (h1 := xhp s) (c := (zb ((!decide (k < 97)) && (!decide (106 < k)))) = 0 ∨ (zb ((!decide (k < 97)) && (!decide (106 < k)))) = 1) 1 (fun _ _ _ _ => rfl) (zb01 _) g
noncomputable def te_isRecall (k : Int32) : Bool := ((!decide (k < 97)) && (!decide (106 < k)))
set_option maxRecDepth 100000 in
theorem m27 {xs : Nat → Int32} {Ls : Nat} {Ψ : xO → xH → Prop} (s : xS) (k : Int32) (h : Ψ (.inl (some (vi (zb (te_isRecall k))))) (xhp s)) : xM (xX0 xs Ls) 27 [vi k] (xhp s) Ψ := by
  unfold te_isRecall at h
  exact xM.of (P := p27) rfl rfl rfl (b27_0 s k (h))
/-! te_isRowKey -/
theorem b28_0 {xs : Nat → Int32} {Ls : Nat} {Φ : Option xV → xH → Prop} (s : xS) (k : Int32) (g : Φ (some (vi (zb ((te_isOperation k) || ((decide (k = 40)) || ((decide (k = 41)) || (decide (k = 61)))))))) (xhp s)) : xW (xX0 xs Ls) p28 0 [(0, vi k)] [] (xhp s) Φ := by
  refine xW.call (y := 25) (as := [vi k]) (h0 := xhp s) (pc0 := 1) (len := 3) (L0 := [(0, vi k)]) (rest := []) 2 (fun _ _ _ _ => rfl) (m25 _ _ ?_)
  show xW (xX0 xs Ls) p28 4 [(0, vi k)] [vi (zb (te_isOperation k))] (xhp s) Φ
  suffices J : xW (xX0 xs Ls) p28 30 [(0, vi k)] [vi (zb ((te_isOperation k) || ((decide (k = 40)) || ((decide (k = 41)) || (decide (k = 61))))))] (xhp s) Φ by
    refine xW.br (c := ¬ (zb (te_isOperation k)) = 0) (pc1 := 25) (L1 := [(0, vi k)]) (st1 := []) (h1 := xhp s) (pc2 := 7) (L2 := [(0, vi k)]) (st2 := []) (h2 := xhp s) 1 (fun _ _ _ _ => rfl) (fun hc => ?_) (fun hc => ?_)
    · have hc1 : (te_isOperation k) = true := (zb_ne0.mp hc)
      refine xW.seg (pc1 := 30) (L1 := [(0, vi k)]) (st1 := [vi 1]) (h1 := xhp s) 2 (fun _ _ _ _ => rfl) ?_
      refine xW.to (v := vi (zb ((te_isOperation k) || ((decide (k = 40)) || ((decide (k = 41)) || (decide (k = 61))))))) (zb_t (by simp only [hc1, Bool.true_or, Bool.or_true, Bool.false_or, Bool.or_false, Bool.true_and, Bool.and_true, Bool.false_and, Bool.and_false, Bool.not_true, Bool.not_false, cond_true, cond_false])) ?_
      exact J
    · have hc1 : (te_isOperation k) = false := (zb_eq0.mp (Decidable.not_not.mp hc))
      refine xW.br (c := k = 40) (pc1 := 25) (L1 := [(0, vi k)]) (st1 := []) (h1 := xhp s) (pc2 := 13) (L2 := [(0, vi k)]) (st2 := []) (h2 := xhp s) 3 (fun _ _ _ _ => rfl) (fun hc => ?_) (fun hc => ?_)
      · have hc2 : k = 40 := hc
        refine xW.seg (pc1 := 30) (L1 := [(0, vi k)]) (st1 := [vi 1]) (h1 := xhp s) 2 (fun _ _ _ _ => rfl) ?_
        refine xW.to (v := vi (zb ((te_isOperation k) || ((decide (k = 40)) || ((decide (k = 41)) || (decide (k = 61))))))) (zb_t (by simp only [hc1, decide_eq_true hc2, Bool.true_or, Bool.or_true, Bool.false_or, Bool.or_false, Bool.true_and, Bool.and_true, Bool.false_and, Bool.and_false, Bool.not_true, Bool.not_false, cond_true, cond_false])) ?_
        exact J
      · have hc2 : ¬ (k = 40) := hc
        refine xW.br (c := k = 41) (pc1 := 25) (L1 := [(0, vi k)]) (st1 := []) (h1 := xhp s) (pc2 := 19) (L2 := [(0, vi k)]) (st2 := []) (h2 := xhp s) 3 (fun _ _ _ _ => rfl) (fun hc => ?_) (fun hc => ?_)
        · have hc3 : k = 41 := hc
          refine xW.seg (pc1 := 30) (L1 := [(0, vi k)]) (st1 := [vi 1]) (h1 := xhp s) 2 (fun _ _ _ _ => rfl) ?_
          refine xW.to (v := vi (zb ((te_isOperation k) || ((decide (k = 40)) || ((decide (k = 41)) || (decide (k = 61))))))) (zb_t (by simp only [hc1, decide_eq_false hc2, decide_eq_true hc3, Bool.true_or, Bool.or_true, Bool.false_or, Bool.or_false, Bool.true_and, Bool.and_true, Bool.false_and, Bool.and_false, Bool.not_true, Bool.not_false, cond_true, cond_false])) ?_
          exact J
        · have hc3 : ¬ (k = 41) := hc
          refine xW.br (c := ¬ k = 61) (pc1 := 29) (L1 := [(0, vi k)]) (st1 := []) (h1 := xhp s) (pc2 := 25) (L2 := [(0, vi k)]) (st2 := []) (h2 := xhp s) 3 (fun _ _ _ _ => rfl) (fun hc => ?_) (fun hc => ?_)
          · have hc4 : ¬ k = 61 := hc
            refine xW.seg (pc1 := 30) (L1 := [(0, vi k)]) (st1 := [vi 0]) (h1 := xhp s) 1 (fun _ _ _ _ => rfl) ?_
            refine xW.to (v := vi (zb ((te_isOperation k) || ((decide (k = 40)) || ((decide (k = 41)) || (decide (k = 61))))))) (zb_f (by simp only [hc1, decide_eq_false hc2, decide_eq_false hc3, decide_eq_false hc4, Bool.true_or, Bool.or_true, Bool.false_or, Bool.or_false, Bool.true_and, Bool.and_true, Bool.false_and, Bool.and_false, Bool.not_true, Bool.not_false, cond_true, cond_false])) ?_
            exact J
          · have hc4 : k = 61 := (Decidable.not_not.mp hc)
            refine xW.seg (pc1 := 30) (L1 := [(0, vi k)]) (st1 := [vi 1]) (h1 := xhp s) 2 (fun _ _ _ _ => rfl) ?_
            refine xW.to (v := vi (zb ((te_isOperation k) || ((decide (k = 40)) || ((decide (k = 41)) || (decide (k = 61))))))) (zb_t (by simp only [hc1, decide_eq_false hc2, decide_eq_false hc3, decide_eq_true hc4, Bool.true_or, Bool.or_true, Bool.false_or, Bool.or_false, Bool.true_and, Bool.and_true, Bool.false_and, Bool.and_false, Bool.not_true, Bool.not_false, cond_true, cond_false])) ?_
            exact J
  exact xW.retz (v0 := some (vi (zb ((te_isOperation k) || ((decide (k = 40)) || ((decide (k = 41)) || (decide (k = 61)))))))) (h1 := xhp s) (c := (zb ((te_isOperation k) || ((decide (k = 40)) || ((decide (k = 41)) || (decide (k = 61)))))) = 0 ∨ (zb ((te_isOperation k) || ((decide (k = 40)) || ((decide (k = 41)) || (decide (k = 61)))))) = 1) 1 (fun _ _ _ _ => rfl) (zb01 _) g
noncomputable def te_isRowKey (k : Int32) : Bool := ((te_isOperation k) || ((decide (k = 40)) || ((decide (k = 41)) || (decide (k = 61)))))
set_option maxRecDepth 100000 in
theorem m28 {xs : Nat → Int32} {Ls : Nat} {Ψ : xO → xH → Prop} (s : xS) (k : Int32) (h : Ψ (.inl (some (vi (zb (te_isRowKey k))))) (xhp s)) : xM (xX0 xs Ls) 28 [vi k] (xhp s) Ψ := by
  unfold te_isRowKey at h
  exact xM.of (P := p28) rfl rfl rfl (b28_0 s k (h))
/-! te_nearest -/
theorem b29_0 {xs : Nat → Int32} {Ls : Nat} {Φ : Option xV → xH → Prop} (s : xS) (w : Int64) (q : Int64) (m : Int32) (g : ((¬ q = 0) ∧ ((¬ q = 0) ∧ Φ (some (vl (if ((decide (q < (2 * (w - w / q * q)))) || ((decide ((2 * (w - w / q * q)) = q)) && ((!decide (m = 0)) || (decide (((w / q) &&& 1) = 1))))) = true then ((w / q) + 1) else (w / q)))) (xhp s)))) : xW (xX0 xs Ls) p29 0 [(0, vl w), (2, vl q), (4, vi m)] [] (xhp s) Φ := by
  refine xW.side (c := ¬ q = 0) (pc1 := 3) (L1 := [(0, vl w), (2, vl q), (4, vi m)]) (st1 := [vl (w / q)]) (h1 := xhp s) 3 (fun _ _ _ _ => rfl) g.1 ?_
  replace g := g.2
  refine xW.side (c := ¬ q = 0) (pc1 := 11) (L1 := [(5, vl (w / q)), (0, vl w), (2, vl q), (4, vi m)]) (st1 := [vl (w - w / q * q), vl 2]) (h1 := xhp s) 5 (fun _ _ _ _ => rfl) g.1 ?_
  replace g := g.2
  refine xW.seg (pc1 := 20) (L1 := [(7, vl (2 * (w - w / q * q))), (5, vl (w / q)), (0, vl w), (2, vl q), (4, vi m)]) (st1 := [vi (lg_cmp ((w / q) &&& 1) 1)]) (h1 := xhp s) 7 (fun _ _ _ _ => rfl) ?_
  suffices J : xW (xX0 xs Ls) p29 28 [(7, vl (2 * (w - w / q * q))), (5, vl (w / q)), (0, vl w), (2, vl q), (4, vi m)] [vi (zb (decide (((w / q) &&& 1) = 1)))] (xhp s) Φ by
    refine xW.br (c := ¬ (lg_cmp ((w / q) &&& 1) 1) = 0) (pc1 := 27) (L1 := [(7, vl (2 * (w - w / q * q))), (5, vl (w / q)), (0, vl w), (2, vl q), (4, vi m)]) (st1 := []) (h1 := xhp s) (pc2 := 23) (L2 := [(7, vl (2 * (w - w / q * q))), (5, vl (w / q)), (0, vl w), (2, vl q), (4, vi m)]) (st2 := []) (h2 := xhp s) 1 (fun _ _ _ _ => rfl) (fun hc => ?_) (fun hc => ?_)
    · have hc1 : ¬ ((w / q) &&& 1) = 1 := (fun q => hc (lc_eq.mpr q))
      refine xW.seg (pc1 := 28) (L1 := [(7, vl (2 * (w - w / q * q))), (5, vl (w / q)), (0, vl w), (2, vl q), (4, vi m)]) (st1 := [vi 0]) (h1 := xhp s) 1 (fun _ _ _ _ => rfl) ?_
      refine xW.to (v := vi (zb (decide (((w / q) &&& 1) = 1)))) (zb_f (by simp only [decide_eq_false hc1, Bool.true_or, Bool.or_true, Bool.false_or, Bool.or_false, Bool.true_and, Bool.and_true, Bool.false_and, Bool.and_false, Bool.not_true, Bool.not_false, cond_true, cond_false])) ?_
      exact J
    · have hc1 : ((w / q) &&& 1) = 1 := (lc_eq.mp (Decidable.not_not.mp hc))
      refine xW.seg (pc1 := 28) (L1 := [(7, vl (2 * (w - w / q * q))), (5, vl (w / q)), (0, vl w), (2, vl q), (4, vi m)]) (st1 := [vi 1]) (h1 := xhp s) 2 (fun _ _ _ _ => rfl) ?_
      refine xW.to (v := vi (zb (decide (((w / q) &&& 1) = 1)))) (zb_t (by simp only [decide_eq_true hc1, Bool.true_or, Bool.or_true, Bool.false_or, Bool.or_false, Bool.true_and, Bool.and_true, Bool.false_and, Bool.and_false, Bool.not_true, Bool.not_false, cond_true, cond_false])) ?_
      exact J
  refine xW.seg (pc1 := 34) (L1 := [(9, vi (zb (decide (((w / q) &&& 1) = 1)))), (7, vl (2 * (w - w / q * q))), (5, vl (w / q)), (0, vl w), (2, vl q), (4, vi m)]) (st1 := [vi (lg_cmp (2 * (w - w / q * q)) q)]) (h1 := xhp s) 4 (fun _ _ _ _ => rfl) ?_
  suffices J : xW (xX0 xs Ls) p29 59 [(9, vi (zb (decide (((w / q) &&& 1) = 1)))), (7, vl (2 * (w - w / q * q))), (5, vl (w / q)), (0, vl w), (2, vl q), (4, vi m)] [vi (zb ((decide (q < (2 * (w - w / q * q)))) || ((decide ((2 * (w - w / q * q)) = q)) && ((!decide (m = 0)) || (decide (((w / q) &&& 1) = 1))))))] (xhp s) Φ by
    refine xW.br (c := 0 < (lg_cmp (2 * (w - w / q * q)) q)) (pc1 := 54) (L1 := [(9, vi (zb (decide (((w / q) &&& 1) = 1)))), (7, vl (2 * (w - w / q * q))), (5, vl (w / q)), (0, vl w), (2, vl q), (4, vi m)]) (st1 := []) (h1 := xhp s) (pc2 := 37) (L2 := [(9, vi (zb (decide (((w / q) &&& 1) = 1)))), (7, vl (2 * (w - w / q * q))), (5, vl (w / q)), (0, vl w), (2, vl q), (4, vi m)]) (st2 := []) (h2 := xhp s) 1 (fun _ _ _ _ => rfl) (fun hc => ?_) (fun hc => ?_)
    · have hc2 : q < (2 * (w - w / q * q)) := (lc_gt.mp hc)
      refine xW.seg (pc1 := 59) (L1 := [(9, vi (zb (decide (((w / q) &&& 1) = 1)))), (7, vl (2 * (w - w / q * q))), (5, vl (w / q)), (0, vl w), (2, vl q), (4, vi m)]) (st1 := [vi 1]) (h1 := xhp s) 2 (fun _ _ _ _ => rfl) ?_
      refine xW.to (v := vi (zb ((decide (q < (2 * (w - w / q * q)))) || ((decide ((2 * (w - w / q * q)) = q)) && ((!decide (m = 0)) || (decide (((w / q) &&& 1) = 1))))))) (zb_t (by simp only [decide_eq_true hc2, Bool.true_or, Bool.or_true, Bool.false_or, Bool.or_false, Bool.true_and, Bool.and_true, Bool.false_and, Bool.and_false, Bool.not_true, Bool.not_false, cond_true, cond_false])) ?_
      exact J
    · have hc2 : ¬ (q < (2 * (w - w / q * q))) := (fun q => hc (lc_gt.mpr q))
      refine xW.br (c := ¬ (lg_cmp (2 * (w - w / q * q)) q) = 0) (pc1 := 58) (L1 := [(9, vi (zb (decide (((w / q) &&& 1) = 1)))), (7, vl (2 * (w - w / q * q))), (5, vl (w / q)), (0, vl w), (2, vl q), (4, vi m)]) (st1 := []) (h1 := xhp s) (pc2 := 44) (L2 := [(9, vi (zb (decide (((w / q) &&& 1) = 1)))), (7, vl (2 * (w - w / q * q))), (5, vl (w / q)), (0, vl w), (2, vl q), (4, vi m)]) (st2 := []) (h2 := xhp s) 4 (fun _ _ _ _ => rfl) (fun hc => ?_) (fun hc => ?_)
      · have hc3 : ¬ (2 * (w - w / q * q)) = q := (fun q => hc (lc_eq.mpr q))
        refine xW.seg (pc1 := 59) (L1 := [(9, vi (zb (decide (((w / q) &&& 1) = 1)))), (7, vl (2 * (w - w / q * q))), (5, vl (w / q)), (0, vl w), (2, vl q), (4, vi m)]) (st1 := [vi 0]) (h1 := xhp s) 1 (fun _ _ _ _ => rfl) ?_
        refine xW.to (v := vi (zb ((decide (q < (2 * (w - w / q * q)))) || ((decide ((2 * (w - w / q * q)) = q)) && ((!decide (m = 0)) || (decide (((w / q) &&& 1) = 1))))))) (zb_f (by simp only [decide_eq_false hc2, decide_eq_false hc3, Bool.true_or, Bool.or_true, Bool.false_or, Bool.or_false, Bool.true_and, Bool.and_true, Bool.false_and, Bool.and_false, Bool.not_true, Bool.not_false, cond_true, cond_false])) ?_
        exact J
      · have hc3 : (2 * (w - w / q * q)) = q := (lc_eq.mp (Decidable.not_not.mp hc))
        refine xW.br (c := ¬ m = 0) (pc1 := 54) (L1 := [(9, vi (zb (decide (((w / q) &&& 1) = 1)))), (7, vl (2 * (w - w / q * q))), (5, vl (w / q)), (0, vl w), (2, vl q), (4, vi m)]) (st1 := []) (h1 := xhp s) (pc2 := 49) (L2 := [(9, vi (zb (decide (((w / q) &&& 1) = 1)))), (7, vl (2 * (w - w / q * q))), (5, vl (w / q)), (0, vl w), (2, vl q), (4, vi m)]) (st2 := []) (h2 := xhp s) 2 (fun _ _ _ _ => rfl) (fun hc => ?_) (fun hc => ?_)
        · have hc4 : ¬ m = 0 := hc
          refine xW.seg (pc1 := 59) (L1 := [(9, vi (zb (decide (((w / q) &&& 1) = 1)))), (7, vl (2 * (w - w / q * q))), (5, vl (w / q)), (0, vl w), (2, vl q), (4, vi m)]) (st1 := [vi 1]) (h1 := xhp s) 2 (fun _ _ _ _ => rfl) ?_
          refine xW.to (v := vi (zb ((decide (q < (2 * (w - w / q * q)))) || ((decide ((2 * (w - w / q * q)) = q)) && ((!decide (m = 0)) || (decide (((w / q) &&& 1) = 1))))))) (zb_t (by simp only [decide_eq_false hc2, decide_eq_true hc3, decide_eq_false hc4, Bool.true_or, Bool.or_true, Bool.false_or, Bool.or_false, Bool.true_and, Bool.and_true, Bool.false_and, Bool.and_false, Bool.not_true, Bool.not_false, cond_true, cond_false])) ?_
          exact J
        · have hc4 : m = 0 := (Decidable.not_not.mp hc)
          refine xW.br (c := (zb (decide (((w / q) &&& 1) = 1))) = 0) (pc1 := 58) (L1 := [(9, vi (zb (decide (((w / q) &&& 1) = 1)))), (7, vl (2 * (w - w / q * q))), (5, vl (w / q)), (0, vl w), (2, vl q), (4, vi m)]) (st1 := []) (h1 := xhp s) (pc2 := 54) (L2 := [(9, vi (zb (decide (((w / q) &&& 1) = 1)))), (7, vl (2 * (w - w / q * q))), (5, vl (w / q)), (0, vl w), (2, vl q), (4, vi m)]) (st2 := []) (h2 := xhp s) 2 (fun _ _ _ _ => rfl) (fun hc => ?_) (fun hc => ?_)
          · have hc5 : (decide (((w / q) &&& 1) = 1)) = false := (zb_eq0.mp hc)
            refine xW.seg (pc1 := 59) (L1 := [(9, vi (zb (decide (((w / q) &&& 1) = 1)))), (7, vl (2 * (w - w / q * q))), (5, vl (w / q)), (0, vl w), (2, vl q), (4, vi m)]) (st1 := [vi 0]) (h1 := xhp s) 1 (fun _ _ _ _ => rfl) ?_
            refine xW.to (v := vi (zb ((decide (q < (2 * (w - w / q * q)))) || ((decide ((2 * (w - w / q * q)) = q)) && ((!decide (m = 0)) || (decide (((w / q) &&& 1) = 1))))))) (zb_f (by simp only [decide_eq_false hc2, decide_eq_true hc3, decide_eq_true hc4, hc5, Bool.true_or, Bool.or_true, Bool.false_or, Bool.or_false, Bool.true_and, Bool.and_true, Bool.false_and, Bool.and_false, Bool.not_true, Bool.not_false, cond_true, cond_false])) ?_
            exact J
          · have hc5 : (decide (((w / q) &&& 1) = 1)) = true := (zb_ne0.mp hc)
            refine xW.seg (pc1 := 59) (L1 := [(9, vi (zb (decide (((w / q) &&& 1) = 1)))), (7, vl (2 * (w - w / q * q))), (5, vl (w / q)), (0, vl w), (2, vl q), (4, vi m)]) (st1 := [vi 1]) (h1 := xhp s) 2 (fun _ _ _ _ => rfl) ?_
            refine xW.to (v := vi (zb ((decide (q < (2 * (w - w / q * q)))) || ((decide ((2 * (w - w / q * q)) = q)) && ((!decide (m = 0)) || (decide (((w / q) &&& 1) = 1))))))) (zb_t (by simp only [decide_eq_false hc2, decide_eq_true hc3, decide_eq_true hc4, hc5, Bool.true_or, Bool.or_true, Bool.false_or, Bool.or_false, Bool.true_and, Bool.and_true, Bool.false_and, Bool.and_false, Bool.not_true, Bool.not_false, cond_true, cond_false])) ?_
            exact J
  refine xW.seg (pc1 := 63) (L1 := [(10, vi (zb ((decide (q < (2 * (w - w / q * q)))) || ((decide ((2 * (w - w / q * q)) = q)) && ((!decide (m = 0)) || (decide (((w / q) &&& 1) = 1))))))), (9, vi (zb (decide (((w / q) &&& 1) = 1)))), (7, vl (2 * (w - w / q * q))), (5, vl (w / q)), (0, vl w), (2, vl q), (4, vi m)]) (st1 := [vi (zb ((decide (q < (2 * (w - w / q * q)))) || ((decide ((2 * (w - w / q * q)) = q)) && ((!decide (m = 0)) || (decide (((w / q) &&& 1) = 1))))))]) (h1 := xhp s) 2 (fun _ _ _ _ => rfl) ?_
  suffices J : xW (xX0 xs Ls) p29 75 [(10, vi (zb ((decide (q < (2 * (w - w / q * q)))) || ((decide ((2 * (w - w / q * q)) = q)) && ((!decide (m = 0)) || (decide (((w / q) &&& 1) = 1))))))), (9, vi (zb (decide (((w / q) &&& 1) = 1)))), (7, vl (2 * (w - w / q * q))), (5, vl (w / q)), (0, vl w), (2, vl q), (4, vi m)] [vl (if ((decide (q < (2 * (w - w / q * q)))) || ((decide ((2 * (w - w / q * q)) = q)) && ((!decide (m = 0)) || (decide (((w / q) &&& 1) = 1))))) = true then ((w / q) + 1) else (w / q))] (xhp s) Φ by
    refine xW.br (c := (zb ((decide (q < (2 * (w - w / q * q)))) || ((decide ((2 * (w - w / q * q)) = q)) && ((!decide (m = 0)) || (decide (((w / q) &&& 1) = 1)))))) = 0) (pc1 := 73) (L1 := [(10, vi (zb ((decide (q < (2 * (w - w / q * q)))) || ((decide ((2 * (w - w / q * q)) = q)) && ((!decide (m = 0)) || (decide (((w / q) &&& 1) = 1))))))), (9, vi (zb (decide (((w / q) &&& 1) = 1)))), (7, vl (2 * (w - w / q * q))), (5, vl (w / q)), (0, vl w), (2, vl q), (4, vi m)]) (st1 := []) (h1 := xhp s) (pc2 := 66) (L2 := [(10, vi (zb ((decide (q < (2 * (w - w / q * q)))) || ((decide ((2 * (w - w / q * q)) = q)) && ((!decide (m = 0)) || (decide (((w / q) &&& 1) = 1))))))), (9, vi (zb (decide (((w / q) &&& 1) = 1)))), (7, vl (2 * (w - w / q * q))), (5, vl (w / q)), (0, vl w), (2, vl q), (4, vi m)]) (st2 := []) (h2 := xhp s) 1 (fun _ _ _ _ => rfl) (fun hc => ?_) (fun hc => ?_)
    · have hc6 : ((decide (q < (2 * (w - w / q * q)))) || ((decide ((2 * (w - w / q * q)) = q)) && ((!decide (m = 0)) || (decide (((w / q) &&& 1) = 1))))) = false := (zb_eq0.mp hc)
      refine xW.seg (pc1 := 75) (L1 := [(10, vi (zb ((decide (q < (2 * (w - w / q * q)))) || ((decide ((2 * (w - w / q * q)) = q)) && ((!decide (m = 0)) || (decide (((w / q) &&& 1) = 1))))))), (9, vi (zb (decide (((w / q) &&& 1) = 1)))), (7, vl (2 * (w - w / q * q))), (5, vl (w / q)), (0, vl w), (2, vl q), (4, vi m)]) (st1 := [vl (w / q)]) (h1 := xhp s) 1 (fun _ _ _ _ => rfl) ?_
      refine xW.to (v := vl (if ((decide (q < (2 * (w - w / q * q)))) || ((decide ((2 * (w - w / q * q)) = q)) && ((!decide (m = 0)) || (decide (((w / q) &&& 1) = 1))))) = true then ((w / q) + 1) else (w / q))) ((congrArg vl (if_neg (by rw [hc6]; decide : ¬ (((decide (q < (2 * (w - w / q * q)))) || ((decide ((2 * (w - w / q * q)) = q)) && ((!decide (m = 0)) || (decide (((w / q) &&& 1) = 1))))) = true)))).symm) ?_
      exact J
    · have hc6 : ((decide (q < (2 * (w - w / q * q)))) || ((decide ((2 * (w - w / q * q)) = q)) && ((!decide (m = 0)) || (decide (((w / q) &&& 1) = 1))))) = true := (zb_ne0.mp hc)
      refine xW.seg (pc1 := 75) (L1 := [(10, vi (zb ((decide (q < (2 * (w - w / q * q)))) || ((decide ((2 * (w - w / q * q)) = q)) && ((!decide (m = 0)) || (decide (((w / q) &&& 1) = 1))))))), (9, vi (zb (decide (((w / q) &&& 1) = 1)))), (7, vl (2 * (w - w / q * q))), (5, vl (w / q)), (0, vl w), (2, vl q), (4, vi m)]) (st1 := [vl ((w / q) + 1)]) (h1 := xhp s) 4 (fun _ _ _ _ => rfl) ?_
      refine xW.to (v := vl (if ((decide (q < (2 * (w - w / q * q)))) || ((decide ((2 * (w - w / q * q)) = q)) && ((!decide (m = 0)) || (decide (((w / q) &&& 1) = 1))))) = true then ((w / q) + 1) else (w / q))) ((congrArg vl (if_pos hc6)).symm) ?_
      exact J
  exact xW.ret (v0 := some (vl (if ((decide (q < (2 * (w - w / q * q)))) || ((decide ((2 * (w - w / q * q)) = q)) && ((!decide (m = 0)) || (decide (((w / q) &&& 1) = 1))))) = true then ((w / q) + 1) else (w / q)))) (h1 := xhp s) 1 (fun _ _ _ _ => rfl) g
noncomputable def te_nearest (s : xS) (w : Int64) (q : Int64) (m : Int32) : Int64 := (if ((decide (q < (2 * (w - w / q * q)))) || ((decide ((2 * (w - w / q * q)) = q)) && ((!decide (m = 0)) || (decide (((w / q) &&& 1) = 1))))) = true then ((w / q) + 1) else (w / q))
def te_nearest_ok (s : xS) (w : Int64) (q : Int64) (m : Int32) : Prop := ((¬ q = 0) ∧ (¬ q = 0))
set_option maxRecDepth 100000 in
theorem m29 {xs : Nat → Int32} {Ls : Nat} {Ψ : xO → xH → Prop} (s : xS) (w : Int64) (q : Int64) (m : Int32) (gq : te_nearest_ok s w q m) (h : Ψ (.inl (some (vl (te_nearest s w q m)))) (xhp s)) : xM (xX0 xs Ls) 29 [vl w, vl q, vi m] (xhp s) Ψ := by
  unfold te_nearest at h
  unfold te_nearest_ok at gq
  exact xM.of (P := p29) rfl rfl rfl (b29_0 s w q m (⟨gq.1, by replace gq := gq.2; exact ⟨gq, h⟩⟩))
/-! de_set -/
theorem b137_0 {xs : Nat → Int32} {Ls : Nat} {Φ : Option xV → xH → Prop} (s : xS) (a : Nat) (b : Nat) (g : Φ none (xhp (sI (sJ s a 0 (gJ s b 0)) a 1 (gI s b 1)))) : xW (xX0 xs Ls) p137 0 [(0, vr 5 a), (1, vr 5 b)] [] (xhp s) Φ := by
  exact xW.ret (v0 := none) (h1 := xhp (sI (sJ s a 0 (gJ s b 0)) a 1 (gI s b 1))) 9 (fun _ _ _ _ => rfl) g
noncomputable def de_set_d (s : xS) (a : Nat) (b : Nat) : xS := (sI (sJ s a 0 (gJ s b 0)) a 1 (gI s b 1))
noncomputable def de_set : xS → Nat → Nat → xS := Classical.choose (⟨de_set_d, rfl⟩ : ∃ f, f = de_set_d)
set_option maxRecDepth 100000 in
theorem de_set_eq : de_set = de_set_d := Classical.choose_spec (⟨de_set_d, rfl⟩ : ∃ f, f = de_set_d)
set_option maxRecDepth 100000 in
theorem m137 {xs : Nat → Int32} {Ls : Nat} {Ψ : xO → xH → Prop} (s : xS) (a : Nat) (b : Nat) (h : Ψ (.inl none) (xhp (de_set s a b))) : xM (xX0 xs Ls) 137 [vr 5 a, vr 5 b] (xhp s) Ψ := by
  rw [de_set_eq] at h
  unfold de_set_d at h
  exact xM.of (P := p137) rfl rfl rfl (b137_0 s a b (h))
/-! de_setDigit -/
theorem b138_0 {xs : Nat → Int32} {Ls : Nat} {Φ : Option xV → xH → Prop} (s : xS) (a : Nat) (d : Int32) (g : Φ none (xhp (sI (sJ s a 0 ((d.toInt64) * 100000000000)) a 1 0))) : xW (xX0 xs Ls) p138 0 [(0, vr 5 a), (1, vi d)] [] (xhp s) Φ := by
  refine xW.side (c := vp_in 11 19) (pc1 := 9) (L1 := [(0, vr 5 a), (1, vi d)]) (st1 := [vl 100000000000, vl (d.toInt64), vr 5 a]) (h1 := xhp s) 6 (fun _ _ _ _ => rfl) (vp_lit rfl) ?_
  exact xW.ret (v0 := none) (h1 := xhp (sI (sJ s a 0 ((d.toInt64) * 100000000000)) a 1 0)) 6 (fun _ _ _ _ => rfl) g
noncomputable def de_setDigit_d (s : xS) (a : Nat) (d : Int32) : xS := (sI (sJ s a 0 ((d.toInt64) * 100000000000)) a 1 0)
noncomputable def de_setDigit : xS → Nat → Int32 → xS := Classical.choose (⟨de_setDigit_d, rfl⟩ : ∃ f, f = de_setDigit_d)
set_option maxRecDepth 100000 in
theorem de_setDigit_eq : de_setDigit = de_setDigit_d := Classical.choose_spec (⟨de_setDigit_d, rfl⟩ : ∃ f, f = de_setDigit_d)
set_option maxRecDepth 100000 in
theorem m138 {xs : Nat → Int32} {Ls : Nat} {Ψ : xO → xH → Prop} (s : xS) (a : Nat) (d : Int32) (h : Ψ (.inl none) (xhp (de_setDigit s a d))) : xM (xX0 xs Ls) 138 [vr 5 a, vi d] (xhp s) Ψ := by
  rw [de_setDigit_eq] at h
  unfold de_setDigit_d at h
  exact xM.of (P := p138) rfl rfl rfl (b138_0 s a d (h))
/-! de_clear -/
theorem b139_0 {xs : Nat → Int32} {Ls : Nat} {Φ : Option xV → xH → Prop} (s : xS) (a : Nat) (g : Φ none (xhp (sI (sJ s a 0 0) a 1 0))) : xW (xX0 xs Ls) p139 0 [(0, vr 5 a)] [] (xhp s) Φ := by
  exact xW.ret (v0 := none) (h1 := xhp (sI (sJ s a 0 0) a 1 0)) 7 (fun _ _ _ _ => rfl) g
noncomputable def de_clear_d (s : xS) (a : Nat) : xS := (sI (sJ s a 0 0) a 1 0)
noncomputable def de_clear : xS → Nat → xS := Classical.choose (⟨de_clear_d, rfl⟩ : ∃ f, f = de_clear_d)
set_option maxRecDepth 100000 in
theorem de_clear_eq : de_clear = de_clear_d := Classical.choose_spec (⟨de_clear_d, rfl⟩ : ∃ f, f = de_clear_d)
set_option maxRecDepth 100000 in
theorem m139 {xs : Nat → Int32} {Ls : Nat} {Ψ : xO → xH → Prop} (s : xS) (a : Nat) (h : Ψ (.inl none) (xhp (de_clear s a))) : xM (xX0 xs Ls) 139 [vr 5 a] (xhp s) Ψ := by
  rw [de_clear_eq] at h
  unfold de_clear_d at h
  exact xM.of (P := p139) rfl rfl rfl (b139_0 s a (h))
/-! de_isBelowZero -/
theorem b140_0 {xs : Nat → Int32} {Ls : Nat} {Φ : Option xV → xH → Prop} (s : xS) (a : Nat) (g : Φ (some (vi (zb (!decide (0 ≤ (gJ s a 0)))))) (xhp s)) : xW (xX0 xs Ls) p140 0 [(0, vr 5 a)] [] (xhp s) Φ := by
  refine xW.seg (pc1 := 6) (L1 := [(0, vr 5 a)]) (st1 := [vi (lg_cmp (gJ s a 0) 0)]) (h1 := xhp s) 4 (fun _ _ _ _ => rfl) ?_
  suffices J : xW (xX0 xs Ls) p140 14 [(0, vr 5 a)] [vi (zb (!decide (0 ≤ (gJ s a 0))))] (xhp s) Φ by
    refine xW.br (c := 0 ≤ (lg_cmp (gJ s a 0) 0)) (pc1 := 13) (L1 := [(0, vr 5 a)]) (st1 := []) (h1 := xhp s) (pc2 := 9) (L2 := [(0, vr 5 a)]) (st2 := []) (h2 := xhp s) 1 (fun _ _ _ _ => rfl) (fun hc => ?_) (fun hc => ?_)
    · have hc1 : 0 ≤ (gJ s a 0) := (lc_ge.mp hc)
      refine xW.seg (pc1 := 14) (L1 := [(0, vr 5 a)]) (st1 := [vi 0]) (h1 := xhp s) 1 (fun _ _ _ _ => rfl) ?_
      refine xW.to (v := vi (zb (!decide (0 ≤ (gJ s a 0))))) (zb_f (by simp only [decide_eq_true hc1, Bool.true_or, Bool.or_true, Bool.false_or, Bool.or_false, Bool.true_and, Bool.and_true, Bool.false_and, Bool.and_false, Bool.not_true, Bool.not_false, cond_true, cond_false])) ?_
      exact J
    · have hc1 : ¬ (0 ≤ (gJ s a 0)) := (fun q => hc (lc_ge.mpr q))
      refine xW.seg (pc1 := 14) (L1 := [(0, vr 5 a)]) (st1 := [vi 1]) (h1 := xhp s) 2 (fun _ _ _ _ => rfl) ?_
      refine xW.to (v := vi (zb (!decide (0 ≤ (gJ s a 0))))) (zb_t (by simp only [decide_eq_false hc1, Bool.true_or, Bool.or_true, Bool.false_or, Bool.or_false, Bool.true_and, Bool.and_true, Bool.false_and, Bool.and_false, Bool.not_true, Bool.not_false, cond_true, cond_false])) ?_
      exact J
  exact xW.retz (v0 := some (vi (zb (!decide (0 ≤ (gJ s a 0)))))) (h1 := xhp s) (c := (zb (!decide (0 ≤ (gJ s a 0)))) = 0 ∨ (zb (!decide (0 ≤ (gJ s a 0)))) = 1) 1 (fun _ _ _ _ => rfl) (zb01 _) g
noncomputable def de_isBelowZero (s : xS) (a : Nat) : Bool := (!decide (0 ≤ (gJ s a 0)))
set_option maxRecDepth 100000 in
theorem m140 {xs : Nat → Int32} {Ls : Nat} {Ψ : xO → xH → Prop} (s : xS) (a : Nat) (h : Ψ (.inl (some (vi (zb (de_isBelowZero s a))))) (xhp s)) : xM (xX0 xs Ls) 140 [vr 5 a] (xhp s) Ψ := by
  unfold de_isBelowZero at h
  exact xM.of (P := p140) rfl rfl rfl (b140_0 s a (h))
/-! de_isSame -/
theorem b141_0 {xs : Nat → Int32} {Ls : Nat} {Φ : Option xV → xH → Prop} (s : xS) (a : Nat) (b : Nat) (g : Φ (some (vi (zb ((decide ((gJ s a 0) = (gJ s b 0))) && (decide ((gI s a 1) = (gI s b 1))))))) (xhp s)) : xW (xX0 xs Ls) p141 0 [(0, vr 5 a), (1, vr 5 b)] [] (xhp s) Φ := by
  refine xW.seg (pc1 := 9) (L1 := [(0, vr 5 a), (1, vr 5 b)]) (st1 := [vi (lg_cmp (gJ s a 0) (gJ s b 0))]) (h1 := xhp s) 5 (fun _ _ _ _ => rfl) ?_
  suffices J : xW (xX0 xs Ls) p141 28 [(0, vr 5 a), (1, vr 5 b)] [vi (zb ((decide ((gJ s a 0) = (gJ s b 0))) && (decide ((gI s a 1) = (gI s b 1)))))] (xhp s) Φ by
    refine xW.br (c := ¬ (lg_cmp (gJ s a 0) (gJ s b 0)) = 0) (pc1 := 27) (L1 := [(0, vr 5 a), (1, vr 5 b)]) (st1 := []) (h1 := xhp s) (pc2 := 12) (L2 := [(0, vr 5 a), (1, vr 5 b)]) (st2 := []) (h2 := xhp s) 1 (fun _ _ _ _ => rfl) (fun hc => ?_) (fun hc => ?_)
    · have hc1 : ¬ (gJ s a 0) = (gJ s b 0) := (fun q => hc (lc_eq.mpr q))
      refine xW.seg (pc1 := 28) (L1 := [(0, vr 5 a), (1, vr 5 b)]) (st1 := [vi 0]) (h1 := xhp s) 1 (fun _ _ _ _ => rfl) ?_
      refine xW.to (v := vi (zb ((decide ((gJ s a 0) = (gJ s b 0))) && (decide ((gI s a 1) = (gI s b 1)))))) (zb_f (by simp only [decide_eq_false hc1, Bool.true_or, Bool.or_true, Bool.false_or, Bool.or_false, Bool.true_and, Bool.and_true, Bool.false_and, Bool.and_false, Bool.not_true, Bool.not_false, cond_true, cond_false])) ?_
      exact J
    · have hc1 : (gJ s a 0) = (gJ s b 0) := (lc_eq.mp (Decidable.not_not.mp hc))
      refine xW.br (c := ¬ (gI s a 1) = (gI s b 1)) (pc1 := 27) (L1 := [(0, vr 5 a), (1, vr 5 b)]) (st1 := []) (h1 := xhp s) (pc2 := 23) (L2 := [(0, vr 5 a), (1, vr 5 b)]) (st2 := []) (h2 := xhp s) 5 (fun _ _ _ _ => rfl) (fun hc => ?_) (fun hc => ?_)
      · have hc2 : ¬ (gI s a 1) = (gI s b 1) := hc
        refine xW.seg (pc1 := 28) (L1 := [(0, vr 5 a), (1, vr 5 b)]) (st1 := [vi 0]) (h1 := xhp s) 1 (fun _ _ _ _ => rfl) ?_
        refine xW.to (v := vi (zb ((decide ((gJ s a 0) = (gJ s b 0))) && (decide ((gI s a 1) = (gI s b 1)))))) (zb_f (by simp only [decide_eq_true hc1, decide_eq_false hc2, Bool.true_or, Bool.or_true, Bool.false_or, Bool.or_false, Bool.true_and, Bool.and_true, Bool.false_and, Bool.and_false, Bool.not_true, Bool.not_false, cond_true, cond_false])) ?_
        exact J
      · have hc2 : (gI s a 1) = (gI s b 1) := (Decidable.not_not.mp hc)
        refine xW.seg (pc1 := 28) (L1 := [(0, vr 5 a), (1, vr 5 b)]) (st1 := [vi 1]) (h1 := xhp s) 2 (fun _ _ _ _ => rfl) ?_
        refine xW.to (v := vi (zb ((decide ((gJ s a 0) = (gJ s b 0))) && (decide ((gI s a 1) = (gI s b 1)))))) (zb_t (by simp only [decide_eq_true hc1, decide_eq_true hc2, Bool.true_or, Bool.or_true, Bool.false_or, Bool.or_false, Bool.true_and, Bool.and_true, Bool.false_and, Bool.and_false, Bool.not_true, Bool.not_false, cond_true, cond_false])) ?_
        exact J
  exact xW.retz (v0 := some (vi (zb ((decide ((gJ s a 0) = (gJ s b 0))) && (decide ((gI s a 1) = (gI s b 1))))))) (h1 := xhp s) (c := (zb ((decide ((gJ s a 0) = (gJ s b 0))) && (decide ((gI s a 1) = (gI s b 1))))) = 0 ∨ (zb ((decide ((gJ s a 0) = (gJ s b 0))) && (decide ((gI s a 1) = (gI s b 1))))) = 1) 1 (fun _ _ _ _ => rfl) (zb01 _) g
noncomputable def de_isSame (s : xS) (a : Nat) (b : Nat) : Bool := ((decide ((gJ s a 0) = (gJ s b 0))) && (decide ((gI s a 1) = (gI s b 1))))
set_option maxRecDepth 100000 in
theorem m141 {xs : Nat → Int32} {Ls : Nat} {Ψ : xO → xH → Prop} (s : xS) (a : Nat) (b : Nat) (h : Ψ (.inl (some (vi (zb (de_isSame s a b))))) (xhp s)) : xM (xX0 xs Ls) 141 [vr 5 a, vr 5 b] (xhp s) Ψ := by
  unfold de_isSame at h
  exact xM.of (P := p141) rfl rfl rfl (b141_0 s a b (h))
/-! de_isSmallerInSize -/
theorem b142_0 {xs : Nat → Int32} {Ls : Nat} {Φ : Option xV → xH → Prop} (s : xS) (a : Nat) (b : Nat) (g : (((gI s a 1) = (gI s b 1) → Φ (some (vi (zb (!decide ((labs (gJ s b 0)) ≤ (labs (gJ s a 0))))))) (xhp s)) ∧ (¬ ((gI s a 1) = (gI s b 1)) → Φ (some (vi (zb (!decide ((gI s b 1) ≤ (gI s a 1)))))) (xhp s)))) : xW (xX0 xs Ls) p142 0 [(0, vr 5 a), (1, vr 5 b)] [] (xhp s) Φ := by
  refine xW.br (c := (gI s a 1) = (gI s b 1)) (pc1 := 28) (L1 := [(0, vr 5 a), (1, vr 5 b)]) (st1 := []) (h1 := xhp s) (pc2 := 11) (L2 := [(0, vr 5 a), (1, vr 5 b)]) (st2 := []) (h2 := xhp s) 5 (fun _ _ _ _ => rfl) (fun hc => ?_) (fun hc => ?_)
  · replace g := g.1 hc
    refine xW.seg (pc1 := 43) (L1 := [(0, vr 5 a), (1, vr 5 b)]) (st1 := [vi (lg_cmp (labs (gJ s a 0)) (labs (gJ s b 0)))]) (h1 := xhp s) 7 (fun _ _ _ _ => rfl) ?_
    suffices J : xW (xX0 xs Ls) p142 51 [(0, vr 5 a), (1, vr 5 b)] [vi (zb (!decide ((labs (gJ s b 0)) ≤ (labs (gJ s a 0)))))] (xhp s) Φ by
      refine xW.br (c := 0 ≤ (lg_cmp (labs (gJ s a 0)) (labs (gJ s b 0)))) (pc1 := 50) (L1 := [(0, vr 5 a), (1, vr 5 b)]) (st1 := []) (h1 := xhp s) (pc2 := 46) (L2 := [(0, vr 5 a), (1, vr 5 b)]) (st2 := []) (h2 := xhp s) 1 (fun _ _ _ _ => rfl) (fun hc => ?_) (fun hc => ?_)
      · have hc1 : (labs (gJ s b 0)) ≤ (labs (gJ s a 0)) := (lc_ge.mp hc)
        refine xW.seg (pc1 := 51) (L1 := [(0, vr 5 a), (1, vr 5 b)]) (st1 := [vi 0]) (h1 := xhp s) 1 (fun _ _ _ _ => rfl) ?_
        refine xW.to (v := vi (zb (!decide ((labs (gJ s b 0)) ≤ (labs (gJ s a 0)))))) (zb_f (by simp only [decide_eq_true hc1, Bool.true_or, Bool.or_true, Bool.false_or, Bool.or_false, Bool.true_and, Bool.and_true, Bool.false_and, Bool.and_false, Bool.not_true, Bool.not_false, cond_true, cond_false])) ?_
        exact J
      · have hc1 : ¬ ((labs (gJ s b 0)) ≤ (labs (gJ s a 0))) := (fun q => hc (lc_ge.mpr q))
        refine xW.seg (pc1 := 51) (L1 := [(0, vr 5 a), (1, vr 5 b)]) (st1 := [vi 1]) (h1 := xhp s) 2 (fun _ _ _ _ => rfl) ?_
        refine xW.to (v := vi (zb (!decide ((labs (gJ s b 0)) ≤ (labs (gJ s a 0)))))) (zb_t (by simp only [decide_eq_false hc1, Bool.true_or, Bool.or_true, Bool.false_or, Bool.or_false, Bool.true_and, Bool.and_true, Bool.false_and, Bool.and_false, Bool.not_true, Bool.not_false, cond_true, cond_false])) ?_
        exact J
    exact xW.retz (v0 := some (vi (zb (!decide ((labs (gJ s b 0)) ≤ (labs (gJ s a 0))))))) (h1 := xhp s) (c := (zb (!decide ((labs (gJ s b 0)) ≤ (labs (gJ s a 0))))) = 0 ∨ (zb (!decide ((labs (gJ s b 0)) ≤ (labs (gJ s a 0))))) = 1) 1 (fun _ _ _ _ => rfl) (zb01 _) g
  · replace g := g.2 hc
    refine xW.seg (pc1 := 19) (L1 := [(0, vr 5 a), (1, vr 5 b)]) (st1 := [vi (gI s b 1), vi (gI s a 1)]) (h1 := xhp s) 4 (fun _ _ _ _ => rfl) ?_
    suffices J : xW (xX0 xs Ls) p142 27 [(0, vr 5 a), (1, vr 5 b)] [vi (zb (!decide ((gI s b 1) ≤ (gI s a 1))))] (xhp s) Φ by
      refine xW.br (c := (gI s b 1) ≤ (gI s a 1)) (pc1 := 26) (L1 := [(0, vr 5 a), (1, vr 5 b)]) (st1 := []) (h1 := xhp s) (pc2 := 22) (L2 := [(0, vr 5 a), (1, vr 5 b)]) (st2 := []) (h2 := xhp s) 1 (fun _ _ _ _ => rfl) (fun hc => ?_) (fun hc => ?_)
      · have hc2 : (gI s b 1) ≤ (gI s a 1) := hc
        refine xW.seg (pc1 := 27) (L1 := [(0, vr 5 a), (1, vr 5 b)]) (st1 := [vi 0]) (h1 := xhp s) 1 (fun _ _ _ _ => rfl) ?_
        refine xW.to (v := vi (zb (!decide ((gI s b 1) ≤ (gI s a 1))))) (zb_f (by simp only [decide_eq_true hc2, Bool.true_or, Bool.or_true, Bool.false_or, Bool.or_false, Bool.true_and, Bool.and_true, Bool.false_and, Bool.and_false, Bool.not_true, Bool.not_false, cond_true, cond_false])) ?_
        exact J
      · have hc2 : ¬ ((gI s b 1) ≤ (gI s a 1)) := hc
        refine xW.seg (pc1 := 27) (L1 := [(0, vr 5 a), (1, vr 5 b)]) (st1 := [vi 1]) (h1 := xhp s) 2 (fun _ _ _ _ => rfl) ?_
        refine xW.to (v := vi (zb (!decide ((gI s b 1) ≤ (gI s a 1))))) (zb_t (by simp only [decide_eq_false hc2, Bool.true_or, Bool.or_true, Bool.false_or, Bool.or_false, Bool.true_and, Bool.and_true, Bool.false_and, Bool.and_false, Bool.not_true, Bool.not_false, cond_true, cond_false])) ?_
        exact J
    exact xW.retz (v0 := some (vi (zb (!decide ((gI s b 1) ≤ (gI s a 1)))))) (h1 := xhp s) (c := (zb (!decide ((gI s b 1) ≤ (gI s a 1)))) = 0 ∨ (zb (!decide ((gI s b 1) ≤ (gI s a 1)))) = 1) 1 (fun _ _ _ _ => rfl) (zb01 _) g
noncomputable def de_isSmallerInSize (s : xS) (a : Nat) (b : Nat) : Bool := (if (gI s a 1) = (gI s b 1) then (!decide ((labs (gJ s b 0)) ≤ (labs (gJ s a 0)))) else (!decide ((gI s b 1) ≤ (gI s a 1))))
set_option maxRecDepth 100000 in
theorem m142 {xs : Nat → Int32} {Ls : Nat} {Ψ : xO → xH → Prop} (s : xS) (a : Nat) (b : Nat) (h : Ψ (.inl (some (vi (zb (de_isSmallerInSize s a b))))) (xhp s)) : xM (xX0 xs Ls) 142 [vr 5 a, vr 5 b] (xhp s) Ψ := by
  unfold de_isSmallerInSize at h
  exact xM.of (P := p142) rfl rfl rfl (b142_0 s a b (⟨fun hc => by rw [if_pos hc] at h; exact h, fun hc => by rw [if_neg hc] at h; exact h⟩))
