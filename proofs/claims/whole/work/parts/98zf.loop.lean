/-! THE LAW'S LOOP -/
def lwE (v : Option xV) (h : xH) : Prop := v = some (vi 1) ∧ xQ h ≤ 616624 ∧ xZ h ≤ 7246232
theorem ofN_i3 (n : Nat) : Int32.ofNat n = i3 (n : Int) := rfl
set_option maxRecDepth 100000 in
theorem law_loop {xs : Nat → Int32} {Ls : Nat} (hL : Ls ≤ 2048) : ∀ (n i : Nat) (s : xS) (A : aA), Ls < i + 4 * n + 4 → i ≤ Ls + 4 → LI s A → s.2.2.1 + n ≤ 10000 → s.2.2.2 + 6 * n ≤ 100000 → xW (xX0 xs Ls) p220 23 [(0, vr 50 0), (1, vr 0 0), (2, vr 12 230), (3, vr 41 243), (4, vi (i3 (i : Nat)))] [] (xhp s) lwE := by
  intro n
  induction n with
  | zero =>
    intro i s A k1 k2 h r1 r2
    refine xW.br (c := Int32.ofNat Ls - 4 < i3 (i : Nat)) (pc1 := 940) (L1 := [(0, vr 50 0), (1, vr 0 0), (2, vr 12 230), (3, vr 41 243), (4, vi (i3 (i : Nat)))]) (st1 := []) (h1 := xhp s) (pc2 := 32) (L2 := [(0, vr 50 0), (1, vr 0 0), (2, vr 12 230), (3, vr 41 243), (4, vi (i3 (i : Nat)))]) (st2 := []) (h2 := xhp s) 6 (fun _ _ _ _ => rfl) (fun _ => ?_) (fun q => absurd (by rw [ofN_i3, i3_lit, i3_sub, i3_lt (by omega)]; omega) q)
    exact xW.retz (v0 := some (vi 1)) (h1 := xhp s) (c := (1 : Int32) = 0 ∨ (1 : Int32) = 1) 2 (fun _ _ _ _ => rfl) (Or.inr rfl) ⟨rfl, by show s.2.2.1 ≤ 616624; omega, by show s.2.2.2 ≤ 7246232; omega⟩
  | succ n ih =>
    intro i s A k1 k2 h r1 r2
    refine xW.br (c := Int32.ofNat Ls - 4 < i3 (i : Nat)) (pc1 := 940) (L1 := [(0, vr 50 0), (1, vr 0 0), (2, vr 12 230), (3, vr 41 243), (4, vi (i3 (i : Nat)))]) (st1 := []) (h1 := xhp s) (pc2 := 32) (L2 := [(0, vr 50 0), (1, vr 0 0), (2, vr 12 230), (3, vr 41 243), (4, vi (i3 (i : Nat)))]) (st2 := []) (h2 := xhp s) 6 (fun _ _ _ _ => rfl) (fun _ => ?_) (fun hc => ?_)
    · exact xW.retz (v0 := some (vi 1)) (h1 := xhp s) (c := (1 : Int32) = 0 ∨ (1 : Int32) = 1) 2 (fun _ _ _ _ => rfl) (Or.inr rfl) ⟨rfl, by show s.2.2.1 ≤ 616624; omega, by show s.2.2.2 ≤ 7246232; omega⟩
    · have hi : i + 4 ≤ Ls := by
        have : ¬ ((Ls : Int) - 4 < (i : Int)) := by
          intro w
          refine hc ?_
          rw [ofN_i3, i3_lit, i3_sub, i3_lt (by omega)]; exact w
        omega
      have inn : ∀ j : Nat, j < 4 → vp_in (i3 ((i + j : Nat) : Int)) Ls := fun j hj => by rw [i3_inN (by omega)]; omega
      have e1 : i3 (i : Nat) + 1 = i3 (i + 1 : Nat) := by rw [i3_lit, i3_add]; rfl
      have e2 : i3 (i : Nat) + 2 = i3 (i + 2 : Nat) := by rw [i3_lit, i3_add]; rfl
      have e3 : i3 (i : Nat) + 3 = i3 (i + 3 : Nat) := by rw [i3_lit, i3_add]; rfl
      have e4 : i3 (i : Nat) + 4 = i3 (i + 4 : Nat) := by rw [i3_lit, i3_add]; rfl
      have v0 : vp_in (i3 (i : Nat)) Ls := inn 0 (by omega)
      have v1 : vp_in (i3 (i : Nat) + 1) Ls := by rw [e1]; exact inn 1 (by omega)
      have v2 : vp_in (i3 (i : Nat) + 2) Ls := by rw [e2]; exact inn 2 (by omega)
      have v3 : vp_in (i3 (i : Nat) + 3) Ls := by rw [e3]; exact inn 3 (by omega)
      have kk : ∀ s' A', LI s' A' → rm s s' → xW (xX0 xs Ls) p220 934 [(0, vr 50 0), (1, vr 0 0), (2, vr 12 230), (3, vr 41 243), (4, vi (i3 (i : Nat)))] [] (xhp s') lwE := by
        intro s' A' h' hr
        refine xW.seg (pc1 := 23) (L1 := [(4, vi (i3 (i : Nat) + 4)), (0, vr 50 0), (1, vr 0 0), (2, vr 12 230), (3, vr 41 243)]) (st1 := []) (h1 := xhp s') 2 (fun _ _ _ _ => rfl) ?_
        rw [e4]
        exact xW.locs (L := [(0, vr 50 0), (1, vr 0 0), (2, vr 12 230), (3, vr 41 243), (4, vi (i3 (i + 4 : Nat)))]) ⟨rfl, rfl, rfl, rfl, rfl, trivial⟩ rfl (ih (i + 4) s' A' (by omega) (by omega) h' (by have := hr.1; omega) (by have := hr.2; omega))
      refine xW.side (c := vp_in (i3 (i : Nat)) Ls) (pc1 := 36) (L1 := [(0, vr 50 0), (1, vr 0 0), (2, vr 12 230), (3, vr 41 243), (4, vi (i3 (i : Nat)))]) (st1 := [vi (xs (i3 (i : Nat)).toNatClampNeg)]) (h1 := xhp s) 3 (fun _ _ _ _ => rfl) v0 ?_
      by_cases o0 : xs (i3 (i : Nat)).toNatClampNeg &&& 31 = 0
      · exact xW.sw (x := xs (i3 (i : Nat)).toNatClampNeg &&& 31) (off := 81) (pc0 := 39) (pc1 := 120) (L1 := [(0, vr 50 0), (1, vr 0 0), (2, vr 12 230), (3, vr 41 243), (4, vi (i3 (i : Nat)))]) (st1 := []) (h1 := xhp s) 3 (fun _ _ _ _ => rfl) (by rw [o0]; rfl) rfl (lc0 _ v1 v2 v3 h kk)
      by_cases o1 : xs (i3 (i : Nat)).toNatClampNeg &&& 31 = 1
      · exact xW.sw (x := xs (i3 (i : Nat)).toNatClampNeg &&& 31) (off := 117) (pc0 := 39) (pc1 := 156) (L1 := [(0, vr 50 0), (1, vr 0 0), (2, vr 12 230), (3, vr 41 243), (4, vi (i3 (i : Nat)))]) (st1 := []) (h1 := xhp s) 3 (fun _ _ _ _ => rfl) (by rw [o1]; rfl) rfl (lc1 _ v1 v2 v3 h kk)
      by_cases o2 : xs (i3 (i : Nat)).toNatClampNeg &&& 31 = 2
      · exact xW.sw (x := xs (i3 (i : Nat)).toNatClampNeg &&& 31) (off := 205) (pc0 := 39) (pc1 := 244) (L1 := [(0, vr 50 0), (1, vr 0 0), (2, vr 12 230), (3, vr 41 243), (4, vi (i3 (i : Nat)))]) (st1 := []) (h1 := xhp s) 3 (fun _ _ _ _ => rfl) (by rw [o2]; rfl) rfl (lc2 _ v1 v2 v3 h kk)
      by_cases o3 : xs (i3 (i : Nat)).toNatClampNeg &&& 31 = 3
      · exact xW.sw (x := xs (i3 (i : Nat)).toNatClampNeg &&& 31) (off := 261) (pc0 := 39) (pc1 := 300) (L1 := [(0, vr 50 0), (1, vr 0 0), (2, vr 12 230), (3, vr 41 243), (4, vi (i3 (i : Nat)))]) (st1 := []) (h1 := xhp s) 3 (fun _ _ _ _ => rfl) (by rw [o3]; rfl) rfl (lc3 _ v1 v2 v3 h kk)
      by_cases o4 : xs (i3 (i : Nat)).toNatClampNeg &&& 31 = 4
      · exact xW.sw (x := xs (i3 (i : Nat)).toNatClampNeg &&& 31) (off := 274) (pc0 := 39) (pc1 := 313) (L1 := [(0, vr 50 0), (1, vr 0 0), (2, vr 12 230), (3, vr 41 243), (4, vi (i3 (i : Nat)))]) (st1 := []) (h1 := xhp s) 3 (fun _ _ _ _ => rfl) (by rw [o4]; rfl) rfl (lc4 _ v1 v2 v3 h kk)
      by_cases o5 : xs (i3 (i : Nat)).toNatClampNeg &&& 31 = 5
      · exact xW.sw (x := xs (i3 (i : Nat)).toNatClampNeg &&& 31) (off := 330) (pc0 := 39) (pc1 := 369) (L1 := [(0, vr 50 0), (1, vr 0 0), (2, vr 12 230), (3, vr 41 243), (4, vi (i3 (i : Nat)))]) (st1 := []) (h1 := xhp s) 3 (fun _ _ _ _ => rfl) (by rw [o5]; rfl) rfl (lc5 _ v1 v2 v3 h kk)
      by_cases o6 : xs (i3 (i : Nat)).toNatClampNeg &&& 31 = 6
      · exact xW.sw (x := xs (i3 (i : Nat)).toNatClampNeg &&& 31) (off := 385) (pc0 := 39) (pc1 := 424) (L1 := [(0, vr 50 0), (1, vr 0 0), (2, vr 12 230), (3, vr 41 243), (4, vi (i3 (i : Nat)))]) (st1 := []) (h1 := xhp s) 3 (fun _ _ _ _ => rfl) (by rw [o6]; rfl) rfl (lc6 _ v1 v2 v3 h kk)
      by_cases o7 : xs (i3 (i : Nat)).toNatClampNeg &&& 31 = 7
      · exact xW.sw (x := xs (i3 (i : Nat)).toNatClampNeg &&& 31) (off := 440) (pc0 := 39) (pc1 := 479) (L1 := [(0, vr 50 0), (1, vr 0 0), (2, vr 12 230), (3, vr 41 243), (4, vi (i3 (i : Nat)))]) (st1 := []) (h1 := xhp s) 3 (fun _ _ _ _ => rfl) (by rw [o7]; rfl) rfl (lc7 _ v1 v2 v3 h kk)
      by_cases o8 : xs (i3 (i : Nat)).toNatClampNeg &&& 31 = 8
      · exact xW.sw (x := xs (i3 (i : Nat)).toNatClampNeg &&& 31) (off := 496) (pc0 := 39) (pc1 := 535) (L1 := [(0, vr 50 0), (1, vr 0 0), (2, vr 12 230), (3, vr 41 243), (4, vi (i3 (i : Nat)))]) (st1 := []) (h1 := xhp s) 3 (fun _ _ _ _ => rfl) (by rw [o8]; rfl) rfl (lc8 _ v1 v2 v3 h kk)
      by_cases o9 : xs (i3 (i : Nat)).toNatClampNeg &&& 31 = 9
      · exact xW.sw (x := xs (i3 (i : Nat)).toNatClampNeg &&& 31) (off := 544) (pc0 := 39) (pc1 := 583) (L1 := [(0, vr 50 0), (1, vr 0 0), (2, vr 12 230), (3, vr 41 243), (4, vi (i3 (i : Nat)))]) (st1 := []) (h1 := xhp s) 3 (fun _ _ _ _ => rfl) (by rw [o9]; rfl) rfl (lc9 _ v1 v2 v3 h kk)
      by_cases o10 : xs (i3 (i : Nat)).toNatClampNeg &&& 31 = 10
      · exact xW.sw (x := xs (i3 (i : Nat)).toNatClampNeg &&& 31) (off := 624) (pc0 := 39) (pc1 := 663) (L1 := [(0, vr 50 0), (1, vr 0 0), (2, vr 12 230), (3, vr 41 243), (4, vi (i3 (i : Nat)))]) (st1 := []) (h1 := xhp s) 3 (fun _ _ _ _ => rfl) (by rw [o10]; rfl) rfl (lc10 _ v1 v2 v3 h kk)
      by_cases o11 : xs (i3 (i : Nat)).toNatClampNeg &&& 31 = 11
      · exact xW.sw (x := xs (i3 (i : Nat)).toNatClampNeg &&& 31) (off := 680) (pc0 := 39) (pc1 := 719) (L1 := [(0, vr 50 0), (1, vr 0 0), (2, vr 12 230), (3, vr 41 243), (4, vi (i3 (i : Nat)))]) (st1 := []) (h1 := xhp s) 3 (fun _ _ _ _ => rfl) (by rw [o11]; rfl) rfl (lc11 _ v1 v2 v3 h kk)
      by_cases o12 : xs (i3 (i : Nat)).toNatClampNeg &&& 31 = 12
      · exact xW.sw (x := xs (i3 (i : Nat)).toNatClampNeg &&& 31) (off := 737) (pc0 := 39) (pc1 := 776) (L1 := [(0, vr 50 0), (1, vr 0 0), (2, vr 12 230), (3, vr 41 243), (4, vi (i3 (i : Nat)))]) (st1 := []) (h1 := xhp s) 3 (fun _ _ _ _ => rfl) (by rw [o12]; rfl) rfl (lc12 _ v1 v2 v3 h kk)
      by_cases o13 : xs (i3 (i : Nat)).toNatClampNeg &&& 31 = 13
      · exact xW.sw (x := xs (i3 (i : Nat)).toNatClampNeg &&& 31) (off := 750) (pc0 := 39) (pc1 := 789) (L1 := [(0, vr 50 0), (1, vr 0 0), (2, vr 12 230), (3, vr 41 243), (4, vi (i3 (i : Nat)))]) (st1 := []) (h1 := xhp s) 3 (fun _ _ _ _ => rfl) (by rw [o13]; rfl) rfl (lc13 _ v1 v2 v3 h kk)
      by_cases o14 : xs (i3 (i : Nat)).toNatClampNeg &&& 31 = 14
      · exact xW.sw (x := xs (i3 (i : Nat)).toNatClampNeg &&& 31) (off := 763) (pc0 := 39) (pc1 := 802) (L1 := [(0, vr 50 0), (1, vr 0 0), (2, vr 12 230), (3, vr 41 243), (4, vi (i3 (i : Nat)))]) (st1 := []) (h1 := xhp s) 3 (fun _ _ _ _ => rfl) (by rw [o14]; rfl) rfl (lc14 _ v1 v2 v3 h kk)
      by_cases o15 : xs (i3 (i : Nat)).toNatClampNeg &&& 31 = 15
      · exact xW.sw (x := xs (i3 (i : Nat)).toNatClampNeg &&& 31) (off := 819) (pc0 := 39) (pc1 := 858) (L1 := [(0, vr 50 0), (1, vr 0 0), (2, vr 12 230), (3, vr 41 243), (4, vi (i3 (i : Nat)))]) (st1 := []) (h1 := xhp s) 3 (fun _ _ _ _ => rfl) (by rw [o15]; rfl) rfl (lc15 _ v1 v2 v3 h kk)
      by_cases o16 : xs (i3 (i : Nat)).toNatClampNeg &&& 31 = 16
      · exact xW.sw (x := xs (i3 (i : Nat)).toNatClampNeg &&& 31) (off := 870) (pc0 := 39) (pc1 := 909) (L1 := [(0, vr 50 0), (1, vr 0 0), (2, vr 12 230), (3, vr 41 243), (4, vi (i3 (i : Nat)))]) (st1 := []) (h1 := xhp s) 3 (fun _ _ _ _ => rfl) (by rw [o16]; rfl) rfl (lc16 _ v1 v2 v3 h kk)
      exact xW.sw (x := xs (i3 (i : Nat)).toNatClampNeg &&& 31) (off := 895) (pc0 := 39) (pc1 := 934) (L1 := [(0, vr 50 0), (1, vr 0 0), (2, vr 12 230), (3, vr 41 243), (4, vi (i3 (i : Nat)))]) (st1 := []) (h1 := xhp s) 3 (fun _ _ _ _ => rfl) (xtab_out (xne_all [0, 1, 2, 3, 4, 5, 6, 7, 8, 9, 10, 11, 12, 13, 14, 15, 16] rfl ⟨o0, o1, o2, o3, o4, o5, o6, o7, o8, o9, o10, o11, o12, o13, o14, o15, o16, trivial⟩)) rfl (kk s A h ⟨by omega, by omega⟩)
