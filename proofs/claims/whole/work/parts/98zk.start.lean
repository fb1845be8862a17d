/-! THE START: both sides agree there, and the law runs to its end -/
def e00 : aE := (false, (0, fun _ => 0), -1, false, false, (0, fun _ => 0))
def D00 : aD := (fun _ => (0, 0), fun _ => 0, (0, 0), false, (false, e00))
def A00 : aA := mkA D00 0 0 0 0 (fun _ => D00) D00 (fun _ => 0) 0 0 (fun _ => 0) 0 0 (fun _ => (0, 0)) false 2 0 (fun _ => 0) 0 (fun _ => 0)
theorem VA00 : VA A00 := by
  have hv : vD D00 := ⟨fun i _ => Or.inl ⟨rfl, rfl⟩, fun i h => absurd h (Nat.not_lt_zero i), fun i h => absurd h (Nat.not_lt_zero i), Nat.zero_le _, ⟨by decide, by decide⟩, fun h => by cases h⟩
  refine ⟨⟨hv, Or.inl rfl, ⟨by decide, by decide⟩, ⟨by decide, by decide⟩⟩, ⟨Nat.zero_le _, fun j h1 h2 => ?_, fun h => absurd (show (0 : Int) = 2 from h) (by decide)⟩, fun i _ => ⟨show (0 : Int) ≤ 0 by decide, show (0 : Int) ≤ 255 by decide⟩, fun h => absurd (show (0 : Int) = 0 from rfl) h, ⟨Nat.zero_le _, fun h => absurd (show (0 : Int) = 2 from h) (by decide)⟩, ⟨by decide, by decide⟩, Nat.zero_le _, fun i h => absurd h (Nat.not_lt_zero i), Nat.zero_le _⟩
  have : j ≤ 0 := h2
  omega
set_option maxRecDepth 1000000 in
theorem cst0 : (∀ i : Nat, i < 15 → gJ sS0 (2 + 6 + i) 0 = 0 ∧ gI sS0 (2 + 6 + i) 1 = 0) ∧ gI sS0 5 1 = 0 ∧ gI sS0 5 2 = 0 ∧ gI sS0 2 9 = 0 ∧ gI sS0 7 0 = 0 ∧ gI sS0 7 1 = 0 ∧ gI sS0 7 5 = 0 ∧ gI sS0 7 6 = 0 ∧ gI sS0 1 2 = 0 ∧ gJ sS0 33 0 = 100000000000 ∧ gI sS0 33 1 = 0 ∧ gJ sS0 46 0 = 200000000000 ∧ gI sS0 46 1 = 0 ∧ gI sS0 1 3 = 0 ∧ gI sS0 0 6 = 0 ∧ gI sS0 47 0 = 0 ∧ gI sS0 47 2 = 0 := by decide +kernel
set_option maxRecDepth 1000000 in
theorem cst1 : (∀ i : Nat, i < 100 → gI sS0 36 i = 0) ∧ gI sS0 38 0 = 0 ∧ gI sS0 223 0 = 0 ∧ gI sS0 223 1 = 2 ∧ gI sS0 225 2 = 0 ∧ gI sS0 225 1 = 0 := by decide +kernel
set_option maxRecDepth 1000000 in
theorem rst0 : (∀ i : Nat, i < 15 → gI sS0 231 (80 * 0 + i) = 0 ∧ gJ sS0 232 (24 * 0 + i) = 0 ∧ gI sS0 231 (80 * 0 + 23 + i) = 0) ∧ gI sS0 231 54 = 0 ∧ gI sS0 231 55 = 0 ∧ gI sS0 231 56 = 0 ∧ gI sS0 231 57 = 0 ∧ gI sS0 230 4 = 0 ∧ gI sS0 230 5 = 0 ∧ gI sS0 230 9 = 0 ∧ gI sS0 230 3 = 0 := by decide +kernel
set_option maxRecDepth 1000000 in
theorem rst1 : (∀ i : Nat, i < 100 → gI sS0 233 i = 0) ∧ gI sS0 230 13 = 0 ∧ gI sS0 230 17 = 0 ∧ gI sS0 230 18 = 2 ∧ gI sS0 230 22 = 0 ∧ gI sS0 230 24 = 0 := by decide +kernel
theorem CV00 : CV sS0 A00 := by
  obtain ⟨c1, c2, c3, c4, c5, c6, c7, c8, c9, c10, c11, c12, c13, c14, c15, c16, c17⟩ := cst0
  obtain ⟨d1, d2, d3, d4, d5, d6⟩ := cst1
  refine ⟨⟨⟨fun i hi => ⟨(c1 i hi).1, (c1 i hi).2⟩, fun i h => absurd h (Nat.not_lt_zero i), fun i h => absurd h (Nat.not_lt_zero i), ⟨c2, c3⟩, c4, c5, ⟨false, false, false, c6, c7, c8⟩, fun h => by cases h⟩, c9, ⟨c10, c11⟩, ⟨c12, c13⟩⟩, c14, c15, ⟨0, by decide, c16, c17, fun j h1 h2 => ?_, fun h => absurd (show (0 : Int) = 2 from h) (by decide)⟩, d1, fun h => absurd (show (0 : Int) = 0 from rfl) h, ⟨d2, fun h => absurd (show (0 : Int) = 2 from h) (by decide)⟩, ⟨d3, d4⟩, ⟨d5, fun i h => absurd h (Nat.not_lt_zero i)⟩, ⟨d6, fun i h => absurd h (Nat.not_lt_zero i)⟩⟩
  have : j ≤ 0 := h2
  omega
theorem RV00 : RV sS0 A00 := by
  obtain ⟨c1, c2, c3, c4, c5, c6, c7, c8, c9⟩ := rst0
  obtain ⟨d1, d2, d3, d4, d5, d6⟩ := rst1
  refine ⟨⟨⟨fun i hi => ⟨(c1 i hi).1, (c1 i hi).2.1, (c1 i hi).2.2⟩, fun i h => absurd h (Nat.not_lt_zero i), fun i h => absurd h (Nat.not_lt_zero i), ⟨c2, c3⟩, c4, c5, fun h => by cases h⟩, c6⟩, c7, c8, ⟨c9, fun j h1 h2 => ?_, fun h => absurd (show (0 : Int) = 2 from h) (by decide)⟩, d1, fun h => absurd (show (0 : Int) = 0 from rfl) h, ⟨d2, fun h => absurd (show (0 : Int) = 2 from h) (by decide)⟩, ⟨d3, d4⟩, ⟨d5, fun i h => absurd h (Nat.not_lt_zero i)⟩, ⟨d6, fun i h => absurd h (Nat.not_lt_zero i)⟩⟩
  have : j ≤ 0 := h2
  omega
theorem LI00 : LI sS0 A00 := ⟨VA00, CV00, RV00⟩
set_option maxRecDepth 1000000 in
theorem lF1_len : xN (den (lF1, 230, 1069)) = 230 := by decide +kernel
set_option maxRecDepth 1000000 in
theorem lF12_len : xN (den (lF1 ++ lF2, 243, 2482)) = 243 := by decide +kernel
theorem law_start {xs : Nat → Int32} {Ls : Nat} (hL : Ls ≤ 2048) : xW (xX0 xs Ls) p220 0 [(0, vr 50 0)] [] xh0 lwE := by
  have w3 : xW (xX0 xs Ls) p220 19 [(2, vr 12 230), (1, vr 0 0), (0, vr 50 0)] [vr 41 243] (xhp sS0) lwE := by
    refine xW.seg (pc1 := 23) (L1 := [(4, vi 0), (3, vr 41 243), (2, vr 12 230), (1, vr 0 0), (0, vr 50 0)]) (st1 := []) (h1 := xhp sS0) 3 (fun _ _ _ _ => rfl) ?_
    exact xW.locs (L := [(0, vr 50 0), (1, vr 0 0), (2, vr 12 230), (3, vr 41 243), (4, vi (i3 ((0 : Nat) : Int)))]) ⟨rfl, rfl, rfl, rfl, rfl, trivial⟩ rfl (law_loop hL 513 0 sS0 A00 (by omega) (by omega) LI00 (by decide) (by decide))
  have w2 : ∀ hh : xH, xN hh = 243 → xnew hh 41 1 = xhp sS0 → xW (xX0 xs Ls) p220 15 [(1, vr 0 0), (0, vr 50 0)] [vr 12 230] hh lwE := by
    intro hh hn he
    refine xW.side (c := (¬ (1 : Int32) < 0) ∧ (1 : Int32).toNatClampNeg ≤ 10000) (pc1 := 19) (L1 := [(2, vr 12 230), (1, vr 0 0), (0, vr 50 0)]) (st1 := [vr 41 (xN hh)]) (h1 := xnew hh 41 (1 : Int32).toNatClampNeg) 3 (fun _ _ _ _ => propext and_assoc.symm) (by decide) ?_
    rw [hn, show (1 : Int32).toNatClampNeg = 1 from rfl, he]
    exact w3
  have w1 : ∀ hh : xH, xN hh = 230 → hh = den (lF1, 230, 1069) → xW (xX0 xs Ls) p220 7 [(0, vr 50 0)] [vr 0 0] hh lwE := by
    intro hh hn he
    refine xW.call (y := 30) (pc0 := 12) (len := 3) (as := [vr 12 (xN hh)]) (rest := [vr 12 (xN hh)]) (L0 := [(1, vr 0 0), (0, vr 50 0)]) (h0 := xnew hh 12 34) 4 (fun _ _ _ _ => rfl) ?_
    rw [hn, he, den_new]
    refine lrun_M rfl lF2_run ?_
    refine w2 _ lF12_len ?_
    rw [den_new]
    exact den_lF
  refine xW.call (y := 0) (pc0 := 4) (len := 3) (as := [vr 0 0]) (rest := [vr 0 0]) (L0 := [(0, vr 50 0)]) (h0 := xnew xh0 0 7) 3 (fun _ _ _ _ => rfl) ?_
  rw [den_0, den_new]
  refine lrun_M rfl lF1_run ?_
  exact w1 _ lF1_len rfl
theorem xpure_all {xs : Nat → Int32} {L : Nat} (h : L ≤ 2048) : xPure xs L := by
  obtain ⟨v, h', n, d, hn, hv, hq, hz⟩ := law_start (xs := xs) h
  subst hv
  exact ⟨n, d, h', hn, hq, hz⟩
