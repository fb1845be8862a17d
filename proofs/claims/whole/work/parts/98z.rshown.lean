/-! the line at the reference -/
theorem rD_ln {s t : xS} {D : aD} (f : fr Prln s t) (hv : vD D) (h : rD s 0 D) : rD t 0 D := rD_fr f (fun j _ _ => by unfold Prln; omega) (fun j _ _ => by unfold Prln; omega) hv h
/-- the sign of X, a number with a point -/
theorem rpoint {s : xS} {o : Nat × (Nat → Int)} {W f p : Nat} (hW : W < 10 ^ 12) (hp : p ≤ 11) (hl : o.1 + f + 1 + p ≤ 20) (h : rln s o) : (tm_showFigures_ok s (j6 (W / 10 ^ p : Nat)) (i3 f) ∧ tm_show_ok (tm_showFigures s (j6 (W / 10 ^ p : Nat)) (i3 f)) 46 ∧ tm_ten_ok (tm_show (tm_showFigures s (j6 (W / 10 ^ p : Nat)) (i3 f)) 46) (i3 p) ∧ ¬ tm_ten (tm_show (tm_showFigures s (j6 (W / 10 ^ p : Nat)) (i3 f)) 46) (i3 p) = 0 ∧ tm_showFigures_ok (tm_show (tm_showFigures s (j6 (W / 10 ^ p : Nat)) (i3 f)) 46) (j6 W - j6 W / tm_ten (tm_show (tm_showFigures s (j6 (W / 10 ^ p : Nat)) (i3 f)) 46) (i3 p) * tm_ten (tm_show (tm_showFigures s (j6 (W / 10 ^ p : Nat)) (i3 f)) 46) (i3 p)) (i3 p)) ∧ fr Prln s (tm_showFigures (tm_show (tm_showFigures s (j6 (W / 10 ^ p : Nat)) (i3 f)) 46) (j6 W - j6 W / tm_ten (tm_show (tm_showFigures s (j6 (W / 10 ^ p : Nat)) (i3 f)) 46) (i3 p) * tm_ten (tm_show (tm_showFigures s (j6 (W / 10 ^ p : Nat)) (i3 f)) 46) (i3 p)) (i3 p)) ∧ rln (tm_showFigures (tm_show (tm_showFigures s (j6 (W / 10 ^ p : Nat)) (i3 f)) 46) (j6 W - j6 W / tm_ten (tm_show (tm_showFigures s (j6 (W / 10 ^ p : Nat)) (i3 f)) 46) (i3 p) * tm_ten (tm_show (tm_showFigures s (j6 (W / 10 ^ p : Nat)) (i3 f)) 46) (i3 p)) (i3 p)) (aPt W f p o) := by
  have hq : W / 10 ^ p ≤ W := Nat.div_le_self ..
  have hm : W % 10 ^ p ≤ W := Nat.mod_le ..
  have hp0 := tenP_pos p
  have hp1 : 10 ^ p ≤ 10 ^ 11 := tenP hp
  obtain ⟨a1, a2, a3⟩ := rfgs (W := W / 10 ^ p) (c := f) (by omega) (by omega) (by omega) h
  generalize tm_showFigures s (j6 (W / 10 ^ p : Nat)) (i3 f) = t1 at *
  have n1 := aDg_n (W / 10 ^ p) f o
  obtain ⟨b1, b2, b3⟩ := rshow (c := 46) (by omega) a3
  have b1' : tm_show_ok t1 46 := b1
  have b2' : fr Prln t1 (tm_show t1 46) := b2
  have b3' : rln (tm_show t1 46) (pu (aDg (W / 10 ^ p) f o) 46) := b3
  generalize tm_show t1 46 = t2 at *
  obtain ⟨d1, d2⟩ := rten (s := t2) (c := p) (by omega)
  have nz : ¬ j6 (10 ^ p : Nat) = 0 := by rw [j6_lit, j6_eq (by omega)]; omega
  rw [d2, (mod_j6 (W := W) (q := 10 ^ p) (by omega) hp0 (by omega)).2]
  obtain ⟨g1, g2, g3⟩ := rfgs (W := W % 10 ^ p) (c := p) (by omega) (by omega) (by show (aDg (W / 10 ^ p) f o).1 + 1 + p ≤ 20; omega) b3'
  exact ⟨⟨a1, b1', d1, nz, g1⟩, fr_trans a2 (fr_trans b2' g2), g3⟩
theorem rsci83 {s : xS} {o : Nat × (Nat → Int)} {D : aD} {W p : Nat} {e : Int} (hW : W < 10 ^ 12) (hp : p ≤ 9) (he : -99 ≤ e ∧ e ≤ 99) (ho : o.1 ≤ 0) (hd : rD s 0 D) (h : rln s o) : tm_showScientific_83_ok s (i3 e) (i3 p) (j6 W) ∧ fr Prln s (tm_showScientific_83 s (i3 e) (i3 p) (j6 W)) ∧ rln (tm_showScientific_83 s (i3 e) (i3 p) (j6 W)) (aSci W p e (pu o (if (dN D 10).1 < 0 then 45 else 32))) := by
  have hx := rN_rB (hd.1 10 (by omega))
  have x10 : gI s 231 10 = i3 (dN D 10).1.sign := hx.1
  have hs := sgn_rng (dN D 10).1
  have cz : ((0 : Int32) ≤ gI s 231 10) = (¬ (dN D 10).1 < 0) := by rw [x10, i3_lit, i3_le (by omega), ← sgn_lt]; apply propext; omega
  have es : (if (0 : Int32) ≤ gI s 231 10 then (32 : Int32) else 45) = i3 (if (dN D 10).1 < 0 then 45 else 32) := by
    simp only [cz]
    by_cases w : (dN D 10).1 < 0
    · rw [if_neg (show ¬ ¬ _ from fun q => q w), if_pos w]; rfl
    · rw [if_pos (show ¬ _ from w), if_neg w]; rfl
  rw [tm_showScientific_83_eq]
  unfold tm_showScientific_83_ok tm_showScientific_83_d
  rw [es]
  generalize hsg : (if (dN D 10).1 < 0 then (45 : Int) else 32) = sg at *
  obtain ⟨a1, a2, a3⟩ := rshow (c := sg) (by omega) h
  generalize tm_show s (i3 sg) = t at *
  obtain ⟨d1, d2⟩ := rten (s := t) (c := p) (by omega)
  have hp0 := tenP_pos p
  have hp1 : 10 ^ p ≤ 10 ^ 9 := tenP hp
  have nz : ¬ j6 (10 ^ p : Nat) = 0 := by rw [j6_lit, j6_eq (by omega)]; omega
  rw [d2, (mod_j6 (W := W) (q := 10 ^ p) (by omega) hp0 (by omega)).1]
  obtain ⟨⟨b1, b2, b3, b4, b5⟩, b6, b7⟩ := rpoint (W := W) (f := 1) (p := p) hW (by omega) (by show o.1 + 1 + 1 + 1 + p ≤ 20; omega) a3
  have b1' : tm_showFigures_ok t (j6 (W / 10 ^ p : Nat)) 1 := b1
  have n1 := aPt_n W 1 p (pu o sg)
  have n1' : (aPt W 1 p (pu o sg)).1 = o.1 + 1 + 1 + 1 + p := n1
  have h1 : (i3 ((1 : Nat) : Int)) = 1 := rfl
  rw [h1] at b2 b3 b4 b5 b6 b7
  generalize tm_showFigures (tm_show (tm_showFigures t (j6 (W / 10 ^ p : Nat)) 1) 46) (j6 W - j6 W / tm_ten (tm_show (tm_showFigures t (j6 (W / 10 ^ p : Nat)) 1) 46) (i3 p) * tm_ten (tm_show (tm_showFigures t (j6 (W / 10 ^ p : Nat)) 1) 46) (i3 p)) (i3 p) = u at *
  obtain ⟨k1, k2, k3⟩ := rshow (c := 69) (by omega) b7
  have k1' : tm_show_ok u 69 := k1
  have k2' : fr Prln u (tm_show u 69) := k2
  have k3' : rln (tm_show u 69) (pu (aPt W 1 p (pu o sg)) 69) := k3
  generalize tm_show u 69 = v at *
  have c0 : ((0 : Int32) ≤ i3 e) = (0 ≤ e) := by rw [i3_lit, i3_le (by omega)]
  have ee : (if (0 : Int32) ≤ i3 e then (43 : Int32) else 45) = i3 (if 0 ≤ e then 43 else 45) := by
    simp only [c0]; split <;> rfl
  have ew : (if (0 : Int32) ≤ i3 e then (i3 e).toInt64 else (-(i3 e)).toInt64) = j6 (e.natAbs : Nat) := by
    simp only [c0]
    by_cases w : 0 ≤ e
    · rw [if_pos w, i3_long (by omega)]; exact congrArg j6 (by omega)
    · rw [if_neg w, i3_neg, i3_long (by omega)]; exact congrArg j6 (by omega)
  rw [ee, ew]
  obtain ⟨l1, l2, l3⟩ := rshow (c := (if 0 ≤ e then 43 else 45)) (by show (aPt W 1 p (pu o sg)).1 + 1 < 20; omega) k3'
  generalize tm_show v (i3 (if 0 ≤ e then 43 else 45)) = x at *
  obtain ⟨m1, m2, m3⟩ := rfgs (W := e.natAbs) (c := 2) (by omega) (by omega) (by show (aPt W 1 p (pu o sg)).1 + 1 + 1 + 2 ≤ 20; omega) l3
  have m1' : tm_showFigures_ok x (j6 (e.natAbs : Nat)) 2 := m1
  exact ⟨⟨a1, d1, nz, b1', b2, b3, b4, b5, k1', l1, m1'⟩, fr_trans a2 (fr_trans b6 (fr_trans k2' (fr_trans l2 m2))), m3⟩
theorem rsci {s : xS} {o : Nat × (Nat → Int)} {D : aD} {p : Nat} (hv : vD D) (hd : rD s 0 D) (hp : p ≤ 9) (ho : o.1 ≤ 0) (hP : gI s 230 18 = i3 p) (h : rln s o) : tm_showScientific_ok s ∧ fr Prln s (tm_showScientific s) ∧ rln (tm_showScientific s) (aScN (dN D 10).1.natAbs (dN D 10).2 p (pu o (if (dN D 10).1 < 0 then 45 else 32))) := by
  have vn := hv.1 10 (by omega)
  have hb := vN_b vn
  have hx := rN_rB (hd.1 10 (by omega))
  have xd : gJ s 232 10 = j6 ((dN D 10).1.natAbs : Nat) := hx.2.1
  have xe : gI s 231 33 = i3 (dN D 10).2 := hx.2.2
  rw [tm_showScientific_eq]
  unfold tm_showScientific_ok tm_showScientific_d
  have e11 : (11 : Int32) - i3 p = i3 (11 - p : Nat) := by rw [i3_lit, i3_sub]; exact congrArg i3 (by omega)
  have ep1 : i3 p + 1 = i3 (p + 1 : Nat) := by rw [i3_lit, i3_add]; rfl
  rw [hP, xd, xe, e11, ep1]
  have hp1 : 10 ^ (11 - p) ≤ 10 ^ 11 := tenP (by omega)
  have hpz := tenP_pos (11 - p)
  have hpp : 10 ^ (p + 1) ≤ 10 ^ 10 := tenP (by omega)
  have hpp0 : 10 ^ p ≤ 10 ^ 9 := tenP (by omega)
  generalize hnn : (dN D 10).1.natAbs = d at *
  generalize hee : (dN D 10).2 = e at *
  have hd12 : d < 10 ^ 12 := by omega
  have hcut : tm_cut_ok s (j6 (d : Nat)) (i3 (11 - p : Nat)) ∧ tm_cut s (j6 (d : Nat)) (i3 (11 - p : Nat)) = j6 (near d (10 ^ (11 - p)) false : Nat) := by
    rcases rcut (s := s) (W := d) (c := 11 - p) hd12 with ⟨q1, q2⟩ | q
    · have := q2 (by omega)
      rw [if_pos (show 11 - p ≤ 12 by omega)] at this
      exact ⟨q1, this⟩
    · omega
  obtain ⟨t1, t2⟩ := rten (s := s) (c := p + 1) (by omega)
  obtain ⟨t3, t4⟩ := rten (s := s) (c := p) (by omega)
  obtain ⟨t5, t6⟩ := rten (s := s) (c := 11 - p) (by omega)
  rw [hcut.2, t2, t4, t6]
  have hnl := (near_le (d := d) (k := 11 - p) hd12 (by omega)).1
  have hnl2 : 10 ^ (12 - (11 - p)) ≤ 10 ^ 11 := tenP (by omega)
  have c1 : (j6 (near d (10 ^ (11 - p)) false : Nat) = j6 (10 ^ (p + 1) : Nat)) = (near d (10 ^ (11 - p)) false = 10 ^ (p + 1)) := j6_eqN (by omega) (by omega)
  have c9 : (i3 e = 99) = (e = 99) := by rw [i3_lit, i3_eq (by omega)]
  rw [tm_showScientific_67_eq]
  unfold tm_showScientific_67_ok tm_showScientific_67_d
  rw [tm_showScientific_82_eq]
  unfold tm_showScientific_82_ok tm_showScientific_82_d
  simp only [c1, c9]
  unfold aScN
  by_cases g : near d (10 ^ (11 - p)) false = 10 ^ (p + 1)
  · rw [if_neg (show ¬ ¬ _ from fun q => q g), if_neg (show ¬ (near d (10 ^ (11 - p)) false ≠ 10 ^ (p + 1)) from fun q => q g)]
    by_cases g9 : e = 99
    · rw [if_neg (show ¬ ¬ e = 99 from fun q => q g9), if_neg (show ¬ (e ≠ 99) from fun q => q g9), if_pos g9]
      rw [(mod_j6 (W := d) (q := 10 ^ (11 - p)) (by omega) hpz (by omega)).1]
      have nz : ¬ j6 (10 ^ (11 - p) : Nat) = 0 := by rw [j6_lit, j6_eq (by omega)]; omega
      have hle : d / 10 ^ (11 - p) ≤ d := Nat.div_le_self ..
      obtain ⟨y1, y2, y3⟩ := rsci83 (W := d / 10 ^ (11 - p)) (e := e) (p := p) (by omega) hp (by omega) ho hd h
      rw [g9] at y1 y2 y3
      have y1' : tm_showScientific_83_ok s 99 (i3 p) (j6 (d / 10 ^ (11 - p) : Nat)) := y1
      have y2' : fr Prln s (tm_showScientific_83 s 99 (i3 p) (j6 (d / 10 ^ (11 - p) : Nat))) := y2
      rw [g9]
      exact ⟨⟨hcut.1, t1, fun q => absurd g q, fun _ => ⟨fun q => absurd rfl q, fun _ => ⟨t5, nz, y1'⟩⟩⟩, y2', y3⟩
    · rw [if_pos (show ¬ e = 99 from g9), if_pos (show e ≠ 99 from g9), if_neg g9]
      have e1 : i3 e + 1 = i3 (e + 1) := by rw [i3_lit, i3_add]
      rw [e1]
      obtain ⟨y1, y2, y3⟩ := rsci83 (W := 10 ^ p) (e := e + 1) (p := p) (by omega) hp (by omega) ho hd h
      exact ⟨⟨hcut.1, t1, fun q => absurd g q, fun _ => ⟨fun _ => ⟨t3, y1⟩, fun q => absurd q g9⟩⟩, y2, y3⟩
  · rw [if_pos (show ¬ _ from g), if_pos (show near d (10 ^ (11 - p)) false ≠ 10 ^ (p + 1) from g)]
    obtain ⟨y1, y2, y3⟩ := rsci83 (W := near d (10 ^ (11 - p)) false) (e := e) (p := p) (by omega) hp (by omega) ho hd h
    exact ⟨⟨hcut.1, t1, fun _ => y1, fun q => absurd q g⟩, y2, y3⟩
theorem rfx_161 {s : xS} {o : Nat × (Nat → Int)} {W p : Nat} (hW : W < 10 ^ 12) (hp : p ≤ 11) (ho : o.1 ≤ 1) (h : rln s o) : ∀ (n f m : Nat), 1 ≤ f → f + p ≤ 12 → 13 ≤ n + f + p → 12 ≤ m + f + p → m + 1 ≤ n → tm_showNumber_161_ok n s (i3 p) (j6 W) (j6 (W / 10 ^ p : Nat)) (i3 f) ∧ fr Prln s (tm_showNumber_161 n s (i3 p) (j6 W) (j6 (W / 10 ^ p : Nat)) (i3 f)) ∧ rln (tm_showNumber_161 n s (i3 p) (j6 W) (j6 (W / 10 ^ p : Nat)) (i3 f)) (aPt W (aFx W p m f) p o) := by
  have hq : W / 10 ^ p ≤ W := Nat.div_le_self ..
  intro n
  induction n with
  | zero => intro f m k1 k2 k3; omega
  | succ n ih =>
    intro f m k1 k2 k3 k4 k5
    unfold tm_showNumber_161 tm_showNumber_161_ok
    obtain ⟨t1, t2⟩ := rten (s := s) (c := f) (by omega)
    have hpw : 10 ^ f ≤ 10 ^ 12 := tenP (by omega)
    have c2 : (j6 (W / 10 ^ p : Nat) < tm_ten s (i3 f)) = (W < 10 ^ (f + p)) := by
      rw [t2, j6_ltN (by omega) (by omega)]
      apply propext
      rw [Nat.div_lt_iff_lt_mul (tenP_pos p), Nat.pow_add]
    have e2 : i3 f + 1 = i3 (f + 1 : Nat) := by rw [i3_lit, i3_add]; rfl
    simp only [c2]
    rw [e2]
    obtain ⟨⟨b1, b2, b3, b4, b5⟩, b6, b7⟩ := rpoint (W := W) (f := f) (p := p) hW hp (by omega) h
    by_cases g2 : W < 10 ^ (f + p)
    · rw [if_pos g2]
      have : aFx W p m f = f := by
        cases m with
        | zero => rfl
        | succ m => unfold aFx; rw [if_pos g2]
      rw [this]
      exact ⟨⟨t1, fun _ => ⟨b1, b2, b3, b4, b5⟩, fun q => absurd g2 q⟩, b6, b7⟩
    · rw [if_neg g2]
      have h12 : ¬ f + p = 12 := by intro w; rw [w] at g2; exact g2 hW
      obtain ⟨m', hm'⟩ : ∃ m', m = m' + 1 := ⟨m - 1, by omega⟩
      rw [hm']
      unfold aFx
      rw [if_neg g2]
      obtain ⟨p1, p2⟩ := ih (f + 1) m' (by omega) (by omega) (by omega) (by omega) (by omega)
      exact ⟨⟨t1, fun q => absurd q g2, fun _ => p1⟩, p2⟩
theorem rnumL {s : xS} {o : Nat × (Nat → Int)} {D : aD} {sc : Bool} {p : Nat} (hv : vD D) (hd : rD s 0 D) (hp : p ≤ 9) (ho : o.1 ≤ 0) (hS : gI s 230 17 = zb sc) (hP : gI s 230 18 = i3 p) (h : rln s o) : tm_showNumber_ok s ∧ fr Prln s (tm_showNumber s) ∧ rln (tm_showNumber s) (aNb (dN D 10) sc p o) := by
  have vn := hv.1 10 (by omega)
  have hb := vN_b vn
  have hx := rN_rB (hd.1 10 (by omega))
  have x10 : gI s 231 10 = i3 (dN D 10).1.sign := hx.1
  have xd : gJ s 232 10 = j6 ((dN D 10).1.natAbs : Nat) := hx.2.1
  have xe : gI s 231 33 = i3 (dN D 10).2 := hx.2.2
  have z10 : (gI s 231 10 = 0) = ((dN D 10).1 = 0) := by rw [x10]; exact i3_sg0
  have hs := sgn_rng (dN D 10).1
  have cz : ((0 : Int32) ≤ gI s 231 10) = (¬ (dN D 10).1 < 0) := by rw [x10, i3_lit, i3_le (by omega), ← sgn_lt]; apply propext; omega
  have es : (if (0 : Int32) ≤ gI s 231 10 then (32 : Int32) else 45) = i3 (if (dN D 10).1 < 0 then 45 else 32) := by
    simp only [cz]
    by_cases w : (dN D 10).1 < 0
    · rw [if_neg (show ¬ ¬ _ from fun q => q w), if_pos w]; rfl
    · rw [if_pos (show ¬ _ from w), if_neg w]; rfl
  have hz0 : (dN D 10).1 = 0 → (dN D 10).2 = 0 := vN_z vn
  obtain ⟨w1, w2, w3⟩ := rsci hv hd hp ho hP h
  -- the fixed form
  have fx : ∀ q W : Nat, q ≤ 9 → W < 10 ^ 12 → tm_showNumber_128_ok s (i3 q) (j6 (W : Nat)) ∧ fr Prln s (tm_showNumber_128 s (i3 q) (j6 (W : Nat))) ∧ rln (tm_showNumber_128 s (i3 q) (j6 (W : Nat))) (aPt W (aFx W q 12 1) q (pu o (if (dN D 10).1 < 0 then 45 else 32))) := by
    intro q W hq hW
    rw [tm_showNumber_128_eq]
    unfold tm_showNumber_128_ok tm_showNumber_128_d
    rw [es]
    obtain ⟨a1, a2, a3⟩ := rshow (c := (if (dN D 10).1 < 0 then 45 else 32)) (by omega) h
    generalize tm_show s (i3 (if (dN D 10).1 < 0 then 45 else 32)) = t at *
    obtain ⟨t1, t2⟩ := rten (s := t) (c := q) (by omega)
    have hp0 := tenP_pos q
    have hp1 : 10 ^ q ≤ 10 ^ 9 := tenP hq
    have nz : ¬ j6 (10 ^ q : Nat) = 0 := by rw [j6_lit, j6_eq (by omega)]; omega
    rw [t2, (mod_j6 (W := W) (q := 10 ^ q) (by omega) hp0 (by omega)).1]
    obtain ⟨y1, y2, y3⟩ := rfx_161 (W := W) (p := q) hW (by omega) (by show o.1 + 1 ≤ 1; omega) a3 xfu 1 12 (by omega) (by omega) (by rw [xfu_eq]; omega) (by omega) (by rw [xfu_eq]; omega)
    exact ⟨⟨a1, t1, nz, y1⟩, fr_trans a2 y2, y3⟩
  have cs : (gI s 230 17 = 1) = (sc = true) := by rw [hS]; cases sc <;> simp [zb]
  rw [tm_showNumber_eq]
  unfold tm_showNumber_ok tm_showNumber_d
  rw [tm_showNumber_23_eq]
  unfold tm_showNumber_23_ok tm_showNumber_23_d
  rw [tm_showNumber_50_eq]
  unfold tm_showNumber_50_ok tm_showNumber_50_d
  rw [tm_showNumber_66_eq]
  unfold tm_showNumber_66_ok tm_showNumber_66_d
  rw [tm_showNumber_77_eq]
  unfold tm_showNumber_77_ok tm_showNumber_77_d
  rw [tm_showNumber_97_eq]
  unfold tm_showNumber_97_ok tm_showNumber_97_d
  rw [tm_showNumber_123_eq]
  unfold tm_showNumber_123_ok tm_showNumber_123_d
  rw [hP, xe, xd]
  simp only [z10, cs]
  have c11 : (i3 (dN D 10).2 ≤ 11) = (¬ 11 < (dN D 10).2) := by rw [i3_lit, i3_le (by omega)]; apply propext; omega
  have cp : (i3 p ≤ 11 - i3 (dN D 10).2) = ((p : Int) ≤ 11 - (dN D 10).2) := by rw [i3_lit, i3_sub, i3_le (by omega)]
  simp only [c11, cp, zb0]
  unfold aNb
  by_cases n0 : (dN D 10).1 = 0
  · -- zero
    rw [decide_eq_true n0]
    have e0 := hz0 n0
    have ezb : zb true = 1 := rfl
    rw [if_neg (show ¬ true = false by decide), if_pos (show ¬ true = false by decide)]
    have hB : (decide (true = false) && !decide (¬ 11 < (dN D 10).2)) = false := rfl
    rw [hB]
    have hPp : aPp (dN D 10).2 p = p := by unfold aPp; rw [e0, if_pos (by omega)]
    have hF : aFw (dN D 10).1.natAbs (dN D 10).2 p = 0 := by
      unfold aFw
      rw [hPp, e0, n0, if_pos (by omega)]
      obtain ⟨k, hk⟩ : ∃ k : Nat, (11 : Int) - 0 - (p : Nat) = k := ⟨11 - p, by omega⟩
      rw [hk, Int.toNat_natCast]
      unfold near
      rw [show Int.natAbs 0 = 0 from rfl, Nat.zero_mod, Nat.zero_div]
      have := tenP_pos k
      rw [if_neg (by rintro (q | ⟨_, q | q⟩); omega; cases q; omega)]
    obtain ⟨y1, y2, y3⟩ := fx p 0 hp (by omega)
    have y1' : tm_showNumber_128_ok s (i3 p) 0 := y1
    have y2' : fr Prln s (tm_showNumber_128 s (i3 p) 0) := y2
    cases sc
    · rw [if_neg (show ¬ false = true by decide), if_neg (show ¬ ¬ false = false from fun q => q rfl), if_pos (show ¬ true = false by decide), if_neg (show ¬ (false = true ∨ 11 < (dN D 10).2 ∨ ((dN D 10).1 ≠ 0 ∧ aFw (dN D 10).1.natAbs (dN D 10).2 p = 0)) from fun q => by rcases q with q | q | q; cases q; omega; exact q.1 n0), hF, hPp]
      exact ⟨⟨fun _ => ⟨fun q => (by cases q), fun _ => ⟨fun q => absurd rfl q, fun _ => ⟨fun _ => y1', fun q => (by cases q)⟩⟩⟩, fun q => (by cases q)⟩, y2', y3⟩
    · rw [if_pos (show true = true from rfl), if_pos (Or.inl rfl)]
      exact ⟨⟨fun _ => ⟨fun _ => w1, fun q => absurd rfl q⟩, fun q => (by cases q)⟩, w2, w3⟩
  · rw [decide_eq_false n0, if_pos (show false = false from rfl), if_neg (show ¬ ¬ false = false from fun q => q rfl), decide_eq_true (show false = false from rfl), Bool.true_and]
    by_cases g11 : 11 < (dN D 10).2
    · rw [decide_eq_false (show ¬ ¬ 11 < (dN D 10).2 from fun q => q g11), if_pos (show sc = true ∨ 11 < (dN D 10).2 ∨ _ from Or.inr (Or.inl g11)), if_neg (show ¬ (!false) = false by decide), if_pos (show ¬ (!false) = false by decide)]
      cases sc
      · rw [if_neg (show ¬ false = true by decide)]
        exact ⟨⟨fun q => absurd rfl q, fun _ => ⟨fun q => absurd q (by decide), fun _ => ⟨fun q => (by cases q), fun _ => ⟨fun _ => w1, fun q => absurd q (by decide)⟩⟩⟩⟩, w2, w3⟩
      · rw [if_pos (show true = true from rfl)]
        exact ⟨⟨fun q => absurd rfl q, fun _ => ⟨fun q => absurd q (by decide), fun _ => ⟨fun _ => w1, fun q => absurd rfl q⟩⟩⟩, w2, w3⟩
    · rw [decide_eq_true (show ¬ 11 < (dN D 10).2 from g11), if_pos (show (!true) = false from rfl), if_neg (show ¬ ¬ (!true) = false from fun q => q rfl)]
      have hpp := aPp_le (e := (dN D 10).2) (p := p) (by omega)
      have ePp : (if (p : Int) ≤ 11 - (dN D 10).2 then i3 p else 11 - i3 (dN D 10).2) = i3 (aPp (dN D 10).2 p : Nat) := by
        unfold aPp
        by_cases w : (p : Int) ≤ 11 - (dN D 10).2
        · rw [if_pos w, if_pos w]
        · rw [if_neg w, if_neg w, i3_lit, i3_sub]; exact congrArg i3 (by omega)
      rw [ePp]
      obtain ⟨k, hk⟩ : ∃ k : Nat, 11 - (dN D 10).2 - (aPp (dN D 10).2 p : Nat) = k := ⟨(11 - (dN D 10).2 - (aPp (dN D 10).2 p : Nat)).toNat, by omega⟩
      have ed : (11 : Int32) - i3 (dN D 10).2 - i3 (aPp (dN D 10).2 p : Nat) = i3 (k : Nat) := by rw [i3_lit, i3_sub, i3_sub, hk]
      rw [ed]
      have hF : aFw (dN D 10).1.natAbs (dN D 10).2 p = if k ≤ 12 then near (dN D 10).1.natAbs (10 ^ k) false else 0 := by
        unfold aFw
        rw [hk, Int.toNat_natCast]
        by_cases w : k ≤ 12
        · rw [if_pos w, if_pos (by omega)]
        · rw [if_neg w, if_neg (by omega)]
      have hcut : tm_cut_ok s (j6 ((dN D 10).1.natAbs : Nat)) (i3 (k : Nat)) ∧ tm_cut s (j6 ((dN D 10).1.natAbs : Nat)) (i3 (k : Nat)) = j6 (aFw (dN D 10).1.natAbs (dN D 10).2 p : Nat) := by
        rcases rcut (s := s) (W := (dN D 10).1.natAbs) (c := k) (by omega) with ⟨q1, q2⟩ | q
        · rw [hF]; exact ⟨q1, q2 (by omega)⟩
        · omega
      rw [hcut.2]
      have hFl := aFw_lt (d := (dN D 10).1.natAbs) (e := (dN D 10).2) (p := p) (by omega) (by omega)
      obtain ⟨y1, y2, y3⟩ := fx (aPp (dN D 10).2 p) (aFw (dN D 10).1.natAbs (dN D 10).2 p) (by omega) hFl
      have d0 : (j6 (aFw (dN D 10).1.natAbs (dN D 10).2 p : Nat) = 0) = (aFw (dN D 10).1.natAbs (dN D 10).2 p = 0) := by rw [j6_lit, j6_eq (by omega)]; apply propext; omega
      simp only [d0]
      cases sc
      · rw [if_neg (show ¬ false = true by decide)]
        by_cases w0 : aFw (dN D 10).1.natAbs (dN D 10).2 p = 0
        · rw [if_neg (show ¬ ¬ _ from fun q => q w0), if_pos (show false = true ∨ 11 < (dN D 10).2 ∨ ((dN D 10).1 ≠ 0 ∧ aFw (dN D 10).1.natAbs (dN D 10).2 p = 0) from Or.inr (Or.inr ⟨n0, w0⟩))]
          exact ⟨⟨fun q => absurd (by first | exact trivial | rfl) q, fun _ => ⟨fun _ => ⟨hcut.1, fun q => (by cases q), fun _ => ⟨fun q => absurd (by first | exact trivial | rfl) q, fun _ => ⟨fun q => absurd (by first | exact trivial | rfl) q, fun _ => ⟨fun q => absurd w0 q, fun _ => w1⟩⟩⟩⟩, fun q => absurd (by first | exact trivial | rfl) q⟩⟩, w2, w3⟩
        · rw [if_pos (show ¬ _ from w0), if_neg (show ¬ (false = true ∨ 11 < (dN D 10).2 ∨ ((dN D 10).1 ≠ 0 ∧ aFw (dN D 10).1.natAbs (dN D 10).2 p = 0)) from fun q => by rcases q with q | q | q; cases q; exact g11 q; exact w0 q.2)]
          exact ⟨⟨fun q => absurd (by first | exact trivial | rfl) q, fun _ => ⟨fun _ => ⟨hcut.1, fun q => (by cases q), fun _ => ⟨fun q => absurd (by first | exact trivial | rfl) q, fun _ => ⟨fun q => absurd (by first | exact trivial | rfl) q, fun _ => ⟨fun _ => y1, fun q => absurd q w0⟩⟩⟩⟩, fun q => absurd (by first | exact trivial | rfl) q⟩⟩, y2, y3⟩
      · rw [if_pos (show true = true from rfl), if_pos (Or.inl rfl)]
        exact ⟨⟨fun q => absurd (by first | exact trivial | rfl) q, fun _ => ⟨fun _ => ⟨hcut.1, fun _ => w1, fun q => absurd (by first | exact trivial | rfl) q⟩, fun q => absurd (by first | exact trivial | rfl) q⟩⟩, w2, w3⟩
