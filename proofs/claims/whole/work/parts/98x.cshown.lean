/-! the line at the class -/
theorem cfault {s : xS} {o : Nat × (Nat → Int)} {f : Int} (hf : 0 ≤ f ∧ f ≤ 9) (ho : o.1 ≤ 13) (h : txt s 223 224 3 o) : li_writeFault_ok s (i3 f) ∧ fr Pln s (li_writeFault s (i3 f)) ∧ txt (li_writeFault s (i3 f)) 223 224 3 (aFlt f o) := by
  rw [li_writeFault_eq]
  unfold li_writeFault_ok li_writeFault_d
  obtain ⟨a1, a2, a3⟩ := cwrite (c := 70) (by omega) h
  have a1' : li_write_ok s 70 := a1
  have a2' : fr Pln s (li_write s 70) := a2
  have a3' : txt (li_write s 70) 223 224 3 (pu o 70) := a3
  generalize li_write s 70 = t1 at *
  obtain ⟨b1, b2, b3⟩ := cwrite (c := 65) (by show o.1 + 1 < 20; omega) a3'
  have b1' : li_write_ok t1 65 := b1
  have b2' : fr Pln t1 (li_write t1 65) := b2
  have b3' : txt (li_write t1 65) 223 224 3 (pu (pu o 70) 65) := b3
  generalize li_write t1 65 = t2 at *
  obtain ⟨c1, c2, c3⟩ := cwrite (c := 85) (by show o.1 + 1 + 1 < 20; omega) b3'
  have c1' : li_write_ok t2 85 := c1
  have c2' : fr Pln t2 (li_write t2 85) := c2
  have c3' : txt (li_write t2 85) 223 224 3 (pu (pu (pu o 70) 65) 85) := c3
  generalize li_write t2 85 = t3 at *
  obtain ⟨d1, d2, d3⟩ := cwrite (c := 76) (by show o.1 + 1 + 1 + 1 < 20; omega) c3'
  have d1' : li_write_ok t3 76 := d1
  have d2' : fr Pln t3 (li_write t3 76) := d2
  have d3' : txt (li_write t3 76) 223 224 3 (pu (pu (pu (pu o 70) 65) 85) 76) := d3
  generalize li_write t3 76 = t4 at *
  obtain ⟨e1, e2, e3⟩ := cwrite (c := 84) (by show o.1 + 1 + 1 + 1 + 1 < 20; omega) d3'
  have e1' : li_write_ok t4 84 := e1
  have e2' : fr Pln t4 (li_write t4 84) := e2
  have e3' : txt (li_write t4 84) 223 224 3 (pu (pu (pu (pu (pu o 70) 65) 85) 76) 84) := e3
  generalize li_write t4 84 = t5 at *
  obtain ⟨g1, g2, g3⟩ := cwrite (c := 32) (by show o.1 + 1 + 1 + 1 + 1 + 1 < 20; omega) e3'
  have g1' : li_write_ok t5 32 := g1
  have g2' : fr Pln t5 (li_write t5 32) := g2
  have g3' : txt (li_write t5 32) 223 224 3 (pu (pu (pu (pu (pu (pu o 70) 65) 85) 76) 84) 32) := g3
  generalize li_write t5 32 = t6 at *
  obtain ⟨n, rfl⟩ : ∃ n : Nat, f = n := ⟨f.toNat, by omega⟩
  obtain ⟨k1, k2, k3⟩ := cdig (W := n) (c := 1) (by omega) (by show o.1 + 1 + 1 + 1 + 1 + 1 + 1 + 1 ≤ 20; omega) (by omega) g3'
  rw [i3_long (by omega)]
  have k1' : li_writeDigits_ok t6 (j6 (n : Int)) 1 := k1
  have k2' : fr Pln t6 (li_writeDigits t6 (j6 (n : Int)) 1) := k2
  refine ⟨⟨a1', b1', c1', d1', e1', g1', k1'⟩, fr_trans a2' (fr_trans b2' (fr_trans c2' (fr_trans d2' (fr_trans e2' (fr_trans g2' k2'))))), ?_⟩
  have e : aDg n 1 (pu (pu (pu (pu (pu (pu o 70) 65) 85) 76) 84) 32) = aFlt n o := by
    unfold aFlt aDg aDg
    have : ((48 + n / 10 ^ 0 % 10 : Nat) : Int) = 48 + (n : Int) := by rw [Nat.pow_zero, Nat.div_one]; omega
    rw [this]
  rw [e] at k3
  exact k3
theorem cE_ln {s t : xS} {e : aE} (f : fr Pln s t) (h : cE s 7 e) : cE t 7 e := by
  obtain ⟨h1, h2, h3, h4, h5, h6, h7, h8⟩ := h
  have n : ∀ j, ¬ Pln 7 j := fun j => by unfold Pln; omega
  exact ⟨(f.1 _ _ (n _)).1.trans h1, (f.1 _ _ (n _)).2.trans h2, (f.1 _ _ (n _)).1.trans h3, (f.1 _ _ (n _)).1.trans h4, (f.1 _ _ (n _)).1.trans h5, (f.1 _ _ (n _)).1.trans h6, (f.1 _ _ (n _)).1.trans h7, (f.1 _ _ (n _)).1.trans h8⟩
theorem eN_le13 {e : aE} (h : wE e) : eN e ≤ 13 := by unfold eN; have := h.1; split <;> omega
theorem centryL {s : xS} {o : Nat × (Nat → Int)} {e : aE} (he : cE s 7 e) (we : wE e) (ho : o.1 ≤ 0) (h : txt s 223 224 3 o) : li_writeEntry_ok s ∧ fr Pln s (li_writeEntry s) ∧ txt (li_writeEntry s) 223 224 3 (aEy e o) := by
  have hw := we
  obtain ⟨v1, v2, v3, v4, v5, v6, v7⟩ := we
  have hN := eN_le13 hw
  -- the power
  have tail : ∀ {t : xS} {q : Nat × (Nat → Int)}, q.1 = o.1 + 1 + eN e → cE t 7 e → txt t 223 224 3 q → li_writeEntry_62_ok t ∧ fr Pln t (li_writeEntry_62 t) ∧ txt (li_writeEntry_62 t) 223 224 3 (bif eHp e then aSq (fun k => ((48 + ePd e k : Nat) : Int)) 0 (ePl e) (pu (pu q 69) (bif ePm e then 45 else 43)) else q) := by
    intro t q hq ht hx
    rw [li_writeEntry_62_eq]
    unfold li_writeEntry_62_ok li_writeEntry_62_d
    have c5 : (gI t 7 5 = 0) = (eHp e = false) := by rw [ht.2.2.2.2.1]; exact zb0
    simp only [c5]
    cases hp : eHp e
    · rw [if_pos (show false = false from rfl)]
      exact ⟨fun q => absurd rfl q, fr_refl .., hx⟩
    · rw [if_neg (show ¬ true = false by decide)]
      obtain ⟨a1, a2, a3⟩ := cwrite (c := 69) (by omega) hx
      have a1' : li_write_ok t 69 := a1
      have a2' : fr Pln t (li_write t 69) := a2
      have a3' : txt (li_write t 69) 223 224 3 (pu q 69) := a3
      have ht1 := cE_ln a2' ht
      generalize li_write t 69 = t1 at *
      have e6 : (if gI t1 7 6 = 0 then (43 : Int32) else 45) = i3 (bif ePm e then 45 else 43) := by
        rw [ht1.2.2.2.2.2.1]; cases ePm e <;> rfl
      rw [e6]
      obtain ⟨b1, b2, b3⟩ := cwrite (c := (bif ePm e then 45 else 43)) (by show q.1 + 1 < 20; omega) a3'
      have ht2 := cE_ln b2 ht1
      generalize li_write t1 (i3 (bif ePm e then 45 else 43)) = t2 at *
      have h9 : ∀ k, k < ePl e → ePd e (0 + k) ≤ 9 := fun k hk => by rw [Nat.zero_add]; exact v6 k hk
      have hlt := dV_lt h9
      have hp2 : 10 ^ ePl e ≤ 10 ^ 2 := tenP v5
      have e7 : (gI t2 7 7).toInt64 = j6 (dV (ePd e) 0 (ePl e) : Nat) := by rw [ht2.2.2.2.2.2.2.1, i3_long (by omega)]
      have e8 : gI t2 7 8 = i3 (ePl e) := ht2.2.2.2.2.2.2.2
      rw [e7, e8]
      obtain ⟨d1, d2, d3⟩ := cdig (W := dV (ePd e) 0 (ePl e)) (c := ePl e) (by omega) (by show q.1 + 1 + 1 + ePl e ≤ 20; omega) (by omega) b3
      rw [aDg_dV _ _ _ h9] at d3
      exact ⟨fun _ => ⟨a1', b1, d1⟩, fr_trans a2' (fr_trans b2 d2), d3⟩
  rw [li_writeEntry_eq]
  unfold li_writeEntry_ok li_writeEntry_d
  have e1 : (if gI s 7 1 = 0 then (32 : Int32) else 45) = i3 (bif eMi e then 45 else 32) := by rw [he.1]; cases eMi e <;> rfl
  rw [e1]
  obtain ⟨a1, a2, a3⟩ := cwrite (c := (bif eMi e then 45 else 32)) (by omega) h
  have ht := cE_ln a2 he
  generalize li_write s (i3 (bif eMi e then 45 else 32)) = t at *
  have c4 : (gI t 7 4 = -1) = (ePt e = -1) := by rw [ht.2.2.2.1, i3_lit, i3_neg, i3_eq (by omega)]
  have hdl := dV_lt (r := eDg e) (f := 0) (n := eL e) (fun k hk => by rw [Nat.zero_add]; exact v2 k hk)
  have hpl : 10 ^ eL e ≤ 10 ^ 12 := tenP v1
  have sq := aSq_entry hw (pu o (bif eMi e then 45 else 32))
  have nq : (aSq (eCh e) 0 (eN e) (pu o (bif eMi e then 45 else 32))).1 = o.1 + 1 + eN e := aSq_n ..
  simp only [c4]
  unfold aEy
  by_cases g : ePt e = -1
  · rw [if_neg (show ¬ ¬ ePt e = -1 from fun q => q g), ht.2.1, ht.2.2.1]
    rw [if_pos g] at sq
    obtain ⟨b1, b2, b3⟩ := cdig (W := dV (eDg e) 0 (eL e)) (c := eL e) (by omega) (by show o.1 + 1 + eL e ≤ 20; omega) (by omega) a3
    rw [← sq] at b3
    obtain ⟨d1, d2, d3⟩ := tail nq (cE_ln b2 ht) b3
    exact ⟨⟨a1, fun q => absurd g q, fun _ => ⟨b1, d1⟩⟩, fr_trans a2 (fr_trans b2 d2), d3⟩
  · rw [if_pos (show ¬ ePt e = -1 from g), ht.2.1, ht.2.2.1, ht.2.2.2.1]
    rw [if_neg g] at sq
    have ep : i3 (ePt e) = i3 ((ePt e).toNat : Nat) := congrArg i3 (by omega)
    have el : i3 (eL e) - i3 (ePt e) = i3 (eL e - (ePt e).toNat : Nat) := by rw [i3_sub]; exact congrArg i3 (by omega)
    rw [el, ep]
    obtain ⟨b1, b2, b3⟩ := cpoint (W := dV (eDg e) 0 (eL e)) (f := (ePt e).toNat) (e := eL e - (ePt e).toNat) (by omega) (by show o.1 + 1 + (ePt e).toNat + 1 + (eL e - (ePt e).toNat) ≤ 20; omega) (by omega) a3
    rw [← sq] at b3
    obtain ⟨d1, d2, d3⟩ := tail nq (cE_ln b2 ht) b3
    exact ⟨⟨a1, fun _ => ⟨b1, d1⟩, fun q => absurd q g⟩, fr_trans a2 (fr_trans b2 d2), d3⟩
/-! numbers -/
theorem near_le {d k : Nat} (hd : d < 10 ^ 12) (hk : k ≤ 12) : near d (10 ^ k) false ≤ 10 ^ (12 - k) ∧ (k = 0 → near d (10 ^ k) false = d) := by
  refine ⟨?_, fun h => by subst h; exact near_one d false⟩
  have h1 : d / 10 ^ k < 10 ^ (12 - k) := by
    rw [Nat.div_lt_iff_lt_mul (tenP_pos k), ← Nat.pow_add, show 12 - k + k = 12 by omega]; exact hd
  unfold near
  split <;> omega
theorem csci81 {s : xS} {o : Nat × (Nat → Int)} {W p : Nat} {e : Int} (hW : W < 9223372036854775808) (hp : p ≤ 9) (he : -99 ≤ e ∧ e ≤ 99) (ho : o.1 ≤ 1) (hP : gI s 223 1 = i3 p) (h : txt s 223 224 3 o) : li_writeScientific_81_ok s (j6 W) (i3 e) ∧ fr Pln s (li_writeScientific_81 s (j6 W) (i3 e)) ∧ txt (li_writeScientific_81 s (j6 W) (i3 e)) 223 224 3 (aSci W p e o) := by
  rw [li_writeScientific_81_eq]
  unfold li_writeScientific_81_ok li_writeScientific_81_d
  rw [hP]
  obtain ⟨a1, a2, a3⟩ := cpoint (W := W) (f := 1) (e := p) hW (by omega) (by omega) h
  have a1' : li_writeWithPoint_ok s (j6 W) 1 (i3 p) := a1
  have a2' : fr Pln s (li_writeWithPoint s (j6 W) 1 (i3 p)) := a2
  have a3' : txt (li_writeWithPoint s (j6 W) 1 (i3 p)) 223 224 3 (aPt W 1 p o) := a3
  generalize li_writeWithPoint s (j6 W) 1 (i3 p) = t1 at *
  have n1 := aPt_n W 1 p o
  obtain ⟨b1, b2, b3⟩ := cwrite (c := 69) (by omega) a3'
  have b1' : li_write_ok t1 69 := b1
  have b2' : fr Pln t1 (li_write t1 69) := b2
  have b3' : txt (li_write t1 69) 223 224 3 (pu (aPt W 1 p o) 69) := b3
  generalize li_write t1 69 = t2 at *
  have c0 : ((0 : Int32) ≤ i3 e) = (0 ≤ e) := by rw [i3_lit, i3_le (by omega)]
  have es : (if (0 : Int32) ≤ i3 e then (43 : Int32) else 45) = i3 (if 0 ≤ e then 43 else 45) := by
    simp only [c0]; split <;> rfl
  rw [es]
  obtain ⟨d1, d2, d3⟩ := cwrite (c := (if 0 ≤ e then 43 else 45)) (by show (aPt W 1 p o).1 + 1 < 20; omega) b3'
  generalize li_write t2 (i3 (if 0 ≤ e then 43 else 45)) = t3 at *
  rw [iabs_i3 (by omega), i3_long (by omega)]
  obtain ⟨g1, g2, g3⟩ := cdig (W := e.natAbs) (c := 2) (by omega) (by show (aPt W 1 p o).1 + 1 + 1 + 2 ≤ 20; omega) (by omega) d3
  have g1' : li_writeDigits_ok t3 (j6 (e.natAbs : Nat)) 2 := g1
  exact ⟨⟨a1', b1', d1, g1'⟩, fr_trans a2' (fr_trans b2' (fr_trans d2 g2)), g3⟩
theorem csci {s : xS} {o : Nat × (Nat → Int)} {n : Int × Int} {p : Nat} (vn : vN n) (hn : cN s 18 n) (hp : p ≤ 9) (ho : o.1 ≤ 1) (hP : gI s 223 1 = i3 p) (h : txt s 223 224 3 o) : li_writeScientific_ok s ∧ fr Pln s (li_writeScientific s) ∧ txt (li_writeScientific s) 223 224 3 (aScN n.1.natAbs n.2 p o) := by
  have hb := vN_b vn
  rw [li_writeScientific_eq]
  unfold li_writeScientific_ok li_writeScientific_d
  have e11 : (11 : Int32) - gI s 223 1 = i3 (11 - p : Nat) := by rw [hP, i3_lit, i3_sub]; exact congrArg i3 (by omega)
  have ep1 : gI s 223 1 + 1 = i3 (p + 1 : Nat) := by rw [hP, i3_lit, i3_add]; rfl
  rw [e11, ep1, hP, hn.1, hn.2, labs_j6 (by omega), iten_i3 (by omega), iten_i3 (by omega), iten_i3 (by omega)]
  have hp0 := tenP_pos (11 - p)
  have hp1 : 10 ^ (11 - p) ≤ 10 ^ 11 := tenP (by omega)
  have hpp : 10 ^ (p + 1) ≤ 10 ^ 10 := tenP (by omega)
  have hpp0 : 10 ^ p ≤ 10 ^ 9 := tenP (by omega)
  obtain ⟨s1, s2⟩ := nearest_spec s (W := n.1.natAbs) (q := 10 ^ (11 - p)) (m := false) hp0 (by omega) (by omega)
  have s1' : te_nearest_ok s (j6 (n.1.natAbs : Nat)) (j6 (10 ^ (11 - p) : Nat)) 0 := s1
  have s2' : te_nearest s (j6 (n.1.natAbs : Nat)) (j6 (10 ^ (11 - p) : Nat)) 0 = j6 (near n.1.natAbs (10 ^ (11 - p)) false : Nat) := s2
  rw [s2']
  have hnl := (near_le (d := n.1.natAbs) (k := 11 - p) (by omega) (by omega)).1
  have hnl2 : 10 ^ (12 - (11 - p)) ≤ 10 ^ 12 := tenP (by omega)
  have c1 : (j6 (near n.1.natAbs (10 ^ (11 - p)) false : Nat) = j6 (10 ^ (p + 1) : Nat)) = (near n.1.natAbs (10 ^ (11 - p)) false = 10 ^ (p + 1)) := j6_eqN (by omega) (by omega)
  have c9 : (i3 n.2 = 99) = (n.2 = 99) := by rw [i3_lit, i3_eq (by omega)]
  simp only [c1, c9]
  unfold aScN
  have v1 : vp_in (i3 (11 - p : Nat)) 19 := by rw [i3_inN (by omega)]; omega
  have v2 : vp_in (i3 (p + 1 : Nat)) 19 := by rw [i3_inN (by omega)]; omega
  have v3 : vp_in (i3 (p : Nat)) 19 := by rw [i3_inN (by omega)]; omega
  by_cases g : near n.1.natAbs (10 ^ (11 - p)) false = 10 ^ (p + 1)
  · rw [if_neg (show ¬ ¬ _ from fun q => q g), if_neg (show ¬ (near n.1.natAbs (10 ^ (11 - p)) false ≠ 10 ^ (p + 1)) from fun q => q g)]
    by_cases g9 : n.2 = 99
    · rw [if_neg (show ¬ ¬ n.2 = 99 from fun q => q g9), if_neg (show ¬ (n.2 ≠ 99) from fun q => q g9)]
      have e1 : j6 (n.1.natAbs : Nat) / j6 (10 ^ (11 - p) : Nat) = j6 (n.1.natAbs / 10 ^ (11 - p) : Nat) := by rw [j6_quo (by omega)]; exact congrArg j6 (Int.natCast_ediv ..).symm
      have nz : ¬ j6 (10 ^ (11 - p) : Nat) = 0 := by rw [j6_lit, j6_eq (by omega)]; omega
      rw [e1]
      have hle : n.1.natAbs / 10 ^ (11 - p) ≤ n.1.natAbs := Nat.div_le_self ..
      obtain ⟨y1, y2, y3⟩ := csci81 (W := n.1.natAbs / 10 ^ (11 - p)) (e := n.2) (by omega) hp (by omega) ho hP h
      exact ⟨⟨v1, s1', v2, fun q => absurd g q, fun _ => ⟨fun q => absurd g9 q, fun _ => ⟨nz, y1⟩⟩⟩, y2, y3⟩
    · rw [if_pos (show ¬ n.2 = 99 from g9), if_pos (show n.2 ≠ 99 from g9)]
      have e1 : i3 n.2 + 1 = i3 (n.2 + 1) := by rw [i3_lit, i3_add]
      rw [e1]
      obtain ⟨y1, y2, y3⟩ := csci81 (W := 10 ^ p) (e := n.2 + 1) (by omega) hp (by omega) ho hP h
      exact ⟨⟨v1, s1', v2, fun q => absurd g q, fun _ => ⟨fun _ => ⟨v3, y1⟩, fun q => absurd q g9⟩⟩, y2, y3⟩
  · rw [if_pos (show ¬ _ from g), if_pos (show near n.1.natAbs (10 ^ (11 - p)) false ≠ 10 ^ (p + 1) from g)]
    obtain ⟨y1, y2, y3⟩ := csci81 (W := near n.1.natAbs (10 ^ (11 - p)) false) (e := n.2) (by omega) hp (by omega) ho hP h
    exact ⟨⟨v1, s1', v2, fun _ => y1, fun q => absurd q g⟩, y2, y3⟩
theorem aPp_le {e : Int} {p : Nat} (he : e ≤ 11) : aPp e p ≤ p ∧ (aPp e p : Int) ≤ 11 - e := by unfold aPp; split <;> omega
theorem aFw_lt {d : Nat} {e : Int} {p : Nat} (hd : d < 10 ^ 12) (he : e ≤ 11) : aFw d e p < 10 ^ 12 := by
  have hp := aPp_le (p := p) he
  unfold aFw
  split
  · rename_i g
    obtain ⟨k, hk⟩ : ∃ k : Nat, 11 - e - (aPp e p : Nat) = k := ⟨(11 - e - (aPp e p : Nat)).toNat, by omega⟩
    rw [hk, Int.toNat_natCast]
    obtain ⟨h1, h2⟩ := near_le (d := d) (k := k) hd (by omega)
    by_cases w : k = 0
    · rw [h2 w]; exact hd
    · have : 10 ^ (12 - k) ≤ 10 ^ 11 := tenP (by omega)
      omega
  · exact tenP_pos 12
theorem aFx_le {W p : Nat} : ∀ (n f : Nat), aFx W p n f ≤ f + n := by
  intro n
  induction n with
  | zero => intro f; exact Nat.le_refl _
  | succ n ih => intro f; unfold aFx; have := ih (f + 1); split <;> omega
theorem aFx_12 {W p : Nat} (hW : W < 10 ^ 12) : ∀ (n f : Nat), f + p ≤ 12 → 12 ≤ n + f + p → aFx W p n f + p ≤ 12 := by
  intro n
  induction n with
  | zero => intro f h1 h2; unfold aFx; omega
  | succ n ih =>
    intro f h1 h2
    unfold aFx
    split
    · exact h1
    · rename_i g
      refine ih (f + 1) ?_ (by omega)
      by_cases w : f + p = 12
      · rw [w] at g; exact absurd hW g
      · omega
theorem cfx_85 {s : xS} {o : Nat × (Nat → Int)} {W p : Nat} (hW : W < 10 ^ 12) (hp : p ≤ 9) (ho : o.1 ≤ 1) (h : txt s 223 224 3 o) : ∀ (n f m : Nat), 1 ≤ f → f + p ≤ 12 → 13 ≤ n + f + p → 12 ≤ m + f + p → m + 1 ≤ n → li_writeFixed_85_ok n s (i3 p) (j6 W) (i3 f) ∧ fr Pln s (li_writeFixed_85 n s (i3 p) (j6 W) (i3 f)).2 ∧ (li_writeFixed_85 n s (i3 p) (j6 W) (i3 f)).1 = true ∧ txt (li_writeFixed_85 n s (i3 p) (j6 W) (i3 f)).2 223 224 3 (aPt W (aFx W p m f) p o) := by
  intro n
  induction n with
  | zero => intro f m k1 k2 k3; omega
  | succ n ih =>
    intro f m k1 k2 k3 k4 k5
    unfold li_writeFixed_85 li_writeFixed_85_ok
    rw [li_writeFixed_114_eq]
    unfold li_writeFixed_114_ok li_writeFixed_114_d
    have e1 : i3 f + i3 p = i3 (f + p : Nat) := by rw [i3_add]; rfl
    have e2 : i3 f + 1 = i3 (f + 1 : Nat) := by rw [i3_lit, i3_add]; rfl
    have c1 : ((12 : Int32) ≤ i3 (f + p : Nat)) = (12 ≤ f + p) := by rw [i3_lit, i3_le (by omega)]; apply propext; omega
    have hpw : 10 ^ (f + p) ≤ 10 ^ 12 := tenP k2
    have c2 : (j6 W < iten (i3 (f + p : Nat))) = (W < 10 ^ (f + p)) := by rw [iten_i3 (by omega)]; exact j6_ltN (by omega) (by omega)
    rw [e1, e2]
    simp only [c1, c2]
    obtain ⟨y1, y2, y3⟩ := cpoint (W := W) (f := f) (e := p) (by omega) (by omega) (by omega) h
    have hin : vp_in (i3 (f + p : Nat)) 19 := by rw [i3_inN (by omega)]; omega
    by_cases g : 12 ≤ f + p
    · rw [if_pos g]
      have : aFx W p m f = f := by
        cases m with
        | zero => rfl
        | succ m => unfold aFx; rw [if_pos (by rw [show f + p = 12 by omega]; exact hW)]
      rw [this]
      exact ⟨⟨fun _ => y1, fun q => absurd g q⟩, y2, rfl, y3⟩
    · rw [if_neg g]
      obtain ⟨m', hm'⟩ : ∃ m', m = m' + 1 := ⟨m - 1, by omega⟩
      rw [hm']
      unfold aFx
      by_cases g2 : W < 10 ^ (f + p)
      · rw [if_pos g2, if_pos g2]
        exact ⟨⟨fun q => absurd q g, fun _ => ⟨hin, fun _ => y1, fun q => absurd g2 q⟩⟩, y2, rfl, y3⟩
      · rw [if_neg g2, if_neg g2]
        obtain ⟨p1, p2⟩ := ih (f + 1) m' (by omega) (by omega) (by omega) (by omega) (by omega)
        exact ⟨⟨fun q => absurd q g, fun _ => ⟨hin, fun q => absurd q g2, fun _ => p1⟩⟩, p2⟩
theorem cnumL {s : xS} {o : Nat × (Nat → Int)} {n : Int × Int} {sc : Bool} {p : Nat} (vn : vN n) (hn : cN s 18 n) (hp : p ≤ 9) (ho : o.1 ≤ 0) (hS : gI s 223 0 = zb sc) (hP : gI s 223 1 = i3 p) (h : txt s 223 224 3 o) : li_writeNumber_ok s ∧ fr Pln s (li_writeNumber s) ∧ txt (li_writeNumber s) 223 224 3 (aNb n sc p o) := by
  have hb := vN_b vn
  rw [li_writeNumber_eq]
  unfold li_writeNumber_ok li_writeNumber_d
  have cz : ((0 : Int64) ≤ gJ s 18 0) = (¬ n.1 < 0) := by rw [hn.1, j6_lit, j6_le (by omega)]; apply propext; omega
  have e1 : (if de_isBelowZero s 18 = true then (45 : Int32) else 32) = i3 (if n.1 < 0 then 45 else 32) := by
    unfold de_isBelowZero
    simp only [cz]
    by_cases w : n.1 < 0
    · rw [decide_eq_false (show ¬ ¬ n.1 < 0 from fun q => q w), if_pos (show (!false) = true from rfl), if_pos w]; rfl
    · rw [decide_eq_true (show ¬ n.1 < 0 from w), if_neg (show ¬ (!true) = true by decide), if_neg w]; rfl
  rw [e1]
  obtain ⟨a1, a2, a3⟩ := cwrite (c := (if n.1 < 0 then 45 else 32)) (by omega) h
  have hn1 : cN (li_write s (i3 (if n.1 < 0 then 45 else 32))) 18 n := cN_fr a2 (by unfold Pln; omega) (by unfold Pln; omega) hn
  have hS1 := (a2.1 223 0 (by unfold Pln; omega)).1.trans hS
  have hP1 := (a2.1 223 1 (by unfold Pln; omega)).1.trans hP
  generalize li_write s (i3 (if n.1 < 0 then 45 else 32)) = t at *
  have cs : (gI t 223 0 = 0) = (sc = false) := by rw [hS1]; exact zb0
  simp only [cs]
  rw [li_writeNumber_33_eq]
  unfold li_writeNumber_33_ok li_writeNumber_33_d
  obtain ⟨z1, z2, z3⟩ := csci vn hn1 hp (by show o.1 + 1 ≤ 1; omega) hP1 a3
  unfold aNb
  -- the fixed form
  have fx : li_writeFixed_ok t ∧ ((11 < n.2 ∨ (n.1 ≠ 0 ∧ aFw n.1.natAbs n.2 p = 0)) → li_writeFixed t = (false, t)) ∧ (¬ (11 < n.2 ∨ (n.1 ≠ 0 ∧ aFw n.1.natAbs n.2 p = 0)) → fr Pln t (li_writeFixed t).2 ∧ (li_writeFixed t).1 = true ∧ txt (li_writeFixed t).2 223 224 3 (aPt (aFw n.1.natAbs n.2 p) (aFx (aFw n.1.natAbs n.2 p) (aPp n.2 p) 12 1) (aPp n.2 p) (pu o (if n.1 < 0 then 45 else 32)))) := by
    rw [li_writeFixed_eq]
    unfold li_writeFixed_ok li_writeFixed_d
    rw [hn1.2, hP1, hn1.1, labs_j6 (by omega)]
    have c11 : (i3 n.2 ≤ 11) = (¬ 11 < n.2) := by rw [i3_lit, i3_le (by omega)]; apply propext; omega
    simp only [c11]
    by_cases g11 : 11 < n.2
    · rw [if_neg (show ¬ ¬ 11 < n.2 from fun q => q g11)]
      exact ⟨fun q => absurd g11 q, fun _ => rfl, fun q => absurd (Or.inl g11) q⟩
    · rw [if_pos (show ¬ 11 < n.2 from g11)]
      have hpp := aPp_le (e := n.2) (p := p) (by omega)
      have em : imin (i3 p) (11 - i3 n.2) = i3 (aPp n.2 p : Nat) := by
        unfold imin aPp
        rw [i3_lit, i3_sub]
        have : (i3 (11 - n.2) < i3 p) = (¬ (p : Int) ≤ 11 - n.2) := by rw [i3_lt (by omega)]; apply propext; omega
        simp only [this]
        by_cases w : (p : Int) ≤ 11 - n.2
        · rw [if_neg (show ¬ ¬ _ from fun q => q w), if_pos w]
        · rw [if_pos (show ¬ _ from w), if_neg w]; exact congrArg i3 (by omega)
      have ed : (11 : Int32) - i3 n.2 - i3 (aPp n.2 p : Nat) = i3 (11 - n.2 - (aPp n.2 p : Nat)) := by rw [i3_lit, i3_sub, i3_sub]
      rw [em, ed]
      have c12 : (i3 (11 - n.2 - (aPp n.2 p : Nat)) ≤ 12) = (11 - n.2 - (aPp n.2 p : Nat) ≤ 12) := by rw [i3_lit, i3_le (by omega)]
      simp only [c12]
      have hFl := aFw_lt (d := n.1.natAbs) (e := n.2) (p := p) (by omega) (by omega)
      -- what follows
      have f62 : li_writeFixed_62_ok t (i3 (aPp n.2 p : Nat)) (j6 (aFw n.1.natAbs n.2 p : Nat)) ∧ ((11 < n.2 ∨ (n.1 ≠ 0 ∧ aFw n.1.natAbs n.2 p = 0)) → li_writeFixed_62 t (i3 (aPp n.2 p : Nat)) (j6 (aFw n.1.natAbs n.2 p : Nat)) = (false, t)) ∧ (¬ (11 < n.2 ∨ (n.1 ≠ 0 ∧ aFw n.1.natAbs n.2 p = 0)) → fr Pln t (li_writeFixed_62 t (i3 (aPp n.2 p : Nat)) (j6 (aFw n.1.natAbs n.2 p : Nat))).2 ∧ (li_writeFixed_62 t (i3 (aPp n.2 p : Nat)) (j6 (aFw n.1.natAbs n.2 p : Nat))).1 = true ∧ txt (li_writeFixed_62 t (i3 (aPp n.2 p : Nat)) (j6 (aFw n.1.natAbs n.2 p : Nat))).2 223 224 3 (aPt (aFw n.1.natAbs n.2 p) (aFx (aFw n.1.natAbs n.2 p) (aPp n.2 p) 12 1) (aPp n.2 p) (pu o (if n.1 < 0 then 45 else 32)))) := by
        generalize aFw n.1.natAbs n.2 p = W at *
        generalize aPp n.2 p = q at *
        obtain ⟨y1, y2, y3, y4⟩ := cfx_85 (W := W) (p := q) hFl (by omega) (by show o.1 + 1 ≤ 1; omega) a3 xfu 1 12 (by omega) (by omega) (by rw [xfu_eq]; omega) (by omega) (by rw [xfu_eq]; omega)
        have y1' : li_writeFixed_85_ok xfu t (i3 (q : Nat)) (j6 (W : Nat)) 1 := y1
        have y2' : fr Pln t (li_writeFixed_85 xfu t (i3 (q : Nat)) (j6 (W : Nat)) 1).2 := y2
        have y3' : (li_writeFixed_85 xfu t (i3 (q : Nat)) (j6 (W : Nat)) 1).1 = true := y3
        have y4' : txt (li_writeFixed_85 xfu t (i3 (q : Nat)) (j6 (W : Nat)) 1).2 223 224 3 (aPt W (aFx W q 12 1) q (pu o (if n.1 < 0 then 45 else 32))) := y4
        rw [li_writeFixed_62_eq]
        unfold li_writeFixed_62_ok li_writeFixed_62_d
        have d0 : (j6 (W : Nat) = 0) = (W = 0) := by rw [j6_lit, j6_eq (by omega)]; apply propext; omega
        have d1 : (gJ t 18 0 = 0) = (n.1 = 0) := by rw [hn1.1, j6_lit, j6_eq (by omega)]
        simp only [d0, d1]
        by_cases w0 : W = 0
        · rw [if_neg (show ¬ ¬ W = 0 from fun q => q w0)]
          by_cases n0 : n.1 = 0
          · rw [if_pos n0]
            exact ⟨⟨fun q => absurd w0 q, fun _ _ => y1'⟩, fun q => absurd q (by omega), fun _ => ⟨y2', y3', y4'⟩⟩
          · rw [if_neg n0]
            exact ⟨⟨fun q => absurd w0 q, fun _ q => absurd q n0⟩, fun _ => rfl, fun q => absurd (Or.inr ⟨n0, w0⟩) q⟩
        · rw [if_pos (show ¬ W = 0 from w0)]
          exact ⟨⟨fun _ => y1', fun q => absurd q w0⟩, fun q => absurd q (by omega), fun _ => ⟨y2', y3', y4'⟩⟩
      by_cases g12 : 11 - n.2 - (aPp n.2 p : Nat) ≤ 12
      · rw [if_pos g12]
        obtain ⟨k, hk⟩ : ∃ k : Nat, 11 - n.2 - (aPp n.2 p : Nat) = k := ⟨(11 - n.2 - (aPp n.2 p : Nat)).toNat, by omega⟩
        have hF : aFw n.1.natAbs n.2 p = near n.1.natAbs (10 ^ k) false := by unfold aFw; rw [if_pos g12, hk, Int.toNat_natCast]
        have hp0 := tenP_pos k
        have hp1 : 10 ^ k ≤ 10 ^ 12 := tenP (by omega)
        obtain ⟨s1, s2⟩ := nearest_spec t (W := n.1.natAbs) (q := 10 ^ k) (m := false) hp0 (by omega) (by omega)
        have s1' : te_nearest_ok t (j6 (n.1.natAbs : Nat)) (j6 (10 ^ k : Nat)) 0 := s1
        have s2' : te_nearest t (j6 (n.1.natAbs : Nat)) (j6 (10 ^ k : Nat)) 0 = j6 (near n.1.natAbs (10 ^ k) false : Nat) := s2
        rw [hk, iten_i3 (by omega), s2', ← hF]
        exact ⟨fun _ => ⟨fun _ => ⟨by rw [i3_inN (by omega)]; omega, s1', f62.1⟩, fun q => absurd (show (k : Int) ≤ 12 by omega) q⟩, f62.2⟩
      · rw [if_neg g12]
        have hF : aFw n.1.natAbs n.2 p = 0 := by unfold aFw; rw [if_neg g12]
        rw [hF] at f62 ⊢
        exact ⟨fun _ => ⟨fun q => absurd q g12, fun _ => f62.1⟩, f62.2⟩
  obtain ⟨x1, x2, x3⟩ := fx
  cases sc
  · rw [if_neg (show ¬ ¬ false = false from fun q => q rfl)]
    by_cases g : 11 < n.2 ∨ (n.1 ≠ 0 ∧ aFw n.1.natAbs n.2 p = 0)
    · rw [if_pos (show false = true ∨ 11 < n.2 ∨ (n.1 ≠ 0 ∧ aFw n.1.natAbs n.2 p = 0) from Or.inr g), x2 g, if_neg (show ¬ false = true by decide)]
      exact ⟨⟨a1, fun q => absurd rfl q, fun _ => ⟨x1, fun _ => z1⟩⟩, fr_trans a2 z2, z3⟩
    · rw [if_neg (show ¬ (false = true ∨ 11 < n.2 ∨ (n.1 ≠ 0 ∧ aFw n.1.natAbs n.2 p = 0)) from fun q => by rcases q with q | q; cases q; exact g q)]
      obtain ⟨y1, y2, y3⟩ := x3 g
      rw [if_pos y2]
      exact ⟨⟨a1, fun q => absurd rfl q, fun _ => ⟨x1, fun q => by rw [y2] at q; cases q⟩⟩, fr_trans a2 y1, y3⟩
  · rw [if_pos (show ¬ true = false by decide), if_pos (Or.inl rfl)]
    exact ⟨⟨a1, fun _ => z1, fun q => (by cases q)⟩, fr_trans a2 z2, z3⟩
/-! the parts of the line -/
theorem cpart_6 {s : xS} {o : Nat × (Nat → Int)} {p : Nat} (hp : p ≤ 2) (ho : o.1 ≤ 20) (h : txt s 223 224 3 o) : ∀ (n c : Nat) (x : Int64), c ≤ 8 → c + 1 ≤ n → li_part_6_ok n s (i3 p) x (i3 ((c : Int) - 1)) ∧ li_part_6 n s (i3 p) x (i3 ((c : Int) - 1)) = aPart (lnC o) p c x := by
  intro n
  induction n with
  | zero => intro c x k1 k2; omega
  | succ n ih =>
    intro c x k1 k2
    unfold li_part_6 li_part_6_ok
    have c1 : (i3 ((c : Int) - 1) < 0) = (c = 0) := by rw [i3_lit, i3_lt (by omega)]; apply propext; omega
    simp only [c1]
    cases c with
    | zero => rw [if_pos rfl]; exact ⟨fun q => absurd rfl q, rfl⟩
    | succ j =>
      rw [if_neg (Nat.succ_ne_zero j)]
      have ej : ((j + 1 : Nat) : Int) - 1 = (j : Int) := by omega
      rw [ej]
      have e2 : i3 (j : Int) + -1 = i3 ((j : Int) - 1) := by rw [i3_lit, i3_neg, i3_add]; exact congrArg i3 (by omega)
      have e3 : (8 : Int32) * i3 p + i3 (j : Int) = i3 (8 * p + j : Nat) := by rw [i3_lit, i3_mul, i3_add]; rfl
      have c2 : ((20 : Int32) ≤ i3 (8 * p + j : Nat)) = (20 ≤ 8 * p + j) := by rw [i3_lit, i3_le (by omega)]; apply propext; omega
      have c3 : (gI s 223 3 ≤ i3 (8 * p + j : Nat)) = (o.1 ≤ 8 * p + j) := by rw [h.1]; exact i3_leN (by omega) (by omega)
      rw [e2, e3]
      simp only [c2, c3]
      unfold aPart lnC
      by_cases g1 : 20 ≤ 8 * p + j
      · rw [if_pos g1, if_pos g1]
        obtain ⟨p1, p2⟩ := ih j ((x <<< ((8 : Int32).toInt64 &&& 63)) ||| ((0 : Int32).toInt64)) (by omega) (by omega)
        exact ⟨fun _ => ⟨fun _ => p1, fun q => absurd g1 q⟩, p2⟩
      · rw [if_neg g1, if_neg g1]
        by_cases g2 : o.1 ≤ 8 * p + j
        · rw [if_pos g2, if_pos g2]
          obtain ⟨p1, p2⟩ := ih j ((x <<< ((8 : Int32).toInt64 &&& 63)) ||| ((32 : Int32).toInt64)) (by omega) (by omega)
          exact ⟨fun _ => ⟨fun q => absurd q g1, fun _ => ⟨fun _ => p1, fun q => absurd g2 q⟩⟩, p2⟩
        · rw [if_neg g2, if_neg g2, i3_natN (by omega), h.2 _ (by omega)]
          obtain ⟨p1, p2⟩ := ih j ((x <<< ((8 : Int32).toInt64 &&& 63)) ||| (i3 (o.2 (8 * p + j))).toInt64) (by omega) (by omega)
          exact ⟨fun _ => ⟨fun q => absurd q g1, fun _ => ⟨fun q => absurd q g2, fun _ => ⟨by rw [i3_inN (by omega)]; omega, p1⟩⟩⟩, p2⟩
theorem aNb_n {n : Int × Int} {sc : Bool} {p : Nat} {o : Nat × (Nat → Int)} (vn : vN n) (hp : p ≤ 9) : (aNb n sc p o).1 ≤ o.1 + 18 := by
  have hb := vN_b vn
  have sci : ∀ W e q, (aSci W p e q).1 ≤ q.1 + 1 + 1 + p + 4 := by
    intro W e q
    unfold aSci
    rw [aDg_n]
    show (aPt W 1 p q).1 + 1 + 1 + 2 ≤ _
    rw [aPt_n]; omega
  unfold aNb
  split
  · unfold aScN
    repeat' split
    all_goals (refine Nat.le_trans (sci ..) ?_; show o.1 + 1 + 1 + 1 + p + 4 ≤ _; omega)
  · rename_i g
    have h11 : n.2 ≤ 11 := by
      by_cases w : 11 < n.2
      · exact absurd (Or.inr (Or.inl w)) g
      · omega
    have hpp := aPp_le (p := p) h11
    have hFl := aFw_lt (d := n.1.natAbs) (p := p) (by omega) h11
    have := aFx_12 (p := aPp n.2 p) hFl 12 1 (by omega) (by omega)
    rw [aPt_n]
    show o.1 + 1 + _ + 1 + _ ≤ _
    omega
theorem aEy_n {e : aE} {o : Nat × (Nat → Int)} (h : wE e) : (aEy e o).1 ≤ o.1 + 18 := by
  have := eN_le13 h
  obtain ⟨_, _, _, _, v5, _⟩ := h
  unfold aEy
  cases eHp e
  · dsimp only [cond_false]; rw [aSq_n]; show o.1 + 1 + _ ≤ _; omega
  · dsimp only [cond_true]; rw [aSq_n]; show (aSq _ 0 _ _).1 + 1 + 1 + _ ≤ _; rw [aSq_n]; show o.1 + 1 + _ + 1 + 1 + _ ≤ _; omega
theorem aLine_n {A : aA} (hA : VA A) : (aLine A).1 ≤ 20 := by
  have hp := hA.2.2.2.2.2.1
  unfold aLine
  split
  · show 0 + 1 + 1 + 1 + 1 + 1 + 1 + 1 ≤ 20; omega
  · cases hd : dOn (qD A)
    · dsimp only [cond_false]
      have := aNb_n (sc := qSc A) (p := (qPl A).toNat) (o := (0, fun _ => 32)) (hA.1.1.1 10 (by omega)) (by omega)
      dsimp only at this; omega
    · dsimp only [cond_true]
      have := aEy_n (o := (0, fun _ => 32)) (hA.1.1.2.2.2.2.2 hd).1
      dsimp only at this; omega
theorem cshown {s : xS} {A : aA} {p : Nat} (hA : VA A) (hp : p ≤ 2) (h : CV s A) : te_shown_ok s (i3 p) ∧ fr Pcl s (te_shown s (i3 p)).2 ∧ (te_shown s (i3 p)).1 = aPart (lnC (aLine A)) p 8 0 ∧ CV (te_shown s (i3 p)).2 A := by
  have c0 : ¬ i3 (p : Int) < 0 := by rw [i3_lit, i3_lt (by omega)]; omega
  have c2 : i3 (p : Int) ≤ 2 := by rw [i3_lit, i3_le (by omega)]; omega
  have hff := hA.1.2.2.1
  have hpl := hA.2.2.2.2.2.1
  have hln := aLine_n hA
  rw [te_shown_eq]
  unfold te_shown_ok te_shown_d
  rw [if_neg c0, if_pos c2, li_begin_eq]
  unfold li_begin_d
  have f0 : fr Pln s (sI s 223 3 0) := fr_sI (fr_refl ..) (Or.inl ⟨rfl, rfl⟩)
  have t0 : txt (sI s 223 3 0) 223 224 3 (0, fun _ => 32) := ⟨by rw [gI_sI, if_pos ⟨rfl, rfl⟩]; rfl, fun i hi => absurd hi (Nat.not_lt_zero i)⟩
  have cvf : ∀ {t : xS}, fr Pln s t → CV t A := fun f => by
    obtain ⟨q1, q2, q3, ⟨nx, q4⟩, q5, q6, q7, q8, q9, q10⟩ := h
    exact ⟨CVd_fr f (fun b j w => by unfold Pln; omega) hA.1.1 q1, CVf_fr f (by unfold Pln; omega) q2, CVr_fr f (by unfold Pln; omega) q3, ⟨nx, CVh_fr f (fun b j w => by unfold Pln; omega) hA.2.1 q4⟩, CVp_fr f (fun j => by unfold Pln; omega) q5, CVe_fr f (fun b j w => by unfold Pln; omega) q6, CVs_fr f (fun b j w => by unfold Pln; omega) q7, CVl_fr f (fun j w => by unfold Pln; omega) q8, CVt_fr f (by unfold Pln; omega) (fun j => by unfold Pln; omega) q9, CVo_fr f (by unfold Pln; omega) (fun j => by unfold Pln; omega) q10⟩
  have h1 := cvf f0
  generalize sI s 223 3 0 = t at *
  have cF : (gI t 1 3 = 0) = (qF A = 0) := by rw [h1.2.1, i3_lit, i3_eq (by omega)]
  have cO : (gI t 7 0 = 0) = (dOn (qD A) = false) := by
    have : gI t 7 0 = zb (dOn (qD A)) := h1.1.1.2.2.2.2.2.1
    rw [this]; exact zb0
  simp only [cF, cO]
  rw [te_shown_94_eq]
  unfold te_shown_94_ok te_shown_94_d
  have pl : ∀ {u : xS}, fr Pln t u → txt u 223 224 3 (aLine A) → li_part_ok u (i3 p) ∧ fr Pcl s u ∧ li_part u (i3 p) = aPart (lnC (aLine A)) p 8 0 ∧ CV u A := by
    intro u fu hu
    unfold li_part_ok li_part
    obtain ⟨p1, p2⟩ := cpart_6 hp hln hu xfu 8 0 (by omega) (by rw [xfu_eq]; omega)
    exact ⟨p1, fr_mono (fr_trans f0 fu) (fun b j q => by unfold Pln at q; unfold Pcl; omega), p2, cvf (fr_trans f0 fu)⟩
  by_cases gF : qF A = 0
  · rw [if_pos gF]
    cases gO : dOn (qD A)
    · rw [if_pos (show false = false from rfl)]
      obtain ⟨y1, y2, y3⟩ := cnumL (s := t) (o := (0, fun _ => 32)) (n := dN (qD A) 10) (sc := qSc A) (p := (qPl A).toNat) (hA.1.1.1 10 (by omega)) (h1.1.1.1 10 (by omega)) (by omega) (by show 0 ≤ 0; omega) h1.2.2.2.2.2.2.2.1.1 (by rw [h1.2.2.2.2.2.2.2.1.2]; exact congrArg i3 (by omega)) t0
      have hl : aLine A = aNb (dN (qD A) 10) (qSc A) (qPl A).toNat (0, fun _ => 32) := by unfold aLine; rw [if_neg (fun q => q gF), gO]; rfl
      rw [← hl] at y3
      obtain ⟨z1, z2⟩ := pl y2 y3
      exact ⟨⟨fun q => absurd q c0, fun _ => ⟨fun _ => ⟨fun _ => ⟨fun _ => ⟨y1, z1⟩, fun q => absurd rfl q⟩, fun q => absurd gF q⟩, fun q => absurd c2 q⟩⟩, z2⟩
    · rw [if_neg (show ¬ true = false by decide)]
      have hE : cE t 7 (dE (qD A)) := h1.1.1.2.2.2.2.2.2.2 gO
      obtain ⟨y1, y2, y3⟩ := centryL (s := t) (o := (0, fun _ => 32)) hE (hA.1.1.2.2.2.2.2 gO).1 (by show 0 ≤ 0; omega) t0
      have hl : aLine A = aEy (dE (qD A)) (0, fun _ => 32) := by unfold aLine; rw [if_neg (fun q => q gF), gO]; rfl
      rw [← hl] at y3
      obtain ⟨z1, z2⟩ := pl y2 y3
      exact ⟨⟨fun q => absurd q c0, fun _ => ⟨fun _ => ⟨fun _ => ⟨fun q => (by cases q), fun _ => ⟨y1, z1⟩⟩, fun q => absurd gF q⟩, fun q => absurd c2 q⟩⟩, z2⟩
  · rw [if_neg gF]
    have eF : gI t 1 3 = i3 (qF A) := h1.2.1
    rw [eF]
    obtain ⟨y1, y2, y3⟩ := cfault (s := t) (o := (0, fun _ => 32)) (f := qF A) hff (by show 0 ≤ 13; omega) t0
    have hl : aLine A = aFlt (qF A) (0, fun _ => 32) := by unfold aLine; rw [if_pos gF]
    rw [← hl] at y3
    obtain ⟨z1, z2⟩ := pl y2 y3
    exact ⟨⟨fun q => absurd q c0, fun _ => ⟨fun _ => ⟨fun q => absurd q gF, fun _ => ⟨y1, z1⟩⟩, fun q => absurd c2 q⟩⟩, z2⟩
