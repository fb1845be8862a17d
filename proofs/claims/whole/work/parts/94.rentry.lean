/-! THE REFERENCE'S ENTRY -/
def Pe (b j : Nat) : Prop := b = 231 ∧ 58 ≤ j ∧ j < 80
theorem eCh_46 {e : aE} {k : Nat} : (eCh e k = 46) = ((k : Int) = ePt e) := by
  unfold eCh
  apply propext
  split
  · constructor <;> intro q <;> omega
  · split
    · rename_i g; exact ⟨fun _ => g, fun _ => rfl⟩
    · constructor <;> intro q <;> omega
theorem eCh_rng {e : aE} {k : Nat} (h : wE e) (hk : k < eN e) : 46 ≤ eCh e k ∧ eCh e k ≤ 57 := by
  obtain ⟨h1, h2, h3, h4, h5, h6, h7⟩ := h
  unfold eN at hk
  unfold eCh
  split
  · rename_i g
    have := h2 k (by split at hk <;> omega)
    omega
  · split
    · omega
    · have := h2 (k - 1) (by split at hk <;> omega)
      omega
theorem rE_at {s : xS} {e : aE} (h : rE s 0 e) : gI s 231 58 = i3 (pm1 (eMi e)) ∧ gI s 231 59 = i3 (eN e) ∧ (∀ k, k < eN e → gI s 231 (60 + k) = i3 (eCh e k)) ∧ gI s 231 73 = zb (eHp e) ∧ (eHp e = true → gI s 231 74 = i3 (pm1 (ePm e)) ∧ gI s 231 75 = i3 (ePl e) ∧ ∀ k, k < ePl e → gI s 231 (76 + k) = i3 (48 + ePd e k)) := by
  obtain ⟨h1, h2, h3, h4, h5⟩ := h
  refine ⟨h1, h2, fun k hk => ?_, h4, fun q => ⟨(h5 q).1, (h5 q).2.1, fun k hk => ?_⟩⟩
  · have := h3 k hk; rwa [show 80 * 0 + 60 + k = 60 + k by omega] at this
  · have := (h5 q).2.2 k hk; rwa [show 80 * 0 + 76 + k = 76 + k by omega] at this
theorem rE_mk {s : xS} {e : aE} (h : gI s 231 58 = i3 (pm1 (eMi e)) ∧ gI s 231 59 = i3 (eN e) ∧ (∀ k, k < eN e → gI s 231 (60 + k) = i3 (eCh e k)) ∧ gI s 231 73 = zb (eHp e) ∧ (eHp e = true → gI s 231 74 = i3 (pm1 (ePm e)) ∧ gI s 231 75 = i3 (ePl e) ∧ ∀ k, k < ePl e → gI s 231 (76 + k) = i3 (48 + ePd e k))) : rE s 0 e := by
  obtain ⟨h1, h2, h3, h4, h5⟩ := h
  refine ⟨h1, h2, fun k hk => ?_, h4, fun q => ⟨(h5 q).1, (h5 q).2.1, fun k hk => ?_⟩⟩
  · rw [show 80 * 0 + 60 + k = 60 + k by omega]; exact h3 k hk
  · rw [show 80 * 0 + 76 + k = 76 + k by omega]; exact (h5 q).2.2 k hk
theorem eN_le {e : aE} (h : wE e) : eN e ≤ 13 := by
  unfold eN
  have := h.1
  split <;> omega
theorem rpt_4 {s : xS} {e : aE} (hw : wE e) (h : rE s 0 e) : ∀ (n i : Nat) (b : Bool), i ≤ eN e → eN e + 1 ≤ n + i → b = decide (0 ≤ ePt e ∧ ePt e < i) → tm_hasPoint_4_ok n s (zb b) (i3 i) ∧ tm_hasPoint_4 n s (zb b) (i3 i) = zb (decide (0 ≤ ePt e)) := by
  obtain ⟨h1, h2, h3, h4, h5⟩ := rE_at h
  have hn := eN_le hw
  have hp := hw.2.2.1
  intro n
  induction n with
  | zero => intro i b k1 k2; omega
  | succ n ih =>
    intro i b k1 k2 k3
    unfold tm_hasPoint_4 tm_hasPoint_4_ok
    have c1 : (gI s 231 59 ≤ i3 i) = (eN e ≤ i) := by rw [h2]; exact i3_leN (by omega) (by omega)
    have e1 : i3 i + 1 = i3 (i + 1 : Nat) := by rw [i3_lit, i3_add]; rfl
    have e2 : (60 : Int32) + i3 i = i3 (60 + i : Nat) := by rw [i3_lit, i3_add]; rfl
    have c2 : (zb b = 0) = (b = false) := propext zb_eq0
    simp only [c1, e1, e2, c2, i3_natN (show 60 + i < 2147483648 by omega)]
    by_cases g : eN e ≤ i
    · rw [if_pos g]
      refine ⟨⟨fun _ => by cases b; exact Or.inl rfl; exact Or.inr rfl, fun q => absurd g q⟩, ?_⟩
      rw [k3]
      congr 1
      apply decide_eq_decide.mpr
      constructor
      · intro q; exact q.1
      · intro q
        refine ⟨q, ?_⟩
        unfold eN at g
        rw [if_neg (by omega)] at g
        omega
    · rw [if_neg g]
      have hc := h3 i (by omega)
      have hr := eCh_rng hw (show i < eN e by omega)
      have c3 : (gI s 231 (60 + i) = 46) = ((i : Int) = ePt e) := by rw [hc, i3_lit, i3_eq (by omega), eCh_46]
      simp only [c3]
      have hin : vp_in (i3 (60 + i : Nat)) 640 := by rw [i3_inN (by omega)]; omega
      cases hb : b
      · rw [if_neg (show ¬ ¬ false = false from fun q => q rfl)]
        obtain ⟨p1, p2⟩ := ih (i + 1) (decide ((i : Int) = ePt e)) (by omega) (by omega) (by
          rw [hb] at k3
          have := of_decide_eq_false k3.symm
          apply decide_eq_decide.mpr
          omega)
        exact ⟨⟨fun q => absurd q g, fun _ => ⟨fun q => absurd rfl q, fun _ => ⟨hin, p1⟩⟩⟩, p2⟩
      · rw [if_pos (show ¬ true = false by decide)]
        obtain ⟨p1, p2⟩ := ih (i + 1) true (by omega) (by omega) (by
          rw [hb] at k3
          have := of_decide_eq_true k3.symm
          symm
          apply decide_eq_true
          omega)
        exact ⟨⟨fun q => absurd q g, fun _ => ⟨fun _ => p1, fun q => absurd q (by decide)⟩⟩, p2⟩
theorem rpt {s : xS} {e : aE} (hw : wE e) (h : rE s 0 e) : tm_hasPoint_ok s ∧ tm_hasPoint s = zb (decide (0 ≤ ePt e)) := by
  unfold tm_hasPoint_ok tm_hasPoint
  have := eN_le hw
  exact rpt_4 hw h xfu 0 false (by omega) (by rw [xfu_eq]; omega) (by symm; apply decide_eq_false; omega)
theorem rfig {s : xS} {e : aE} (hw : wE e) (h : rE s 0 e) : tm_figures_ok s ∧ tm_figures s = i3 (eL e) := by
  obtain ⟨p1, p2⟩ := rpt hw h
  obtain ⟨h1, h2, h3, h4, h5⟩ := rE_at h
  unfold tm_figures_ok tm_figures
  refine ⟨p1, ?_⟩
  rw [p2, h2]
  unfold eN
  by_cases g : 0 ≤ ePt e
  · rw [decide_eq_true g, if_neg (by omega)]
    show i3 _ - i3 1 = _
    rw [i3_sub]; exact congrArg i3 (by omega)
  · rw [decide_eq_false g, if_pos (by omega)]
    show i3 _ - i3 0 = _
    rw [i3_sub]; exact congrArg i3 (by omega)
theorem isDg_tm (k : Int) (hk : 0 ≤ k ∧ k ≤ 255) : tm_isFigure (i3 k) = isDg k := isDg_te k hk
theorem pm1_not (b : Bool) : -(i3 (pm1 b)) = i3 (pm1 (!b)) := by cases b <;> rfl
theorem redit {s : xS} {e : aE} {k : Int} (hk : 0 ≤ k ∧ k ≤ 255) (h66 : isBg k = true ∨ k = 78) (hw : wE e) (h : rE s 0 e) : tm_edit_ok s (i3 k) ∧ fr Pe s (tm_edit s (i3 k)) ∧ rE (tm_edit s (i3 k)) 0 (eTake e k) := by
  obtain ⟨f1, f2⟩ := rfig hw h
  obtain ⟨g1, g2⟩ := rpt hw h
  have hn := eN_le hw
  have h0 := h
  obtain ⟨h1, h2, h3, h4, h5⟩ := rE_at h
  obtain ⟨w1, w2, w3, w4, w5, w6, w7⟩ := hw
  rw [tm_edit_eq]
  unfold tm_edit_ok tm_edit_d
  rw [tm_edit_59_eq, tm_edit_201_eq]
  unfold tm_edit_59_ok tm_edit_59_d tm_edit_201_d
  rw [isDg_tm k hk, f2, g2]
  have c1 : (i3 k = 46) = (k = 46) := by rw [i3_lit, i3_eq (by omega)]
  have c2 : (i3 k = 69) = (k = 69) := by rw [i3_lit, i3_eq (by omega)]
  have c3 : (gI s 231 73 = 0) = (eHp e = false) := by rw [h4]; exact propext zb_eq0
  have c4 : (gI s 231 73 = 1) = (eHp e = true) := by rw [h4]; exact propext zb_eq1
  have c5 : (zb (decide (0 ≤ ePt e)) = 0) = (¬ 0 ≤ ePt e) := by rw [propext zb_eq0]; simp
  have c6 : ((12 : Int32) ≤ i3 (eL e)) = (12 ≤ eL e) := by rw [i3_lit, i3_le (by omega)]; apply propext; omega
  have c7 : (i3 (eL e) = 0) = (eL e = 0) := by rw [i3_lit, i3_eq (by omega)]; apply propext; omega
  have e60 : (60 : Int32) + gI s 231 59 = i3 (60 + eN e : Nat) := by rw [h2, i3_lit, i3_add]; rfl
  simp only [c1, c2, c3, c4, c5, c6, c7]
  rw [e60, i3_natN (show 60 + eN e < 2147483648 by omega)]
  have hin : vp_in (i3 (60 + eN e : Nat)) 640 := by rw [i3_inN (by omega)]; omega
  have len : ∀ v, gI (sI s 231 (60 + eN e) v) 231 59 + 1 = i3 (eN e + 1 : Nat) := by
    intro v
    rw [gI_sI, if_neg (by omega), h2, i3_lit, i3_add]; rfl
  rw [len]
  unfold eTake
  cases gd : isDg k
  · rw [if_pos (show false = false from rfl)]
    dsimp only [cond_false]
    by_cases k1 : k = 46
    · rw [if_neg (show ¬ ¬ k = 46 from fun q => q k1), if_pos k1]
      unfold ePoint
      cases gh : eHp e
      · rw [if_neg (show ¬ ¬ false = false from fun q => q rfl)]
        by_cases gp : 0 ≤ ePt e
        · rw [if_pos (show ¬ ¬ 0 ≤ ePt e from fun q => q gp), if_neg (show ¬ (ePt e = -1 ∧ false = false) by omega)]
          exact ⟨⟨fun _ => ⟨fun q => absurd k1 q, fun _ _ => ⟨g1, fun q => absurd gp q⟩⟩, fun q => (by cases q)⟩, fr_refl .., h0⟩
        · rw [if_neg (show ¬ ¬ ¬ 0 ≤ ePt e from fun q => q gp), if_pos (show ePt e = -1 ∧ false = false from ⟨by omega, rfl⟩)]
          have hN : eN e = eL e := by unfold eN; rw [if_pos (by omega)]; exact Nat.add_zero _
          refine ⟨⟨fun _ => ⟨fun q => absurd k1 q, fun _ _ => ⟨g1, fun _ => hin⟩⟩, fun q => (by cases q)⟩, fr_sI (fr_sI (fr_refl ..) ⟨rfl, by omega⟩) ⟨rfl, by omega⟩, rE_mk ⟨?_, ?_, fun i hi => ?_, ?_, fun q => ?_⟩⟩
          · rw [gI_sI, if_neg (by omega), gI_sI, if_neg (by omega)]; exact h1
          · rw [gI_sI, if_pos ⟨rfl, rfl⟩]
            refine congrArg i3 ?_
            show ((eN e + 1 : Nat) : Int) = ((eL e + (if (eL e : Int) < 0 then 0 else 1) : Nat) : Int)
            rw [if_neg (by omega)]; omega
          · have hi' : i < eL e + (if (eL e : Int) < 0 then 0 else 1) := hi
            rw [if_neg (by omega)] at hi'
            rw [gI_sI, if_neg (by omega), gI_sI]
            show _ = i3 (if (eL e : Int) < 0 ∨ (i : Int) < (eL e : Int) then 48 + eDg e i else if (i : Int) = (eL e : Int) then 46 else 48 + eDg e (i - 1))
            by_cases q : i = eN e
            · rw [if_pos ⟨rfl, by omega⟩, if_neg (by omega), if_pos (by omega), k1]
            · rw [if_neg (by omega), h3 i (by omega), if_pos (by omega)]
              unfold eCh
              rw [if_pos (by omega)]
          · rw [gI_sI, if_neg (by omega), gI_sI, if_neg (by omega), h4, gh]; rfl
          · exact absurd q (show ¬ false = true by decide)
      · rw [if_pos (show ¬ true = false by decide), if_neg (show ¬ (ePt e = -1 ∧ true = false) from fun q => by cases q.2)]
        exact ⟨⟨fun _ => ⟨fun q => absurd k1 q, fun _ q => (by cases q)⟩, fun q => (by cases q)⟩, fr_refl .., h0⟩
    · rw [if_pos (show ¬ k = 46 from k1), if_neg k1]
      by_cases k2 : k = 69
      · rw [if_neg (show ¬ ¬ k = 69 from fun q => q k2), if_pos k2]
        unfold ePart
        cases gh : eHp e
        · rw [if_neg (show ¬ ¬ false = false from fun q => q rfl)]
          dsimp only [cond_false]
          obtain ⟨pm0, pl0⟩ := w4 gh
          by_cases gl : eL e = 0
          · rw [if_neg (show ¬ ¬ eL e = 0 from fun q => q gl), if_pos gl]
            refine ⟨⟨fun _ => ⟨fun _ => ⟨fun q => absurd k2 q, fun _ _ => f1⟩, fun q => absurd q k1⟩, fun q => (by cases q)⟩, fr_sI (fr_sI (fr_sI (fr_sI (fr_sI (fr_refl ..) ⟨rfl, by omega⟩) ⟨rfl, by omega⟩) ⟨rfl, by omega⟩) ⟨rfl, by omega⟩) ⟨rfl, by omega⟩, rE_mk ⟨?_, ?_, fun i hi => ?_, ?_, fun _ => ⟨?_, ?_, fun i hi => ?_⟩⟩⟩
            · simp only [gI_sI]; rw [if_neg (by omega), if_neg (by omega), if_neg (by omega), if_neg (by omega), if_neg (by omega)]; exact h1
            · rw [gI_sI, if_neg (by omega), gI_sI, if_neg (by omega), gI_sI, if_neg (by omega), gI_sI, if_pos ⟨rfl, rfl⟩]; rfl
            · have hi' : i < 1 + (if (-1 : Int) < 0 then 0 else 1) := hi
              rw [if_pos (by decide)] at hi'
              have : i = 0 := by omega
              subst this
              rw [gI_sI, if_neg (by omega), gI_sI, if_neg (by omega), gI_sI, if_neg (by omega), gI_sI, if_neg (by omega), gI_sI, if_pos ⟨rfl, rfl⟩]; rfl
            · rw [gI_sI, if_neg (by omega), gI_sI, if_neg (by omega), gI_sI, if_pos ⟨rfl, rfl⟩]; rfl
            · rw [gI_sI, if_neg (by omega), gI_sI, if_pos ⟨rfl, rfl⟩]
              show _ = i3 (pm1 (ePm e))
              rw [pm0]; rfl
            · rw [gI_sI, if_pos ⟨rfl, rfl⟩]
              show _ = i3 (ePl e)
              rw [pl0]; rfl
            · have hi' : i < ePl e := hi
              omega
          · rw [if_pos (show ¬ eL e = 0 from gl), if_neg gl]
            refine ⟨⟨fun _ => ⟨fun _ => ⟨fun q => absurd k2 q, fun _ _ => f1⟩, fun q => absurd q k1⟩, fun q => (by cases q)⟩, fr_sI (fr_sI (fr_sI (fr_refl ..) ⟨rfl, by omega⟩) ⟨rfl, by omega⟩) ⟨rfl, by omega⟩, rE_mk ⟨?_, ?_, fun i hi => ?_, ?_, fun _ => ⟨?_, ?_, fun i hi => ?_⟩⟩⟩
            · rw [gI_sI, if_neg (by omega), gI_sI, if_neg (by omega), gI_sI, if_neg (by omega)]; exact h1
            · rw [gI_sI, if_neg (by omega), gI_sI, if_neg (by omega), gI_sI, if_neg (by omega)]; exact h2
            · have hi' : i < eN e := hi
              rw [gI_sI, if_neg (by omega), gI_sI, if_neg (by omega), gI_sI, if_neg (by omega)]; exact h3 i hi
            · rw [gI_sI, if_neg (by omega), gI_sI, if_neg (by omega), gI_sI, if_pos ⟨rfl, rfl⟩]; rfl
            · rw [gI_sI, if_neg (by omega), gI_sI, if_pos ⟨rfl, rfl⟩]
              show _ = i3 (pm1 (ePm e))
              rw [pm0]; rfl
            · rw [gI_sI, if_pos ⟨rfl, rfl⟩]
              show _ = i3 (ePl e)
              rw [pl0]; rfl
            · have hi' : i < ePl e := hi
              omega
        · rw [if_pos (show ¬ true = false by decide)]
          exact ⟨⟨fun _ => ⟨fun _ => ⟨fun q => absurd k2 q, fun _ q => (by cases q)⟩, fun q => absurd q k1⟩, fun q => (by cases q)⟩, fr_refl .., h0⟩
      · rw [if_pos (show ¬ k = 69 from k2), if_neg k2]
        have k3 : k = 78 := by
          rcases h66 with w | w
          · unfold isBg at w; rw [gd] at w; simp [k1, k2] at w
          · exact w
        rw [if_pos k3]
        unfold eSign
        cases gh : eHp e
        · have e58 : ((if false = true then (74 : Int32) else 58)).toNatClampNeg = 58 := rfl
          have v58 : vp_in (if false = true then (74 : Int32) else 58) 640 := by show vp_in (i3 (58 : Nat)) 640; rw [i3_inN (by omega)]; omega
          rw [e58]
          refine ⟨⟨fun _ => ⟨fun _ => ⟨fun _ => ⟨v58, v58⟩, fun q => absurd q k2⟩, fun q => absurd q k1⟩, fun q => (by cases q)⟩, fr_sI (fr_refl ..) ⟨rfl, by omega⟩, rE_mk ⟨?_, ?_, fun i hi => ?_, ?_, fun q => ?_⟩⟩
          · rw [gI_sI, if_pos ⟨rfl, rfl⟩, h1]; exact pm1_not _
          · rw [gI_sI, if_neg (by omega)]; exact h2
          · rw [gI_sI, if_neg (by omega)]; exact h3 i hi
          · rw [gI_sI, if_neg (by omega), h4, gh]; rfl
          · exact absurd q (show ¬ false = true by decide)
        · have e74 : ((if true = true then (74 : Int32) else 58)).toNatClampNeg = 74 := rfl
          have v74 : vp_in (if true = true then (74 : Int32) else 58) 640 := by show vp_in (i3 (74 : Nat)) 640; rw [i3_inN (by omega)]; omega
          rw [e74]
          obtain ⟨q1, q2, q3⟩ := h5 gh
          refine ⟨⟨fun _ => ⟨fun _ => ⟨fun _ => ⟨v74, v74⟩, fun q => absurd q k2⟩, fun q => absurd q k1⟩, fun q => (by cases q)⟩, fr_sI (fr_refl ..) ⟨rfl, by omega⟩, rE_mk ⟨?_, ?_, fun i hi => ?_, ?_, fun _ => ⟨?_, ?_, fun i hi => ?_⟩⟩⟩
          · rw [gI_sI, if_neg (by omega)]; exact h1
          · rw [gI_sI, if_neg (by omega)]; exact h2
          · have hi' : i < eN e := hi
            rw [gI_sI, if_neg (by omega)]; exact h3 i hi
          · rw [gI_sI, if_neg (by omega), h4, gh]; rfl
          · rw [gI_sI, if_pos ⟨rfl, rfl⟩, q1]; exact pm1_not _
          · rw [gI_sI, if_neg (by omega)]; exact q2
          · rw [gI_sI, if_neg (by omega)]; exact q3 i hi
  · rw [if_neg (show ¬ true = false by decide)]
    dsimp only [cond_true]
    have hk9 : 48 ≤ k ∧ k ≤ 57 := by
      unfold isDg at gd
      simp only [Bool.and_eq_true, decide_eq_true_eq] at gd
      exact gd
    have ek : k = 48 + (((k - 48).toNat : Nat) : Int) := by omega
    unfold eDigit
    cases gh : eHp e
    · rw [if_pos (show ¬ false = true by decide)]
      dsimp only [cond_false]
      rw [if_neg (show ¬ ¬ false = false from fun q => q rfl)]
      by_cases gl : 12 ≤ eL e
      · rw [if_pos gl, if_neg (show ¬ eL e < 12 by omega)]
        exact ⟨⟨fun q => (by cases q), fun _ => ⟨fun _ _ => ⟨f1, fun q => absurd gl q⟩, fun q => (by cases q)⟩⟩, fr_refl .., h0⟩
      · rw [if_neg gl, if_pos (show eL e < 12 by omega)]
        have hN12 : eN e ≤ 12 := by unfold eN; split <;> omega
        refine ⟨⟨fun q => (by cases q), fun _ => ⟨fun _ _ => ⟨f1, fun _ => hin⟩, fun q => (by cases q)⟩⟩, fr_sI (fr_sI (fr_refl ..) ⟨rfl, by omega⟩) ⟨rfl, by omega⟩, rE_mk ⟨?_, ?_, fun i hi => ?_, ?_, fun q => ?_⟩⟩
        · rw [gI_sI, if_neg (by omega), gI_sI, if_neg (by omega)]; exact h1
        · rw [gI_sI, if_pos ⟨rfl, rfl⟩]
          refine congrArg i3 ?_
          show ((eL e + (if ePt e < 0 then 0 else 1) + 1 : Nat) : Int) = ((eL e + 1 + (if ePt e < 0 then 0 else 1) : Nat) : Int)
          omega
        · have hi' : i < eL e + 1 + (if ePt e < 0 then 0 else 1) := hi
          have hN : eN e = eL e + (if ePt e < 0 then 0 else 1) := rfl
          rw [gI_sI, if_neg (by omega), gI_sI]
          show _ = i3 (if ePt e < 0 ∨ (i : Int) < ePt e then 48 + (updN (eDg e) (eL e) (k - 48).toNat i : Nat) else if (i : Int) = ePt e then 46 else 48 + (updN (eDg e) (eL e) (k - 48).toNat (i - 1) : Nat))
          unfold updN
          by_cases q : i = eN e
          · rw [if_pos ⟨rfl, by omega⟩]
            by_cases qp : ePt e < 0
            · rw [if_pos qp] at hN
              rw [if_pos (Or.inl qp), if_pos (by omega)]; exact congrArg i3 ek
            · rw [if_neg qp] at hN
              rw [if_neg (by omega), if_neg (by omega), if_pos (by omega)]; exact congrArg i3 ek
          · have hlt : i < eN e := by omega
            rw [if_neg (by omega), h3 i hlt]
            refine congrArg i3 ?_
            unfold eCh
            by_cases qp : ePt e < 0 ∨ (i : Int) < ePt e
            · have hne : ¬ i = eL e := by
                rcases qp with w | w
                · rw [if_pos w] at hN; omega
                · omega
              rw [if_pos qp, if_pos qp, if_neg hne]
            · rw [if_neg qp, if_neg qp]
              by_cases qe : (i : Int) = ePt e
              · rw [if_pos qe, if_pos qe]
              · have hne : ¬ i - 1 = eL e := by
                  rw [if_neg (show ¬ ePt e < 0 from fun w => qp (Or.inl w))] at hN
                  omega
                rw [if_neg qe, if_neg qe, if_neg hne]
        · rw [gI_sI, if_neg (by omega), gI_sI, if_neg (by omega), h4, gh]; rfl
        · exact absurd q (show ¬ false = true by decide)
    · rw [if_neg (show ¬ ¬ true = true from fun q => q rfl)]
      dsimp only [cond_true]
      obtain ⟨q1, q2, q3⟩ := h5 gh
      have c8 : ((2 : Int32) ≤ gI s 231 75) = (2 ≤ ePl e) := by rw [q2, i3_lit, i3_le (by omega)]; apply propext; omega
      have e76 : (76 : Int32) + gI s 231 75 = i3 (76 + ePl e : Nat) := by rw [q2, i3_lit, i3_add]; rfl
      simp only [c8]
      by_cases gl : 2 ≤ ePl e
      · rw [if_pos gl, if_pos (show ¬ true = false by decide), if_neg (show ¬ ePl e < 2 by omega)]
        exact ⟨⟨fun q => (by cases q), fun _ => ⟨fun q => absurd trivial q, fun _ => ⟨fun _ q => (by cases q), fun q => absurd gl q⟩⟩⟩, fr_refl .., h0⟩
      · rw [if_neg gl, if_pos (show ePl e < 2 by omega), e76, i3_natN (by omega)]
        have len2 : gI (sI s 231 (76 + ePl e) (i3 k)) 231 75 + 1 = i3 (ePl e + 1 : Nat) := by rw [gI_sI, if_neg (by omega), q2, i3_lit, i3_add]; rfl
        rw [len2]
        refine ⟨⟨fun q => (by cases q), fun _ => ⟨fun q => absurd trivial q, fun _ => ⟨fun q => absurd q gl, fun _ => by rw [i3_inN (by omega)]; omega⟩⟩⟩, fr_sI (fr_sI (fr_refl ..) ⟨rfl, by omega⟩) ⟨rfl, by omega⟩, rE_mk ⟨?_, ?_, fun i hi => ?_, ?_, fun _ => ⟨?_, ?_, fun i hi => ?_⟩⟩⟩
        · rw [gI_sI, if_neg (by omega), gI_sI, if_neg (by omega)]; exact h1
        · rw [gI_sI, if_neg (by omega), gI_sI, if_neg (by omega)]; exact h2
        · have hi' : i < eN e := hi
          rw [gI_sI, if_neg (by omega), gI_sI, if_neg (by omega)]; exact h3 i hi
        · rw [gI_sI, if_neg (by omega), gI_sI, if_neg (by omega), h4, gh]; rfl
        · rw [gI_sI, if_neg (by omega), gI_sI, if_neg (by omega)]; exact q1
        · rw [gI_sI, if_pos ⟨rfl, rfl⟩]; rfl
        · have hi' : i < ePl e + 1 := hi
          rw [gI_sI, if_neg (by omega), gI_sI]
          show _ = i3 (48 + (updN (ePd e) (ePl e) (k - 48).toNat i : Nat))
          unfold updN
          by_cases q : i = ePl e
          · rw [if_pos ⟨rfl, by omega⟩, if_pos q]; exact congrArg i3 ek
          · rw [if_neg (by omega), if_neg q]; exact q3 i (by omega)
