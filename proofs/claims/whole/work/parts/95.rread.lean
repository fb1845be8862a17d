/-! THE REFERENCE READS ITS ENTRY, AND ALL ITS KEYS -/
theorem rback {s : xS} {e : aE} {k : Int} (hk : k = 66) (hv : vE e) (h : rE s 0 e) : fr Pe s (tm_takesBack s).2 ∧ (tm_takesBack s).1 = !(eLives (eTake e k)) ∧ rE (tm_takesBack s).2 0 (eTake e k) := by
  have hw := hv.1
  have hn := eN_le hw
  obtain ⟨h1, h2, h3, h4, h5⟩ := rE_at h
  obtain ⟨w1, w2, w3, w4, w5, w6, w7⟩ := hw
  have ht : eTake e k = eBack e := by unfold eTake; subst hk; rfl
  rw [ht, tm_takesBack_eq]
  unfold tm_takesBack_d
  have c4 : (gI s 231 73 = 1) = (eHp e = true) := by rw [h4]; exact propext zb_eq1
  simp only [c4]
  unfold eBack
  cases gh : eHp e
  · rw [if_pos (show ¬ false = true by decide)]
    dsimp only [cond_false]
    have hN1 : 1 ≤ eN e := by
      unfold eN
      rcases hv.2 with w | w
      · omega
      · rw [if_neg (by omega)]; omega
    have e1 : gI s 231 59 - 1 = i3 (eN e - 1 : Nat) := by rw [h2, i3_lit, i3_sub]; exact congrArg i3 (by omega)
    have c5 : ((0 : Int32) < i3 (eN e - 1 : Nat)) = (0 < eN e - 1) := by rw [i3_lit, i3_lt (by omega)]; apply propext; omega
    rw [e1]
    simp only [c5]
    have f : fr Pe s (sI s 231 59 (i3 (eN e - 1 : Nat))) := fr_sI (fr_refl ..) ⟨rfl, by omega⟩
    by_cases g : ePt e = eL e
    · rw [if_pos g]
      have hN : eN e = eL e + 1 := by unfold eN; rw [if_neg (by omega)]
      refine ⟨f, ?_, rE_mk ⟨?_, ?_, fun i hi => ?_, ?_, fun q => ?_⟩⟩
      · show (!decide (0 < eN e - 1)) = !(false || (decide (0 < eL e) || decide ((0 : Int) ≤ -1)))
        rw [hN, Nat.add_sub_cancel]; simp
      · rw [gI_sI, if_neg (by omega)]; exact h1
      · rw [gI_sI, if_pos ⟨rfl, rfl⟩]
        refine congrArg i3 ?_
        show ((eN e - 1 : Nat) : Int) = ((eL e + (if (-1 : Int) < 0 then 0 else 1) : Nat) : Int)
        rw [if_pos (by decide), hN]; omega
      · have hi' : i < eL e + (if (-1 : Int) < 0 then 0 else 1) := hi
        rw [if_pos (by decide)] at hi'
        rw [gI_sI, if_neg (by omega), h3 i (by omega)]
        refine congrArg i3 ?_
        show _ = (if (-1 : Int) < 0 ∨ (i : Int) < -1 then 48 + (eDg e i : Int) else _)
        unfold eCh
        rw [if_pos (by omega), if_pos (by omega)]
      · rw [gI_sI, if_neg (by omega), h4, gh]; rfl
      · exact absurd q (show ¬ false = true by decide)
    · rw [if_neg g]
      have hL : 1 ≤ eL e := by rcases hv.2 with w | w <;> omega
      have hN : eN e - 1 = eL e - 1 + (if ePt e < 0 then 0 else 1) := by unfold eN; split <;> omega
      refine ⟨f, ?_, rE_mk ⟨?_, ?_, fun i hi => ?_, ?_, fun q => ?_⟩⟩
      · show (!decide (0 < eN e - 1)) = !(false || (decide (0 < eL e - 1) || decide (0 ≤ ePt e)))
        rw [hN, Bool.false_or, ← Bool.decide_or]
        congr 1
        apply decide_eq_decide.mpr
        split <;> omega
      · rw [gI_sI, if_neg (by omega)]; exact h1
      · rw [gI_sI, if_pos ⟨rfl, rfl⟩]
        refine congrArg i3 ?_
        show ((eN e - 1 : Nat) : Int) = ((eL e - 1 + (if ePt e < 0 then 0 else 1) : Nat) : Int)
        rw [hN]
      · have hi' : i < eL e - 1 + (if ePt e < 0 then 0 else 1) := hi
        rw [← hN] at hi'
        rw [gI_sI, if_neg (by omega), h3 i (by omega)]
        rfl
      · rw [gI_sI, if_neg (by omega), h4, gh]; rfl
      · exact absurd q (show ¬ false = true by decide)
  · rw [if_neg (show ¬ ¬ true = true from fun q => q rfl)]
    dsimp only [cond_true]
    obtain ⟨q1, q2, q3⟩ := h5 gh
    have hL := w7 gh
    have c6 : (gI s 231 75 ≤ 0) = (ePl e = 0) := by rw [q2, i3_lit, i3_le (by omega)]; apply propext; omega
    simp only [c6]
    by_cases g : ePl e = 0
    · rw [if_pos g, if_pos g, decide_eq_true g]
      refine ⟨fr_sI (fr_sI (fr_refl ..) ⟨rfl, by omega⟩) ⟨rfl, by omega⟩, ?_, rE_mk ⟨?_, ?_, fun i hi => ?_, ?_, fun q => ?_⟩⟩
      · show false = !(false || (decide (0 < eL e) || decide (0 ≤ ePt e)))
        rw [decide_eq_true (show 0 < eL e by omega)]; rfl
      · rw [gI_sI, if_neg (by omega), gI_sI, if_neg (by omega)]; exact h1
      · rw [gI_sI, if_neg (by omega), gI_sI, if_neg (by omega)]; exact h2
      · have hi' : i < eN e := hi
        rw [gI_sI, if_neg (by omega), gI_sI, if_neg (by omega)]; exact h3 i hi
      · rw [gI_sI, if_neg (by omega), gI_sI, if_pos ⟨rfl, rfl⟩]; rfl
      · exact absurd q (show ¬ false = true by decide)
    · rw [if_neg g, if_neg g, decide_eq_false g]
      have e1 : gI s 231 75 - 1 = i3 (ePl e - 1 : Nat) := by rw [q2, i3_lit, i3_sub]; exact congrArg i3 (by omega)
      rw [e1]
      refine ⟨fr_sI (fr_sI (fr_refl ..) ⟨rfl, by omega⟩) ⟨rfl, by omega⟩, rfl, rE_mk ⟨?_, ?_, fun i hi => ?_, ?_, fun _ => ⟨?_, ?_, fun i hi => ?_⟩⟩⟩
      · rw [gI_sI, if_neg (by omega), gI_sI, if_neg (by omega)]; exact h1
      · rw [gI_sI, if_neg (by omega), gI_sI, if_neg (by omega)]; exact h2
      · have hi' : i < eN e := hi
        rw [gI_sI, if_neg (by omega), gI_sI, if_neg (by omega)]; exact h3 i hi
      · rw [gI_sI, if_neg (by omega), gI_sI, if_pos ⟨rfl, rfl⟩]; rfl
      · rw [gI_sI, if_neg (by omega), gI_sI, if_neg (by omega)]; exact q1
      · rw [gI_sI, if_pos ⟨rfl, rfl⟩]; rfl
      · have hi' : i < ePl e - 1 := hi
        rw [gI_sI, if_neg (by omega), gI_sI, if_neg (by omega)]; exact q3 i (by omega)
/-- how many digits stand before a place of the characters -/
def eBefore (e : aE) (k : Nat) : Nat := if 0 ≤ ePt e ∧ ePt e < k then k - 1 else k
theorem rE_242 {s t : xS} {e : aE} (hw : wE e) (f : fr P242 s t) (h : rE s 0 e) : rE t 0 e := rE_fr f (fun j _ _ => by unfold P242; omega) ⟨eN_le hw, hw.2.2.2.2.1⟩ h
theorem rworth_109 {e : aE} {x1 : Int} {x2 : Int} (hv : vE e) (hx1 : -99 ≤ x1 ∧ x1 ≤ 99) (hx2 : x2 = if ePt e < 0 then (eL e : Int) else ePt e) : ∀ (n k : Nat) (s : xS), k ≤ eN e → eN e + 1 ≤ n + k → rE s 0 e → rowIs s (eDg e) (eBefore e k) → tm_worth_109_ok n s (i3 x1) (i3 x2) (i3 (eBefore e k)) (i3 k) ∧ ∃ q, FIN (dV (eDg e) 0 (eL e)) false (x2 + x1 - eL e) (eMi e) q ∧ rRes s (tm_worth_109 n s (i3 x1) (i3 x2) (i3 (eBefore e k)) (i3 k)) (rs q) := by
  have hw := hv.1
  have hn := eN_le hw
  have w1 := hw.1
  have w3 := hw.2.2.1
  intro n
  induction n with
  | zero => intro k s h1 h2; omega
  | succ n ih =>
    intro k s k1 k2 he hr
    obtain ⟨h1, h2, h3, h4, h5⟩ := rE_at he
    unfold tm_worth_109 tm_worth_109_ok
    have c1 : (gI s 231 59 ≤ i3 k) = (eN e ≤ k) := by rw [h2]; exact i3_leN (by omega) (by omega)
    have e1 : i3 k + 1 = i3 (k + 1 : Nat) := by rw [i3_lit, i3_add]; rfl
    have e2 : (60 : Int32) + i3 k = i3 (60 + k : Nat) := by rw [i3_lit, i3_add]; rfl
    simp only [c1, e1, e2, i3_natN (show 60 + k < 2147483648 by omega)]
    have hb : eBefore e k ≤ k := by unfold eBefore; split <;> omega
    by_cases g : eN e ≤ k
    · have hk : k = eN e := by omega
      subst hk
      rw [if_pos g]
      have hbe : eBefore e (eN e) = eL e := by
        unfold eBefore eN
        by_cases q : ePt e < 0
        · rw [if_pos q, if_neg (by omega)]; omega
        · rw [if_neg q, if_pos (by omega)]; omega
      rw [hbe] at hr ⊢
      have e3 : i3 x2 - 1 + i3 x1 = i3 (x2 - 1 + x1) := by rw [i3_lit, i3_sub, i3_add]
      rw [h1, e3]
      have hz : pm1 (eMi e) = 1 ∨ pm1 (eMi e) = -1 := by cases eMi e; exact Or.inl rfl; exact Or.inr rfl
      obtain ⟨p1, q, p2, p3⟩ := rround' s (z := pm1 (eMi e)) (f := x2 - 1 + x1) (c := eL e) (m := false) hr (by omega) (by rw [hx2]; split <;> omega) (fun _ => hz)
      have hs : decide (pm1 (eMi e) < 0) = eMi e := by cases eMi e <;> rfl
      rw [hs, show x2 - 1 + x1 - (eL e : Int) + 1 = x2 + x1 - eL e by omega] at p2
      exact ⟨⟨fun _ => p1, fun q => absurd g q⟩, q, p2, p3⟩
    · rw [if_neg g]
      have hc := h3 k (by omega)
      have hrg := eCh_rng hw (show k < eN e by omega)
      have c3 : (gI s 231 (60 + k) = 46) = ((k : Int) = ePt e) := by rw [hc, i3_lit, i3_eq (by omega), eCh_46]
      simp only [c3]
      have hin : vp_in (i3 (60 + k : Nat)) 640 := by rw [i3_inN (by omega)]; omega
      by_cases gp : (k : Int) = ePt e
      · rw [if_pos gp]
        have hbb : eBefore e (k + 1) = eBefore e k := by
          unfold eBefore
          rw [if_pos (by omega), if_neg (by omega)]; omega
        rw [← hbb]
        rw [← hbb] at hr
        obtain ⟨p1, p2⟩ := ih (k + 1) s (by omega) (by omega) he hr
        exact ⟨⟨fun q => absurd q g, fun _ => ⟨hin, fun _ => p1, fun q => absurd gp q⟩⟩, p2⟩
      · rw [if_neg gp, hc, i3_natN (by omega)]
        have hbb : eBefore e (k + 1) = eBefore e k + 1 := by
          unfold eBefore
          by_cases q : 0 ≤ ePt e ∧ ePt e < (k : Int)
          · rw [if_pos q, if_pos (by omega)]; omega
          · rw [if_neg q, if_neg (by omega)]
        have hlt : eBefore e k < eL e := by
          have hk' : k < eN e := by omega
          unfold eN at hk'
          unfold eBefore
          by_cases q : 0 ≤ ePt e ∧ ePt e < (k : Int)
          · rw [if_neg (by omega)] at hk'
            rw [if_pos q]; omega
          · rw [if_neg q]
            by_cases q2 : ePt e < 0
            · rw [if_pos q2] at hk'; omega
            · omega
        have hch : eCh e k = 48 + (eDg e (eBefore e k) : Int) := by
          unfold eCh eBefore
          by_cases q : 0 ≤ ePt e ∧ ePt e < (k : Int)
          · rw [if_neg (by omega), if_neg gp, if_pos q]
          · rw [if_pos (by omega), if_neg q]
        have e4 : i3 (eCh e k) - 48 = i3 (eDg e (eBefore e k) : Nat) := by rw [hch, i3_lit, i3_sub]; exact congrArg i3 (by omega)
        have e5 : i3 (eBefore e k : Nat) + 1 = i3 (eBefore e (k + 1) : Nat) := by rw [hbb, i3_lit, i3_add]; rfl
        rw [e4, e5]
        have hd9 := hw.2.1 _ hlt
        have f : fr P242 s (sI s 242 (eBefore e k) (i3 (eDg e (eBefore e k) : Nat))) := fr_sI (fr_refl ..) rfl
        have hr' : rowIs (sI s 242 (eBefore e k) (i3 (eDg e (eBefore e k) : Nat))) (eDg e) (eBefore e (k + 1)) := by
          rw [hbb]
          intro j hj
          rw [gI_sI]
          by_cases q : j = eBefore e k
          · rw [if_pos ⟨rfl, q⟩, q]; exact ⟨rfl, hd9⟩
          · rw [if_neg (fun w => q w.2)]; exact hr j (by omega)
        obtain ⟨p1, q, p2, p3⟩ := ih (k + 1) (sI s 242 (eBefore e k) (i3 (eDg e (eBefore e k) : Nat))) (by omega) (by omega) (rE_242 hw f he) hr'
        exact ⟨⟨fun q => absurd q g, fun _ => ⟨hin, fun q => absurd q gp, fun _ => ⟨hin, by rw [i3_inN (by omega)]; omega, p1⟩⟩⟩, q, p2, fr_trans (P242_row f) p3.1, p3.2⟩
theorem rworth_69 {e : aE} {x1 : Int} (hv : vE e) (hx1 : -99 ≤ x1 ∧ x1 ≤ 99) {s : xS} (he : rE s 0 e) : ∀ (n k : Nat), k ≤ eN e → eN e + 1 ≤ n + k → (0 ≤ ePt e → (k : Int) ≤ ePt e) → tm_worth_69_ok n s (i3 x1) (i3 k) ∧ ∃ q, FIN (dV (eDg e) 0 (eL e)) false ((if ePt e < 0 then (eL e : Int) else ePt e) + x1 - eL e) (eMi e) q ∧ rRes s (tm_worth_69 n s (i3 x1) (i3 k)) (rs q) := by
  have hw := hv.1
  have hn := eN_le hw
  have w3 := hw.2.2.1
  obtain ⟨h1, h2, h3, h4, h5⟩ := rE_at he
  obtain ⟨k1, k2, k3⟩ := rclear s
  have main : ∀ k : Nat, (k : Int) = (if ePt e < 0 then (eL e : Int) else ePt e) → tm_worth_100_ok s (i3 x1) (i3 k) ∧ ∃ q, FIN (dV (eDg e) 0 (eL e)) false ((if ePt e < 0 then (eL e : Int) else ePt e) + x1 - eL e) (eMi e) q ∧ rRes s (tm_worth_100 s (i3 x1) (i3 k)) (rs q) := by
    intro k hk
    rw [tm_worth_100_eq]
    unfold tm_worth_100_ok tm_worth_100_d
    obtain ⟨p1, q, p2, p3⟩ := rworth_109 (x1 := x1) (x2 := k) hv hx1 hk xfu 0 (tm_clearRow s) (by omega) (by rw [xfu_eq]; omega) (rE_242 hw k2 he) (by
      intro j hj
      have : eBefore e 0 = 0 := by unfold eBefore; split <;> rfl
      rw [this] at hj; omega)
    have hb0 : eBefore e 0 = 0 := by unfold eBefore; split <;> rfl
    rw [hb0] at p1 p3
    rw [hk] at p2
    exact ⟨⟨k1, p1⟩, q, p2, fr_trans (P242_row k2) p3.1, p3.2⟩
  intro n
  induction n with
  | zero => intro k h1 h2; omega
  | succ n ih =>
    intro k j1 j2 j3
    unfold tm_worth_69 tm_worth_69_ok
    have c1 : (gI s 231 59 ≤ i3 k) = (eN e ≤ k) := by rw [h2]; exact i3_leN (by omega) (by omega)
    have e1 : i3 k + 1 = i3 (k + 1 : Nat) := by rw [i3_lit, i3_add]; rfl
    have e2 : (60 : Int32) + i3 k = i3 (60 + k : Nat) := by rw [i3_lit, i3_add]; rfl
    simp only [c1, e1, e2, i3_natN (show 60 + k < 2147483648 by omega)]
    by_cases g : eN e ≤ k
    · rw [if_pos g]
      have hk : (k : Int) = (if ePt e < 0 then (eL e : Int) else ePt e) := by
        unfold eN at g j1
        by_cases q : ePt e < 0
        · rw [if_pos q] at g j1; rw [if_pos q]; omega
        · rw [if_neg q] at g j1
          have := j3 (by omega)
          omega
      obtain ⟨p1, p2⟩ := main k hk
      exact ⟨⟨fun _ => p1, fun q => absurd g q⟩, p2⟩
    · rw [if_neg g]
      have hc := h3 k (by omega)
      have hrg := eCh_rng hw (show k < eN e by omega)
      have c3 : (gI s 231 (60 + k) = 46) = ((k : Int) = ePt e) := by rw [hc, i3_lit, i3_eq (by omega), eCh_46]
      simp only [c3]
      have hin : vp_in (i3 (60 + k : Nat)) 640 := by rw [i3_inN (by omega)]; omega
      by_cases gp : (k : Int) = ePt e
      · rw [if_pos gp]
        obtain ⟨p1, p2⟩ := main k (by rw [if_neg (by omega)]; exact gp)
        exact ⟨⟨fun q => absurd q g, fun _ => ⟨hin, fun _ => p1, fun q => absurd gp q⟩⟩, p2⟩
      · rw [if_neg gp]
        obtain ⟨p1, p2⟩ := ih (k + 1) (by omega) (by omega) (fun q => by have := j3 q; omega)
        exact ⟨⟨fun q => absurd q g, fun _ => ⟨hin, fun q => absurd q gp, fun _ => p1⟩⟩, p2⟩
theorem rworth {s : xS} {e : aE} (hv : vE e) (he : rE s 0 e) : tm_worth_ok s ∧ rRes s (tm_worth s) (aRead e) := by
  have hw := hv.1
  have w3 := hw.2.2.1
  obtain ⟨h1, h2, h3, h4, h5⟩ := rE_at he
  have hbP := dV_bd (m := 2) hw.2.2.2.2.2.1 hw.2.2.2.2.1
  have hpl := hw.2.2.2.2.1
  rw [tm_worth_eq]
  unfold tm_worth_ok tm_worth_d
  -- the part is worth x1, its sign is then put
  have end50 : ∀ x1 : Int, x1 = ((dV (ePd e) 0 (ePl e) : Nat) : Int) → tm_worth_50_ok s (i3 x1) ∧ rRes s (tm_worth_50 s (i3 x1)) (aRead e) := by
    intro x1 hx
    rw [tm_worth_50_eq]
    unfold tm_worth_50_ok tm_worth_50_d
    rw [tm_worth_66_eq]
    unfold tm_worth_66_ok tm_worth_66_d
    have e1 : (if (0 : Int32) ≤ gI s 231 74 then i3 x1 else -(i3 x1)) = i3 (bif ePm e then -x1 else x1) := by
      cases gh : eHp e
      · obtain ⟨pm0, pl0⟩ := hw.2.2.2.1 gh
        have hx0 : x1 = 0 := by rw [hx, pl0]; rfl
        rw [hx0, pm0]
        split <;> rfl
      · rw [(h5 gh).1]
        cases ePm e
        · rw [if_pos (by decide)]; rfl
        · rw [if_neg (by decide), i3_neg]; rfl
    rw [e1]
    obtain ⟨p1, q, p2, p3⟩ := rworth_69 (x1 := bif ePm e then -x1 else x1) hv (by rw [hx]; cases ePm e <;> dsimp only [cond_true, cond_false] <;> omega) he xfu 0 (by omega) (by have := eN_le hw; rw [xfu_eq]; omega) (fun q => by omega)
    refine ⟨p1, ?_⟩
    have hu : (if ePt e < 0 then (eL e : Int) else ePt e) + (bif ePm e then -x1 else x1) - eL e = eUnit e := by
      unfold eUnit
      rw [hx]
      generalize (bif ePm e then -((dV (ePd e) 0 (ePl e) : Nat) : Int) else ((dV (ePd e) 0 (ePl e) : Nat) : Int)) = v
      by_cases g : ePt e < 0
      · rw [if_pos g, if_pos (by omega)]; omega
      · rw [if_neg g, if_neg (by omega)]; omega
    rw [hu] at p2
    have : aRead e = rs q := by unfold aRead; rw [← aFin_eq p2]
    rw [this]
    exact p3
  cases gh : eHp e
  · obtain ⟨pm0, pl0⟩ := hw.2.2.2.1 gh
    obtain ⟨n', hn'⟩ : ∃ n', xfu = n' + 1 := ⟨999, xfu_eq⟩
    rw [hn']
    unfold tm_worth_4 tm_worth_4_ok
    have hne : ¬ gI s 231 73 = 1 := by rw [h4, gh]; decide
    obtain ⟨p1, p2⟩ := end50 0 (by rw [pl0]; rfl)
    have p1' : tm_worth_50_ok s 0 := p1
    rw [if_pos (show ¬ gI s 231 73 = 1 from hne)]
    have p2' : rRes s (tm_worth_50 s 0) (aRead e) := p2
    refine ⟨⟨fun _ => p1', fun _ => ⟨fun _ => p1', fun q => absurd q hne⟩⟩, ?_⟩
    split <;> exact p2'
  · obtain ⟨q1, q2, q3⟩ := h5 gh
    have loop : ∀ (n i : Nat), i ≤ ePl e → ePl e + 1 ≤ n + i → tm_worth_4_ok n s (i3 (dV (ePd e) 0 i : Nat)) (i3 i) ∧ rRes s (tm_worth_4 n s (i3 (dV (ePd e) 0 i : Nat)) (i3 i)) (aRead e) := by
      intro n
      induction n with
      | zero => intro i j1 j2; omega
      | succ n ih =>
        intro i j1 j2
        unfold tm_worth_4 tm_worth_4_ok
        have c1 : (gI s 231 75 ≤ i3 i) = (ePl e ≤ i) := by rw [q2]; exact i3_leN (by omega) (by omega)
        have e1 : i3 i + 1 = i3 (i + 1 : Nat) := by rw [i3_lit, i3_add]; rfl
        have e2 : (76 : Int32) + i3 i = i3 (76 + i : Nat) := by rw [i3_lit, i3_add]; rfl
        have h73 : gI s 231 73 = 1 := by rw [h4, gh]; rfl
        simp only [c1, e1, e2, i3_natN (show 76 + i < 2147483648 by omega)]
        by_cases g : ePl e ≤ i
        · have hi : i = ePl e := by omega
          subst hi
          rw [if_pos g]
          obtain ⟨p1, p2⟩ := end50 _ rfl
          exact ⟨⟨fun _ => p1, fun q => absurd g q⟩, p2⟩
        · rw [if_neg g, if_neg (show ¬ ¬ gI s 231 73 = 1 from fun q => q h73), q3 i (by omega)]
          have e3 : (10 : Int32) * i3 (dV (ePd e) 0 i : Nat) + i3 (48 + (ePd e i : Int)) - 48 = i3 (dV (ePd e) 0 (i + 1) : Nat) := by
            rw [i3_lit, i3_mul, i3_add, i3_lit, i3_sub]
            refine congrArg i3 ?_
            show _ = ((10 * dV (ePd e) 0 i + ePd e (0 + i) : Nat) : Int)
            rw [Nat.zero_add]
            omega
          rw [e3]
          obtain ⟨p1, p2⟩ := ih (i + 1) (by omega) (by omega)
          exact ⟨⟨fun q => absurd q g, fun _ => ⟨fun q => absurd h73 q, fun _ => ⟨by rw [i3_inN (by omega)]; omega, p1⟩⟩⟩, p2⟩
    exact loop xfu 0 (by omega) (by rw [xfu_eq]; omega)
