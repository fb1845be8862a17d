/-! THE CLASS'S ENTRY -/
theorem isDg_te (k : Int) (hk : 0 ≤ k ∧ k ≤ 255) : te_isDigit (i3 k) = isDg k := by
  unfold te_isDigit isDg
  have c1 : (i3 k < 48) = (k < 48) := by rw [i3_lit, i3_lt (by omega)]
  have c2 : ((57 : Int32) < i3 k) = (57 < k) := by rw [i3_lit, i3_lt (by omega)]
  simp only [c1, c2]
  by_cases g : k < 48 <;> by_cases g2 : 57 < k <;> simp [g, g2] <;> omega
theorem wE_new : wE eNew := ⟨by decide, fun k hk => absurd hk (Nat.not_lt_zero k), by decide, fun _ => ⟨rfl, rfl⟩, by decide, fun k hk => absurd hk (Nat.not_lt_zero k), fun q => by cases q⟩
theorem wE_take {e : aE} {k : Int} (hk : 0 ≤ k ∧ k ≤ 255) (h : wE e) : wE (eTake e k) := by
  obtain ⟨h1, h2, h3, h4, h5, h6, h7⟩ := h
  unfold eTake
  cases gd : isDg k
  · dsimp only [cond_false]
    split
    · unfold ePoint
      split
      · refine ⟨h1, h2, ?_, h4, h5, h6, h7⟩
        show (-1 : Int) ≤ (eL e : Int) ∧ (eL e : Int) ≤ (eL e : Int)
        omega
      · exact ⟨h1, h2, h3, h4, h5, h6, h7⟩
    · split
      · unfold ePart
        cases gh : eHp e
        · dsimp only [cond_false]
          split
          · refine ⟨by show 1 ≤ 12; omega, fun k hk => by show 1 ≤ 9; omega, by show (-1 : Int) ≤ -1 ∧ (-1 : Int) ≤ ((1 : Nat) : Int); omega, fun q => absurd q (by show ¬ true = false; decide), h5, h6, fun _ => by show 1 ≤ 1; omega⟩
          · exact ⟨h1, h2, h3, fun q => absurd q (by show ¬ true = false; decide), h5, h6, fun _ => by show 1 ≤ eL e; omega⟩
        · exact ⟨h1, h2, h3, h4, h5, h6, h7⟩
      · split
        · unfold eSign
          cases gh : eHp e
          · exact ⟨h1, h2, h3, fun _ => h4 gh, h5, h6, fun q => absurd q (by show ¬ false = true; decide)⟩
          · exact ⟨h1, h2, h3, fun q => absurd q (by show ¬ true = false; decide), h5, h6, fun _ => h7 gh⟩
        · unfold eBack
          cases gh : eHp e
          · dsimp only [cond_false]
            split
            · exact ⟨h1, h2, by show (-1 : Int) ≤ -1 ∧ (-1 : Int) ≤ (eL e : Int); omega, fun _ => h4 gh, h5, h6, fun q => absurd q (by show ¬ false = true; decide)⟩
            · refine ⟨by show eL e - 1 ≤ 12; omega, fun k hk => h2 k (by have : k < eL e - 1 := hk; omega), ?_, fun _ => h4 gh, h5, h6, fun q => absurd q (by show ¬ false = true; decide)⟩
              show -1 ≤ ePt e ∧ ePt e ≤ ((eL e - 1 : Nat) : Int)
              omega
          · dsimp only [cond_true]
            split
            · exact ⟨h1, h2, h3, fun _ => ⟨rfl, rfl⟩, by show 0 ≤ 2; omega, fun k hk => absurd hk (Nat.not_lt_zero k), fun q => absurd q (by show ¬ false = true; decide)⟩
            · exact ⟨h1, h2, h3, fun q => absurd q (by show ¬ true = false; decide), by show ePl e - 1 ≤ 2; omega, fun k hk => h6 k (by have : k < ePl e - 1 := hk; omega), fun _ => h7 gh⟩
  · have hk9 : (k - 48).toNat ≤ 9 := by
      unfold isDg at gd
      simp only [Bool.and_eq_true, decide_eq_true_eq] at gd
      omega
    dsimp only [cond_true]
    unfold eDigit
    cases gh : eHp e
    · dsimp only [cond_false]
      split
      · refine ⟨by show eL e + 1 ≤ 12; omega, fun j hj => ?_, by show -1 ≤ ePt e ∧ ePt e ≤ ((eL e + 1 : Nat) : Int); omega, fun _ => h4 gh, h5, h6, fun q => absurd q (by show ¬ false = true; decide)⟩
        have hj' : j < eL e + 1 := hj
        show updN (eDg e) (eL e) (k - 48).toNat j ≤ 9
        unfold updN
        split
        · exact hk9
        · exact h2 j (by omega)
      · exact ⟨h1, h2, h3, h4, h5, h6, h7⟩
    · dsimp only [cond_true]
      split
      · refine ⟨h1, h2, h3, fun q => absurd q (by show ¬ true = false; decide), by show ePl e + 1 ≤ 2; omega, fun j hj => ?_, fun _ => h7 gh⟩
        have hj' : j < ePl e + 1 := hj
        show updN (ePd e) (ePl e) (k - 48).toNat j ≤ 9
        unfold updN
        split
        · exact hk9
        · exact h6 j (by omega)
      · exact ⟨h1, h2, h3, h4, h5, h6, h7⟩
theorem vE_lives {e : aE} (h : wE e) : eLives e = true ↔ vE e := by
  unfold eLives
  simp only [Bool.or_eq_true, decide_eq_true_eq]
  constructor
  · intro q
    refine ⟨h, ?_⟩
    rcases q with q | q | q
    · left; exact h.2.2.2.2.2.2 q
    · left; omega
    · right; exact q
  · intro q
    rcases q.2 with w | w
    · right; left; omega
    · right; right; exact w
/-- what keeps living -/
theorem lives_take {e : aE} {k : Int} (h : wE e) (hl : isBg k = true ∨ (eLives e = true ∧ k ≠ 66)) (h66 : isBg k = false → k = 78 ∨ k = 66) : eLives (eTake e k) = true := by
  have h2 := h.2.2
  unfold eTake
  cases gd : isDg k
  · dsimp only [cond_false]
    split
    · unfold ePoint
      split
      · unfold eLives
        simp only [Bool.or_eq_true, decide_eq_true_eq]
        right; right
        show (0 : Int) ≤ (eL e : Int)
        omega
      · rename_i g
        unfold eLives
        simp only [Bool.or_eq_true, decide_eq_true_eq]
        cases gh : eHp e
        · right; right
          by_cases q : ePt e = -1
          · exact absurd ⟨q, gh⟩ g
          · omega
        · left; rfl
    · split
      · unfold ePart
        cases gh : eHp e
        · dsimp only [cond_false]
          split <;> rfl
        · dsimp only [cond_true]; unfold eLives; rw [gh]; rfl
      · rename_i n1 n2
        have hb : isBg k = false := by unfold isBg; rw [gd]; simp [n1, n2]
        have hl' : eLives e = true ∧ k ≠ 66 := by
          rcases hl with q | q
          · rw [hb] at q; cases q
          · exact q
        rw [if_pos (by rcases h66 hb with q | q; exact q; exact absurd q hl'.2)]
        have hle := hl'.1
        unfold eSign
        unfold eLives at hle ⊢
        cases gh : eHp e
        · rw [gh] at hle; exact hle
        · rfl
  · dsimp only [cond_true]
    unfold eDigit
    cases gh : eHp e
    · dsimp only [cond_false]
      split
      · unfold eLives
        simp only [Bool.or_eq_true, decide_eq_true_eq]
        right; left
        show 0 < eL e + 1
        omega
      · unfold eLives
        simp only [Bool.or_eq_true, decide_eq_true_eq]
        right; left
        omega
    · dsimp only [cond_true]
      split
      · rfl
      · unfold eLives; rw [gh]; rfl
theorem dV_pop {r : Nat → Nat} {n : Nat} (h : ∀ k, k < n → r k ≤ 9) (hn : 0 < n) : dV r 0 n / 10 = dV r 0 (n - 1) := by
  obtain ⟨m, rfl⟩ : ∃ m, n = m + 1 := ⟨n - 1, by omega⟩
  show (10 * dV r 0 m + r (0 + m)) / 10 = dV r 0 m
  have := h m (by omega)
  rw [Nat.zero_add]
  omega
theorem dV_bd {r : Nat → Nat} {n m : Nat} (h : ∀ k, k < n → r k ≤ 9) (hn : n ≤ m) : dV r 0 n < 10 ^ m := Nat.lt_of_lt_of_le (dV_lt (fun k hk => by rw [Nat.zero_add]; exact h k hk)) (tenP hn)
theorem ctake (s : xS) {a : Nat} {e : aE} {k : Int} (hk : 0 ≤ k ∧ k ≤ 255) (hw : wE e) (he : cE s a e) (ho : gI s a 0 = zb true) (hl : isBg k = true ∨ eLives e = true) (h66 : isBg k = false → k = 78 ∨ k = 66) : fr (fun b _ => b = a) s (en_take s a (i3 k)) ∧ cE (en_take s a (i3 k)) a (eTake e k) ∧ gI (en_take s a (i3 k)) a 0 = zb (eLives (eTake e k)) := by
  have hlv : isBg k = true ∨ k = 78 → eLives (eTake e k) = true := by
    intro q
    refine lives_take hw ?_ h66
    rcases q with q | q
    · exact Or.inl q
    · rcases hl with w | w
      · exact Or.inl w
      · exact Or.inr ⟨w, by omega⟩
  obtain ⟨w1, w2, w3, w4, w5, w6, w7⟩ := hw
  have he' := he
  obtain ⟨h1, h2, h3, h4, h5, h6, h7, h8⟩ := he
  rw [en_take_eq]
  unfold en_take_d
  rw [isDg_te k hk]
  have c1 : (i3 k = 46) = (k = 46) := by rw [i3_lit, i3_eq (by omega)]
  have c2 : (i3 k = 69) = (k = 69) := by rw [i3_lit, i3_eq (by omega)]
  have c3 : (i3 k = 78) = (k = 78) := by rw [i3_lit, i3_eq (by omega)]
  simp only [c1, c2, c3]
  have hbL := dV_bd (m := 12) w2 w1
  have hbP := dV_bd (m := 2) w6 w5
  cases gd : isDg k
  · rw [if_pos rfl]
    by_cases g1 : k = 46
    · have hlv' := hlv (Or.inl (by unfold isBg; rw [gd, g1]; rfl))
      rw [if_neg (fun q => q g1), en_addPoint_eq]
      rw [hlv']
      unfold en_addPoint_d eTake
      rw [gd]
      dsimp only [cond_false]
      rw [if_pos g1]
      unfold ePoint
      have q1 : (gI s a 4 = -1) = (ePt e = -1) := by rw [h4, i3_lit, i3_neg, i3_eq (by omega)]
      have q2 : (gI s a 5 = 0) = (eHp e = false) := by rw [h5]; exact propext zb_eq0
      simp only [q1, q2]
      by_cases g2 : ePt e = -1
      · rw [if_neg (fun q => q g2)]
        by_cases g3 : eHp e = false
        · rw [if_neg (fun q => q g3), if_pos ⟨g2, g3⟩]
          refine ⟨fr_sI (fr_refl ..) rfl, ⟨?_, ?_, ?_, ?_, ?_, ?_, ?_, ?_⟩, ?_⟩
          · rw [gI_sI, if_neg (by omega)]; exact h1
          · rw [gJ_sI]; exact h2
          · rw [gI_sI, if_neg (by omega)]; exact h3
          · rw [gI_sI, if_pos ⟨rfl, rfl⟩, h3]; rfl
          · rw [gI_sI, if_neg (by omega)]; exact h5
          · rw [gI_sI, if_neg (by omega)]; exact h6
          · rw [gI_sI, if_neg (by omega)]; exact h7
          · rw [gI_sI, if_neg (by omega)]; exact h8
          · rw [gI_sI, if_neg (by omega)]; exact ho
        · rw [if_pos g3, if_neg (fun q => g3 q.2)]
          exact ⟨fr_refl .., he', ho⟩
      · rw [if_pos g2, if_neg (fun q => g2 q.1)]
        exact ⟨fr_refl .., he', ho⟩
    · rw [if_pos g1]
      by_cases g2 : k = 69
      · have hlv' := hlv (Or.inl (by unfold isBg; rw [gd, g2]; rfl))
        rw [if_neg (fun q => q g2), en_addPart_eq, hlv']
        unfold en_addPart_d eTake
        rw [gd]
        dsimp only [cond_false]
        rw [if_neg g1, if_pos g2]
        unfold ePart
        have q2 : (gI s a 5 = 0) = (eHp e = false) := by rw [h5]; exact propext zb_eq0
        have q3 : (gI (sI s a 5 1) a 3 = 0) = (eL e = 0) := by rw [gI_sI, if_neg (by omega), h3, i3_lit, i3_eq (by omega)]; apply propext; omega
        simp only [q2, q3]
        cases gh : eHp e
        · rw [if_pos rfl]
          dsimp only [cond_false]
          by_cases g3 : eL e = 0
          · rw [if_neg (fun q => q g3), if_pos g3]
            refine ⟨fr_sI (fr_sI (fr_sJ (fr_sI (fr_refl ..) rfl) rfl) rfl) rfl, ⟨?_, ?_, ?_, ?_, ?_, ?_, ?_, ?_⟩, ?_⟩
            · rw [gI_sI, if_neg (by omega), gI_sI, if_neg (by omega), gI_sJ, gI_sI, if_neg (by omega)]; exact h1
            · rw [gJ_sI, gJ_sI, gJ_sJ, if_pos ⟨rfl, rfl⟩]; rfl
            · rw [gI_sI, if_neg (by omega), gI_sI, if_pos ⟨rfl, rfl⟩]; rfl
            · rw [gI_sI, if_pos ⟨rfl, rfl⟩]; rfl
            · rw [gI_sI, if_neg (by omega), gI_sI, if_neg (by omega), gI_sJ, gI_sI, if_pos ⟨rfl, rfl⟩]; rfl
            · rw [gI_sI, if_neg (by omega), gI_sI, if_neg (by omega), gI_sJ, gI_sI, if_neg (by omega)]; exact h6
            · rw [gI_sI, if_neg (by omega), gI_sI, if_neg (by omega), gI_sJ, gI_sI, if_neg (by omega)]; exact h7
            · rw [gI_sI, if_neg (by omega), gI_sI, if_neg (by omega), gI_sJ, gI_sI, if_neg (by omega)]; exact h8
            · rw [gI_sI, if_neg (by omega), gI_sI, if_neg (by omega), gI_sJ, gI_sI, if_neg (by omega)]; exact ho
          · rw [if_pos g3, if_neg g3]
            refine ⟨fr_sI (fr_refl ..) rfl, ⟨?_, ?_, ?_, ?_, ?_, ?_, ?_, ?_⟩, ?_⟩
            · rw [gI_sI, if_neg (by omega)]; exact h1
            · rw [gJ_sI]; exact h2
            · rw [gI_sI, if_neg (by omega)]; exact h3
            · rw [gI_sI, if_neg (by omega)]; exact h4
            · rw [gI_sI, if_pos ⟨rfl, rfl⟩]; rfl
            · rw [gI_sI, if_neg (by omega)]; exact h6
            · rw [gI_sI, if_neg (by omega)]; exact h7
            · rw [gI_sI, if_neg (by omega)]; exact h8
            · rw [gI_sI, if_neg (by omega)]; exact ho
        · rw [if_neg (fun q => by cases q)]
          exact ⟨fr_refl .., he', ho⟩
      · rw [if_pos g2]
        have q2 : (gI s a 5 = 0) = (eHp e = false) := by rw [h5]; exact propext zb_eq0
        by_cases g3 : k = 78
        · rw [if_neg (fun q => q g3), en_changeSign_eq, hlv (Or.inr g3)]
          unfold en_changeSign_d eTake
          rw [gd]
          dsimp only [cond_false]
          rw [if_neg g1, if_neg g2, if_pos g3]
          unfold eSign
          simp only [q2]
          cases gh : eHp e
          · rw [if_pos rfl]
            refine ⟨fr_sI (fr_refl ..) rfl, ⟨?_, ?_, ?_, ?_, ?_, ?_, ?_, ?_⟩, ?_⟩
            · rw [gI_sI, if_pos ⟨rfl, rfl⟩, h1]
              show _ = zb (!(eMi e))
              cases eMi e <;> rfl
            · rw [gJ_sI]; exact h2
            · rw [gI_sI, if_neg (by omega)]; exact h3
            · rw [gI_sI, if_neg (by omega)]; exact h4
            · rw [gI_sI, if_neg (by omega), h5, gh]; rfl
            · rw [gI_sI, if_neg (by omega)]; exact h6
            · rw [gI_sI, if_neg (by omega)]; exact h7
            · rw [gI_sI, if_neg (by omega)]; exact h8
            · rw [gI_sI, if_neg (by omega)]; exact ho
          · rw [if_neg (fun q => by cases q)]
            refine ⟨fr_sI (fr_refl ..) rfl, ⟨?_, ?_, ?_, ?_, ?_, ?_, ?_, ?_⟩, ?_⟩
            · rw [gI_sI, if_neg (by omega)]; exact h1
            · rw [gJ_sI]; exact h2
            · rw [gI_sI, if_neg (by omega)]; exact h3
            · rw [gI_sI, if_neg (by omega)]; exact h4
            · rw [gI_sI, if_neg (by omega), h5, gh]; rfl
            · rw [gI_sI, if_pos ⟨rfl, rfl⟩, h6]
              show _ = zb (!(ePm e))
              cases ePm e <;> rfl
            · rw [gI_sI, if_neg (by omega)]; exact h7
            · rw [gI_sI, if_neg (by omega)]; exact h8
            · rw [gI_sI, if_neg (by omega)]; exact ho
        · rw [if_pos g3]
          unfold eTake
          rw [gd]
          dsimp only [cond_false]
          rw [if_neg g1, if_neg g2, if_neg g3]
          have hb : isBg k = false := by unfold isBg; rw [gd]; simp [g1, g2]
          have hle : eLives e = true := by
            rcases hl with q | q
            · rw [hb] at q; cases q
            · exact q
          simp only [q2]
          unfold eBack
          cases gh : eHp e
          · rw [if_pos rfl, en_takeFromRow_eq]
            unfold en_takeFromRow_d
            dsimp only [cond_false]
            have q4 : (gI s a 4 = gI s a 3) = (ePt e = eL e) := by rw [h4, h3, i3_eq (by omega)]
            have q5 : (gI s a 3 ≤ 0) = (eL e = 0) := by rw [h3, i3_lit, i3_le (by omega)]; apply propext; omega
            simp only [q4, q5]
            rw [en_takeFromRow_48_eq]
            unfold en_takeFromRow_48_d
            by_cases g4 : ePt e = eL e
            · rw [if_neg (fun q => q g4), if_pos g4]
              refine ⟨fr_sI (fr_sI (fr_refl ..) rfl) rfl, ⟨?_, ?_, ?_, ?_, ?_, ?_, ?_, ?_⟩, ?_⟩
              · rw [gI_sI, if_neg (by omega), gI_sI, if_neg (by omega)]; exact h1
              · rw [gJ_sI, gJ_sI]; exact h2
              · rw [gI_sI, if_neg (by omega), gI_sI, if_neg (by omega)]; exact h3
              · rw [gI_sI, if_neg (by omega), gI_sI, if_pos ⟨rfl, rfl⟩]; rfl
              · rw [gI_sI, if_neg (by omega), gI_sI, if_neg (by omega), h5, gh]; rfl
              · rw [gI_sI, if_neg (by omega), gI_sI, if_neg (by omega)]; exact h6
              · rw [gI_sI, if_neg (by omega), gI_sI, if_neg (by omega)]; exact h7
              · rw [gI_sI, if_neg (by omega), gI_sI, if_neg (by omega)]; exact h8
              · rw [gI_sI, if_pos ⟨rfl, rfl⟩, gI_sI, if_neg (by omega), gI_sI, if_pos ⟨rfl, rfl⟩, h3]
                have r1 : ((0 : Int32) < i3 (eL e)) = (0 < eL e) := by rw [i3_lit, i3_lt (by omega)]; apply propext; omega
                simp only [r1]
                show zb (decide (0 < eL e) || !decide ((-1 : Int32) = -1)) = zb (false || (decide (0 < eL e) || decide ((0 : Int) ≤ -1)))
                simp
            · rw [if_pos g4, if_neg g4]
              have hL0 : ¬ eL e = 0 := by
                intro q
                unfold eLives at hle
                rw [gh, q] at hle
                simp only [Bool.or_eq_true, decide_eq_true_eq] at hle
                rcases hle with hle | hle | hle
                · cases hle
                · omega
                · omega
              rw [if_neg hL0]
              have e1 : i3 (eL e) - 1 = i3 (eL e - 1 : Nat) := by rw [i3_lit, i3_sub]; exact congrArg i3 (by omega)
              have e2 : j6 (dV (eDg e) 0 (eL e) : Nat) / 10 = j6 (dV (eDg e) 0 (eL e - 1) : Nat) := by
                rw [← dV_pop w2 (by omega), j6_lit, j6_quo (by omega), Int.natCast_ediv]; rfl
              refine ⟨fr_sI (fr_sI (fr_sJ (fr_refl ..) rfl) rfl) rfl, ⟨?_, ?_, ?_, ?_, ?_, ?_, ?_, ?_⟩, ?_⟩
              · rw [gI_sI, if_neg (by omega), gI_sI, if_neg (by omega), gI_sJ]; exact h1
              · rw [gJ_sI, gJ_sI, gJ_sJ, if_pos ⟨rfl, rfl⟩, h2, e2]; rfl
              · rw [gI_sI, if_neg (by omega), gI_sI, if_pos ⟨rfl, rfl⟩, h3, e1]; rfl
              · rw [gI_sI, if_neg (by omega), gI_sI, if_neg (by omega), gI_sJ]; exact h4
              · rw [gI_sI, if_neg (by omega), gI_sI, if_neg (by omega), gI_sJ, h5, gh]; rfl
              · rw [gI_sI, if_neg (by omega), gI_sI, if_neg (by omega), gI_sJ]; exact h6
              · rw [gI_sI, if_neg (by omega), gI_sI, if_neg (by omega), gI_sJ]; exact h7
              · rw [gI_sI, if_neg (by omega), gI_sI, if_neg (by omega), gI_sJ]; exact h8
              · rw [gI_sI, if_pos ⟨rfl, rfl⟩, gI_sI, if_pos ⟨rfl, rfl⟩, gI_sI, if_neg (by omega), gI_sJ, h3, h4, e1]
                have r1 : ((0 : Int32) < i3 (eL e - 1 : Nat)) = (0 < eL e - 1) := by rw [i3_lit, i3_lt (by omega)]; apply propext; omega
                have r2 : (i3 (ePt e) = -1) = (ePt e = -1) := by rw [i3_lit, i3_neg, i3_eq (by omega)]
                simp only [r1, r2]
                show zb (decide (0 < eL e - 1) || !decide (ePt e = -1)) = zb (false || (decide (0 < eL e - 1) || decide (0 ≤ ePt e)))
                by_cases g5 : ePt e = -1
                · rw [g5]; simp
                · rw [decide_eq_false g5, decide_eq_true (show 0 ≤ ePt e by omega)]; simp
          · rw [if_neg (fun q => by cases q), en_takeFromPart_eq]
            unfold en_takeFromPart_d
            dsimp only [cond_true]
            have q5 : (gI s a 8 = 0) = (ePl e = 0) := by rw [h8, i3_lit, i3_eq (by omega)]; apply propext; omega
            simp only [q5]
            have hL1 := w7 gh
            by_cases g4 : ePl e = 0
            · rw [if_neg (fun q => q g4), if_pos g4, en_dropPart_eq]
              unfold en_dropPart_d
              refine ⟨fr_sI (fr_sI (fr_sI (fr_sI (fr_refl ..) rfl) rfl) rfl) rfl, ⟨?_, ?_, ?_, ?_, ?_, ?_, ?_, ?_⟩, ?_⟩
              · simp only [gI_sI]; rw [if_neg (by omega), if_neg (by omega), if_neg (by omega), if_neg (by omega)]; exact h1
              · rw [gJ_sI, gJ_sI, gJ_sI, gJ_sI]; exact h2
              · simp only [gI_sI]; rw [if_neg (by omega), if_neg (by omega), if_neg (by omega), if_neg (by omega)]; exact h3
              · simp only [gI_sI]; rw [if_neg (by omega), if_neg (by omega), if_neg (by omega), if_neg (by omega)]; exact h4
              · rw [gI_sI, if_neg (by omega), gI_sI, if_neg (by omega), gI_sI, if_neg (by omega), gI_sI, if_pos ⟨rfl, rfl⟩]; rfl
              · rw [gI_sI, if_neg (by omega), gI_sI, if_neg (by omega), gI_sI, if_pos ⟨rfl, rfl⟩]; rfl
              · rw [gI_sI, if_neg (by omega), gI_sI, if_pos ⟨rfl, rfl⟩]; rfl
              · rw [gI_sI, if_pos ⟨rfl, rfl⟩]; rfl
              · simp only [gI_sI]; rw [if_neg (by omega), if_neg (by omega), if_neg (by omega), if_neg (by omega), ho]
                show zb true = zb (false || (decide (0 < eL e) || decide (0 ≤ ePt e)))
                rw [decide_eq_true (show 0 < eL e by omega)]; rfl
            · rw [if_pos g4, if_neg g4]
              have e1 : i3 (ePl e) - 1 = i3 (ePl e - 1 : Nat) := by rw [i3_lit, i3_sub]; exact congrArg i3 (by omega)
              have e2 : i3 (dV (ePd e) 0 (ePl e) : Nat) / 10 = i3 (dV (ePd e) 0 (ePl e - 1) : Nat) := by
                rw [← dV_pop w6 (by omega), i3_lit, i3_quo (by omega), Int.natCast_ediv]; rfl
              refine ⟨fr_sI (fr_sI (fr_refl ..) rfl) rfl, ⟨?_, ?_, ?_, ?_, ?_, ?_, ?_, ?_⟩, ?_⟩
              · rw [gI_sI, if_neg (by omega), gI_sI, if_neg (by omega)]; exact h1
              · rw [gJ_sI, gJ_sI]; exact h2
              · rw [gI_sI, if_neg (by omega), gI_sI, if_neg (by omega)]; exact h3
              · rw [gI_sI, if_neg (by omega), gI_sI, if_neg (by omega)]; exact h4
              · rw [gI_sI, if_neg (by omega), gI_sI, if_neg (by omega), h5, gh]; rfl
              · rw [gI_sI, if_neg (by omega), gI_sI, if_neg (by omega)]; exact h6
              · rw [gI_sI, if_neg (by omega), gI_sI, if_pos ⟨rfl, rfl⟩, h7, e2]; rfl
              · rw [gI_sI, if_pos ⟨rfl, rfl⟩, gI_sI, if_neg (by omega), h8, e1]; rfl
              · rw [gI_sI, if_neg (by omega), gI_sI, if_neg (by omega), ho]; rfl
  · rw [if_neg (by simp), en_addDigit_eq, hlv (Or.inl (by unfold isBg; rw [gd]; rfl))]
    unfold en_addDigit_d eTake
    rw [gd]
    dsimp only [cond_true]
    unfold eDigit
    have hk9 : 48 ≤ k ∧ k ≤ 57 := by
      unfold isDg at gd
      simp only [Bool.and_eq_true, decide_eq_true_eq] at gd
      exact gd
    have q2 : (gI s a 5 = 0) = (eHp e = false) := by rw [h5]; exact propext zb_eq0
    have q3 : ((12 : Int32) ≤ gI s a 3) = (12 ≤ eL e) := by rw [h3, i3_lit, i3_le (by omega)]; apply propext; omega
    have q4 : ((2 : Int32) ≤ gI s a 8) = (2 ≤ ePl e) := by rw [h8, i3_lit, i3_le (by omega)]; apply propext; omega
    have ek : i3 k - 48 = i3 ((k - 48).toNat : Nat) := by rw [i3_lit, i3_sub]; exact congrArg i3 (by omega)
    simp only [q2, q3, q4, ek]
    cases gh : eHp e
    · rw [if_pos rfl]
      dsimp only [cond_false]
      by_cases g4 : 12 ≤ eL e
      · rw [if_pos g4, if_neg (by omega)]
        exact ⟨fr_refl .., he', ho⟩
      · rw [if_neg g4, if_pos (by omega)]
        have e1 : i3 (eL e) + 1 = i3 (eL e + 1 : Nat) := by rw [i3_lit, i3_add]; rfl
        have e2 : (10 : Int64) * j6 (dV (eDg e) 0 (eL e) : Nat) + (i3 ((k - 48).toNat : Nat)).toInt64 = j6 (dV (updN (eDg e) (eL e) (k - 48).toNat) 0 (eL e + 1) : Nat) := by
          rw [dV_updN, i3_long (by omega), j6_lit, j6_mul, j6_add]; rfl
        refine ⟨fr_sI (fr_sJ (fr_refl ..) rfl) rfl, ⟨?_, ?_, ?_, ?_, ?_, ?_, ?_, ?_⟩, ?_⟩
        · rw [gI_sI, if_neg (by omega), gI_sJ]; exact h1
        · rw [gJ_sI, gJ_sJ, if_pos ⟨rfl, rfl⟩, h2, e2]; rfl
        · rw [gI_sI, if_pos ⟨rfl, rfl⟩, h3, e1]; rfl
        · rw [gI_sI, if_neg (by omega), gI_sJ]; exact h4
        · rw [gI_sI, if_neg (by omega), gI_sJ, h5, gh]; rfl
        · rw [gI_sI, if_neg (by omega), gI_sJ]; exact h6
        · rw [gI_sI, if_neg (by omega), gI_sJ]; exact h7
        · rw [gI_sI, if_neg (by omega), gI_sJ]; exact h8
        · rw [gI_sI, if_neg (by omega), gI_sJ]; exact ho
    · rw [if_neg (fun q => by cases q)]
      dsimp only [cond_true]
      by_cases g4 : 2 ≤ ePl e
      · rw [if_pos g4, if_neg (by omega)]
        exact ⟨fr_refl .., he', ho⟩
      · rw [if_neg g4, if_pos (by omega)]
        have e1 : i3 (ePl e) + 1 = i3 (ePl e + 1 : Nat) := by rw [i3_lit, i3_add]; rfl
        have e2 : (10 : Int32) * i3 (dV (ePd e) 0 (ePl e) : Nat) + i3 ((k - 48).toNat : Nat) = i3 (dV (updN (ePd e) (ePl e) (k - 48).toNat) 0 (ePl e + 1) : Nat) := by
          rw [dV_updN, i3_lit, i3_mul, i3_add]; rfl
        refine ⟨fr_sI (fr_sI (fr_refl ..) rfl) rfl, ⟨?_, ?_, ?_, ?_, ?_, ?_, ?_, ?_⟩, ?_⟩
        · rw [gI_sI, if_neg (by omega), gI_sI, if_neg (by omega)]; exact h1
        · rw [gJ_sI, gJ_sI]; exact h2
        · rw [gI_sI, if_neg (by omega), gI_sI, if_neg (by omega)]; exact h3
        · rw [gI_sI, if_neg (by omega), gI_sI, if_neg (by omega)]; exact h4
        · rw [gI_sI, if_neg (by omega), gI_sI, if_neg (by omega), h5, gh]; rfl
        · rw [gI_sI, if_neg (by omega), gI_sI, if_neg (by omega)]; exact h6
        · rw [gI_sI, if_neg (by omega), gI_sI, if_pos ⟨rfl, rfl⟩, h7, e2]; rfl
        · rw [gI_sI, if_pos ⟨rfl, rfl⟩, gI_sI, if_neg (by omega), h8, e1]; rfl
        · rw [gI_sI, if_neg (by omega), gI_sI, if_neg (by omega)]; exact ho
