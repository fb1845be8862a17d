/-! THE REFERENCE'S ROOT, AND ITS WORK ON ITS CELLS -/
theorem rroot (s : xS) {z e : Int32} {d : Int64} {n : Int × Int} (hn : rB z d e n) (vn : vN n) : tm_root_ok s z d e ∧ rRes s (tm_root s z d e) (aRoot n) := by
  rw [tm_root_eq]
  unfold tm_root_ok tm_root_d aRoot
  obtain ⟨rfl, rfl, rfl⟩ := hn
  obtain ⟨k1, k2, k3⟩ := rclear s
  have b := vN_b vn
  have sr := sgn_rng n.1
  have c1 : ((0 : Int32) ≤ i3 n.1.sign) = (¬ n.1 < 0) := by
    rw [i3_lit, i3_le (by omega), ← sgn_lt]; apply propext; omega
  simp only [c1]
  by_cases g : n.1 < 0
  · rw [if_neg (fun q => q g), if_pos g]
    exact ⟨fun q => absurd g q, fr_refl .., rfl, fun q => absurd q (by decide)⟩
  · rw [if_pos g, if_neg g, tm_root_26_eq]
    unfold tm_root_26_ok tm_root_26_d
    rw [tm_root_42_eq]
    unfold tm_root_42_ok tm_root_42_d
    rw [tm_root_62_eq]
    unfold tm_root_62_ok tm_root_62_d
    have c2 : (((i3 n.2 - 11) &&& 1) = 1) = ((n.2 - 11) % 2 = 1) := by rw [i3_lit, i3_sub, i3_lit, and1_32, i3_eq (by omega)]
    simp only [c2]
    have hz01 : 0 ≤ n.1.sign ∧ n.1.sign ≤ 1 := by
      have : ¬ n.1.sign < 0 := by rw [sgn_lt]; exact g
      omega
    have hN : rtN n < 100000000000000 := by unfold rtN; split <;> omega
    have key : ∀ kk : Int, -200 ≤ kk ∧ kk ≤ 200 → kk % 2 = 0 → kk / 2 - 8 = rtU n → (tm_root_78_ok xfu (tm_clearRow s) (i3 n.1.sign) (j6 (rtN n)) (i3 kk) 1000000000000 0 0 0 ∧ rRes s (tm_root_78 xfu (tm_clearRow s) (i3 n.1.sign) (j6 (rtN n)) (i3 kk) 1000000000000 0 0 0) (rs (aFin (rt (prs (rtN n)) 15).1 (!decide ((rt (prs (rtN n)) 15).2 = 0)) (rtU n) false))) := by
      intro kk h1 h2 h3
      obtain ⟨p1, p2⟩ := rroot_78 hz01 h1 h2 hN xfu 0 (tm_clearRow s) (fun _ => 0) (10 ^ 12) (by omega) (by rw [xfu_eq]; omega) (fun j hj => by omega) rfl rfl
      refine ⟨p1, ?_⟩
      rcases p2 with ⟨w, p2⟩ | ⟨w, q, p2, p3⟩
      · have h0 : n.1 = 0 := sgn_zero.mp w
        have hr : rtN n = 0 := by unfold rtN; rw [h0]; split <;> rfl
        rw [hr]
        have hp0 : ∀ i, prs 0 i = 0 := by intro i; unfold prs; split <;> simp
        have hrt : ∀ i, rt (prs 0) i = (0, 0) := by
          intro i
          induction i with
          | zero => rfl
          | succ i ih =>
            unfold rt
            rw [ih, hp0]
            rfl
        rw [hrt]
        rw [← aFin_eq (W := (0, 0).1) (r := some (0, 0)) (Or.inl ⟨rfl, rfl⟩)]
        rw [hr] at p2
        exact ⟨fr_trans (P242_row k2) p2.1, p2.2⟩
      · rw [h3] at p2
        rw [← aFin_eq p2]
        exact ⟨fr_trans (P242_row k2) p3.1, p3.2⟩
    by_cases g2 : (n.2 - 11) % 2 = 1
    · rw [decide_eq_true g2]
      simp only [zb_tt, show (i3 1 = (0 : Int32)) = False from eq_false (by decide), if_false]
      have e1 : (10 : Int64) * j6 n.1.natAbs = j6 (rtN n) := by
        unfold rtN; rw [if_neg (by omega), j6_lit, j6_mul]; exact congrArg j6 (by omega)
      rw [e1, i3_lit, i3_sub]
      obtain ⟨p1, p2⟩ := key (n.2 - 12) (by omega) (by omega) (by unfold rtU; rw [if_neg (by omega)])
      exact ⟨fun _ => ⟨k1, p1⟩, p2⟩
    · rw [decide_eq_false g2]
      simp only [zb_ff, show (i3 0 = (0 : Int32)) = True from eq_true rfl, if_true]
      have e1 : j6 n.1.natAbs = j6 (rtN n) := by unfold rtN; rw [if_pos (by omega)]
      rw [e1, i3_lit, i3_sub]
      obtain ⟨p1, p2⟩ := key (n.2 - 11) (by omega) (by omega) (by unfold rtU; rw [if_pos (by omega)])
      exact ⟨fun _ => ⟨k1, p1⟩, p2⟩
/-- a number of the reference, in the block c at the place i -/
def rN (s : xS) (c i : Nat) (n : Int × Int) : Prop := gI s 231 (80 * c + i) = i3 n.1.sign ∧ gJ s 232 (24 * c + i) = j6 n.1.natAbs ∧ gI s 231 (80 * c + 23 + i) = i3 n.2
theorem rA_of {z : Int32} {d : Int64} {e : Int32} {n : Int × Int} (h : rB z d e n) : rA z d e n := ⟨h.1, fun _ => h.2⟩
theorem rB_neg {z : Int32} {d : Int64} {e : Int32} {n : Int × Int} (h : rB z d e n) : rB (-z) d e (neg2 n) := by
  obtain ⟨rfl, rfl, rfl⟩ := h
  refine ⟨?_, ?_, rfl⟩
  · rw [i3_neg]; show _ = i3 (-n.1).sign; rw [Int.sign_neg]
  · show _ = j6 ((-n.1).natAbs : Nat); rw [Int.natAbs_neg]
theorem rwork (s : xS) {k : Int} {i j : Nat} {n m : Int × Int} (hi : i < 23) (hj : j < 23) (hk : k = 42 ∨ k = 43 ∨ k = 45 ∨ k = 47) (hn : rN s 0 i n) (hm : rN s 0 j m) (vn : vN n) (vm : vN m) : tm_work_ok s (i3 k) (i3 i) (i3 j) ∧ rRes s (tm_work s (i3 k) (i3 i) (i3 j)) (aOp k n m) := by
  rw [tm_work_eq]
  unfold tm_work_ok tm_work_d aOp
  have ei : (23 : Int32) + i3 i = i3 (23 + i : Nat) := by rw [i3_lit, i3_add]; rfl
  have ej : (23 : Int32) + i3 j = i3 (23 + j : Nat) := by rw [i3_lit, i3_add]; rfl
  have v1 : vp_in (i3 i) 640 := by rw [i3_inN (by omega)]; omega
  have v2 : vp_in (i3 i) 192 := by rw [i3_inN (by omega)]; omega
  have v3 : vp_in (i3 (23 + i : Nat)) 640 := by rw [i3_inN (by omega)]; omega
  have v4 : vp_in (i3 j) 640 := by rw [i3_inN (by omega)]; omega
  have v5 : vp_in (i3 j) 192 := by rw [i3_inN (by omega)]; omega
  have v6 : vp_in (i3 (23 + j : Nat)) 640 := by rw [i3_inN (by omega)]; omega
  rw [ei, ej, i3_natN (show i < 2147483648 by omega), i3_natN (show j < 2147483648 by omega), i3_natN (show 23 + i < 2147483648 by omega), i3_natN (show 23 + j < 2147483648 by omega)]
  have bn : rB (gI s 231 i) (gJ s 232 i) (gI s 231 (23 + i)) n := by
    obtain ⟨a, b, c⟩ := hn
    rw [show 80 * 0 + i = i by omega] at a
    rw [show 24 * 0 + i = i by omega] at b
    rw [show 80 * 0 + 23 + i = 23 + i by omega] at c
    exact ⟨a, b, c⟩
  have bm : rB (gI s 231 j) (gJ s 232 j) (gI s 231 (23 + j)) m := by
    obtain ⟨a, b, c⟩ := hm
    rw [show 80 * 0 + j = j by omega] at a
    rw [show 24 * 0 + j = j by omega] at b
    rw [show 80 * 0 + 23 + j = 23 + j by omega] at c
    exact ⟨a, b, c⟩
  rcases hk with rfl | rfl | rfl | rfl
  · obtain ⟨p1, p2⟩ := rmul s bn bm vn vm
    exact ⟨⟨v1, v2, v3, v4, v5, v6, fun _ => p1, fun q => absurd q (by decide), fun q => absurd q (by decide), fun q => absurd q (by decide), fun q => absurd rfl q⟩, p2⟩
  · obtain ⟨p1, p2⟩ := rsum s (rA_of bn) (rA_of bm) vn vm
    exact ⟨⟨v1, v2, v3, v4, v5, v6, fun q => absurd q (by decide), fun _ => p1, fun q => absurd q (by decide), fun q => absurd q (by decide), fun _ q => absurd rfl q⟩, p2⟩
  · obtain ⟨p1, p2⟩ := rsum s (rA_of bn) (rA_of (rB_neg bm)) vn (neg2_v vm)
    exact ⟨⟨v1, v2, v3, v4, v5, v6, fun q => absurd q (by decide), fun q => absurd q (by decide), fun q => absurd q (by decide), fun _ => p1, fun _ _ _ q => absurd rfl q⟩, p2⟩
  · obtain ⟨p1, p2⟩ := rdiv s (rA_of bn) (rA_of bm) vn vm
    exact ⟨⟨v1, v2, v3, v4, v5, v6, fun q => absurd q (by decide), fun q => absurd q (by decide), fun q => absurd q (by decide), fun q => absurd q (by decide), fun _ _ _ _ => p1⟩, p2⟩
