/-! VALUES USED, STEPS, RUNS, at the reference -/
theorem sg_like {a b : Int} (ha : a ≠ 0) (hb : b ≠ 0) : (a.sign = b.sign) = (decide (a < 0) = decide (b < 0)) := by
  have h1 : decide (a < 0) = decide (a.sign < 0) := by simp only [sgn_lt]
  have h2 : decide (b < 0) = decide (b.sign < 0) := by simp only [sgn_lt]
  rw [h1, h2]
  rcases sgn_pm ha with h | h <;> rcases sgn_pm hb with h' | h' <;> rw [h, h'] <;> decide
theorem rval {s : xS} {A : aA} (hA : VA A) (hr : qR A = 2) (h : RV s A) : tm_taken_ok s ∧ fr Pre s (tm_taken s) ∧ RV (tm_taken s) (aVal A) := by
  have hv := hA.1.1
  have hV := hA.2.2.2.2.1.1
  have hy := RV_y h
  obtain ⟨q1, q2, q3, q4, q5, q6, q7, q8, q9, q10⟩ := h
  obtain ⟨k1, k2, k3, k4, k5, k6, k7, k8, k9⟩ := hA.2.2.2.2.1.2 hr
  obtain ⟨y1, y2, y3, y4, y5, y6, y7⟩ := q7.2 hr
  have hR : gI s 230 9 = i3 2 := by rw [← hr]; exact q3
  have hx := rN_rB (q1.1.1 10 (by omega))
  have vx := hv.1 10 (by omega)
  have x10 : gI s 231 10 = i3 (dN (qD A) 10).1.sign := hx.1
  rw [tm_taken_eq]
  unfold tm_taken_ok tm_taken_d
  have z1 : (gI s 231 10 = 0) = ((dN (qD A) 10).1 = 0) := by rw [x10]; exact i3_sg0
  have hph : aPh A = if qV A = 1 then 0 else if qV A = 2 then 1 else 2 := rfl
  have hpr : 0 ≤ aPh A ∧ aPh A ≤ 2 := by rw [hph]; split <;> first | omega | (split <;> omega)
  have z2 : (gI s 230 12 = 0) = (qV A = 1) := by
    rw [y2, i3_lit, i3_eq (by omega), hph]; apply propext
    split
    · omega
    · split <;> omega
  have z3 : (gI s 230 12 = 1) = (qV A = 2) := by
    rw [y2, i3_lit, i3_eq (by omega), hph]; apply propext
    split
    · omega
    · split <;> omega
  simp only [z1, z2, z3]
  unfold aVal
  by_cases gx : (dN (qD A) 10).1 = 0
  · rw [if_neg (show ¬ ¬ _ from fun q => q gx), if_pos gx, y2]
    obtain ⟨p, hp⟩ : ∃ p : Nat, aPh A = p := ⟨(aPh A).toNat, by omega⟩
    have hcur : rW s p (aCur A) ∧ vN (aCur A) := by
      unfold aCur
      rw [hph] at hp
      by_cases g1 : qV A = 1
      · rw [if_pos g1] at hp ⊢
        have : p = 0 := by omega
        subst this
        exact ⟨y3, k5⟩
      · rw [if_neg g1] at hp ⊢
        by_cases g2 : qV A = 2
        · rw [if_pos g2] at hp ⊢
          have : p = 1 := by omega
          subst this
          exact ⟨y4, k6⟩
        · rw [if_neg g2] at hp ⊢
          have : p = 2 := by omega
          subst this
          exact ⟨y5 (by omega), k7 (by omega)⟩
    rw [hp]
    obtain ⟨u1, u2, u3⟩ := rfnd (k := p) (a := p) (b := p) (D := qD A) (v := dN (qD A) 10) hA hr (by omega) (by omega) (by omega) hy q4 q1.1 hv rfl (fun j _ _ => rfl) rfl vx q7.1 hcur.1 hcur.2 hcur.1 hcur.2 hcur.1 hcur.2
    exact ⟨⟨fun q => absurd gx q, fun _ => u1⟩, u2, u3⟩
  · rw [if_pos (show ¬ _ from gx), if_neg gx]
    have note : ∀ k : Nat, k < 5 → tm_note_ok s 10 (i3 k) ∧ fr (fun b j => (235 ≤ b ∧ b ≤ 237) ∧ j = k) s (tm_note s 10 (i3 k)) ∧ rW (tm_note s 10 (i3 k)) k (dN (qD A) 10) := fun k hk => rnote (i := 10) hk (by omega) (q1.1.1 10 (by omega))
    have keepW : ∀ {x : xS} {k m : Nat} {p : Int × Int}, fr (fun b j => (235 ≤ b ∧ b ≤ 237) ∧ j = k) s x → m ≠ k → rW s m p → rW x m p := fun f hm hp => ⟨(f.1 _ _ (by omega)).1.trans hp.1, (f.1 _ _ (by omega)).2.trans hp.2.1, (f.1 _ _ (by omega)).1.trans hp.2.2⟩
    have keepR : ∀ {x : xS}, fr (fun b j => 235 ≤ b ∧ b ≤ 237) s x → RVy x A ∧ RVh x A ∧ gI x 230 9 = i3 2 ∧ rD x 0 (qD A) ∧ gI x 230 13 = i3 (qV A) ∧ gI x 230 11 = i3 (qLb A) ∧ fr Pre s x := fun f => ⟨RVy_fr f (fun b j w => by omega) hy, RVh_fr f (fun j w => by omega) (fun j w => by omega) (by omega) hA.2.1 q4, (f.1 _ _ (by omega)).1.trans hR, rD_fr f (fun j _ _ => by omega) (fun j _ _ => by omega) hv q1.1, (f.1 _ _ (by omega)).1.trans q7.1, (f.1 _ _ (by omega)).1.trans y1, fr_mono f (fun b j q => by unfold Pre; omega)⟩
    by_cases gv1 : qV A = 1
    · rw [if_neg (show ¬ ¬ _ from fun q => q gv1), if_pos gv1]
      obtain ⟨n1, n2, n3⟩ := note 3 (by omega)
      have n1' : tm_note_ok s 10 3 := n1
      have n2' : fr (fun b j => (235 ≤ b ∧ b ≤ 237) ∧ j = 3) s (tm_note s 10 3) := n2
      have n3' : rW (tm_note s 10 3) 3 (dN (qD A) 10) := n3
      obtain ⟨r1, r2, r3, r4, r5, r6, r7⟩ := keepR (fr_mono n2' (fun b j q => q.1))
      obtain ⟨u1, u2, u3⟩ := rtk (k := 1) (n := qW A 1) (w := updA (qW A) 3 (dN (qD A) 10)) hv hA.2.1 hA.2.2.1 k3 hr (by omega) r1 r2 r3 r4 r5 r6 k6 (keepW n2' (by omega) y4) (keepW n2' (by omega) y3) (keepW n2' (by omega) y4) (fun q => by omega) (fun _ => n3') (fun q => by omega) (by rw [if_neg (show ¬ qV A = 0 by omega), if_pos gv1]; rfl)
      exact ⟨⟨fun _ => ⟨fun q => absurd gv1 q, fun _ => ⟨n1', u1⟩⟩, fun q => absurd q gx⟩, fr_trans r7 u2, u3⟩
    · rw [if_pos (show ¬ _ from gv1), if_neg gv1]
      obtain ⟨v3, nz3⟩ := k8 (by omega)
      have w3 := y6 (by omega)
      have hlike := sg_like gx nz3
      by_cases gv2 : qV A = 2
      · rw [if_neg (show ¬ ¬ _ from fun q => q gv2), if_pos gv2]
        obtain ⟨n1, n2, n3⟩ := note 4 (by omega)
        have n1' : tm_note_ok s 10 4 := n1
        have n2' : fr (fun b j => (235 ≤ b ∧ b ≤ 237) ∧ j = 4) s (tm_note s 10 4) := n2
        have n3' : rW (tm_note s 10 4) 4 (dN (qD A) 10) := n3
        obtain ⟨r1, r2, r3, r4, r5, r6, r7⟩ := keepR (fr_mono n2' (fun b j q => q.1))
        have w3' := keepW n2' (by omega) w3
        have z4 : (gI (tm_note s 10 4) 235 3 = gI (tm_note s 10 4) 235 4) = (decide ((dN (qD A) 10).1 < 0) = decide ((qW A 3).1 < 0)) := by
          rw [w3'.1, n3'.1, i3_sg, ← hlike]; exact propext ⟨fun q => q.symm, fun q => q.symm⟩
        simp only [z4]
        by_cases gl : decide ((dN (qD A) 10).1 < 0) = decide ((qW A 3).1 < 0)
        · rw [if_neg (show ¬ ¬ _ from fun q => q gl), if_pos gl]
          obtain ⟨u1, u2, u3⟩ := rfl2 (c := 9) hA hr r1 r2 r3 r5
          exact ⟨⟨fun _ => ⟨fun _ => ⟨fun q => absurd gv2 q, fun _ => ⟨n1', fun q => absurd gl q, fun _ => u1⟩⟩, fun q => absurd q gv1⟩, fun q => absurd q gx⟩, fr_trans r7 u2, u3⟩
        · rw [if_pos (show ¬ _ from gl), if_neg gl]
          obtain ⟨u1, u2, u3⟩ := rhalve (w := updA (qW A) 4 (dN (qD A) 10)) hA hr (by omega) ⟨r1, r2, r3, r4, r5, r6, keepW n2' (by omega) y3, keepW n2' (by omega) y4, w3', n3'⟩ k5 k6 v3 vx
          exact ⟨⟨fun _ => ⟨fun _ => ⟨fun q => absurd gv2 q, fun _ => ⟨n1', fun _ => u1, fun q => absurd q gl⟩⟩, fun q => absurd q gv1⟩, fun q => absurd q gx⟩, fr_trans r7 u2, u3⟩
      · rw [if_pos (show ¬ _ from gv2), if_neg gv2]
        have w2 := y5 (by omega)
        have w4 := y7 (by omega)
        obtain ⟨v4, nz4⟩ := k9 (by omega)
        have v2 := k7 (by omega)
        have z5 : (gI s 231 10 = gI s 235 3) = (decide ((dN (qD A) 10).1 < 0) = decide ((qW A 3).1 < 0)) := by rw [x10, w3.1, i3_sg, hlike]
        simp only [z5]
        -- the end e (0 or 1) becomes the middle
        have go : ∀ e : Nat, e < 2 → ∀ w : Nat → Int × Int, w = updA (updA (qW A) e (qW A 2)) (3 + e) (dN (qD A) 10) → (tm_note_ok s 10 (i3 (3 + e : Nat)) ∧ vp_in (i3 e) 5 ∧ vp_in (i3 e) 5 ∧ vp_in (i3 e) 5 ∧ tm_halve_ok (sI (sJ (sI (tm_note s 10 (i3 (3 + e : Nat))) 235 e (gI (tm_note s 10 (i3 (3 + e : Nat))) 235 2)) 236 e (gJ (tm_note s 10 (i3 (3 + e : Nat))) 236 2)) 237 e (gI (tm_note s 10 (i3 (3 + e : Nat))) 237 2))) ∧ fr Pre s (tm_halve (sI (sJ (sI (tm_note s 10 (i3 (3 + e : Nat))) 235 e (gI (tm_note s 10 (i3 (3 + e : Nat))) 235 2)) 236 e (gJ (tm_note s 10 (i3 (3 + e : Nat))) 236 2)) 237 e (gI (tm_note s 10 (i3 (3 + e : Nat))) 237 2))) ∧ RV (tm_halve (sI (sJ (sI (tm_note s 10 (i3 (3 + e : Nat))) 235 e (gI (tm_note s 10 (i3 (3 + e : Nat))) 235 2)) 236 e (gJ (tm_note s 10 (i3 (3 + e : Nat))) 236 2)) 237 e (gI (tm_note s 10 (i3 (3 + e : Nat))) 237 2))) (aHlv A w) := by
          intro e he w hw
          obtain ⟨n1, n2, n3⟩ := note (3 + e) (by omega)
          have n1' : tm_note_ok s 10 (i3 (3 + e : Nat)) := n1
          have n2' : fr (fun b j => (235 ≤ b ∧ b ≤ 237) ∧ j = 3 + e) s (tm_note s 10 (i3 (3 + e : Nat))) := n2
          have n3' : rW (tm_note s 10 (i3 (3 + e : Nat))) (3 + e) (dN (qD A) 10) := n3
          have m2 := keepW n2' (by omega) w2
          have kt : ∀ {m : Nat} {p : Int × Int}, m ≠ 3 + e → rW s m p → rW (tm_note s 10 (i3 (3 + e : Nat))) m p := fun hm hp => keepW n2' hm hp
          have fa := fr_mono n2' (fun b j q => q.1)
          have m0 : rW (tm_note s 10 (i3 (3 + e : Nat))) 0 (qW A 0) := kt (by omega) y3
          have m1 : rW (tm_note s 10 (i3 (3 + e : Nat))) 1 (qW A 1) := kt (by omega) y4
          have m3 : 3 ≠ 3 + e → rW (tm_note s 10 (i3 (3 + e : Nat))) 3 (qW A 3) := fun q => kt q w3
          have m4 : 4 ≠ 3 + e → rW (tm_note s 10 (i3 (3 + e : Nat))) 4 (qW A 4) := fun q => kt q w4
          generalize tm_note s 10 (i3 (3 + e : Nat)) = t at *
          rw [m2.1, m2.2.1, m2.2.2]
          have f2 : fr (fun b j => (235 ≤ b ∧ b ≤ 237) ∧ j = e) t (sI (sJ (sI t 235 e (i3 (qW A 2).1.sign)) 236 e (j6 (qW A 2).1.natAbs)) 237 e (i3 (qW A 2).2)) := fr_sI (fr_sJ (fr_sI (fr_refl ..) ⟨by omega, rfl⟩) ⟨by omega, rfl⟩) ⟨by omega, rfl⟩
          have we : rW (sI (sJ (sI t 235 e (i3 (qW A 2).1.sign)) 236 e (j6 (qW A 2).1.natAbs)) 237 e (i3 (qW A 2).2)) e (qW A 2) := ⟨by rw [gI_sI, if_neg (by omega), gI_sJ, gI_sI, if_pos ⟨rfl, rfl⟩], by rw [gJ_sI, gJ_sJ, if_pos ⟨rfl, rfl⟩], by rw [gI_sI, if_pos ⟨rfl, rfl⟩]⟩
          have ku : ∀ {m : Nat} {p : Int × Int}, m ≠ e → rW t m p → rW (sI (sJ (sI t 235 e (i3 (qW A 2).1.sign)) 236 e (j6 (qW A 2).1.natAbs)) 237 e (i3 (qW A 2).2)) m p := fun hm hp => ⟨(f2.1 _ _ (by omega)).1.trans hp.1, (f2.1 _ _ (by omega)).2.trans hp.2.1, (f2.1 _ _ (by omega)).1.trans hp.2.2⟩
          have fu : fr (fun b j => 235 ≤ b ∧ b ≤ 237) s (sI (sJ (sI t 235 e (i3 (qW A 2).1.sign)) 236 e (j6 (qW A 2).1.natAbs)) 237 e (i3 (qW A 2).2)) := fr_trans fa (fr_mono f2 (fun b j q => q.1))
          generalize sI (sJ (sI t 235 e (i3 (qW A 2).1.sign)) 236 e (j6 (qW A 2).1.natAbs)) 237 e (i3 (qW A 2).2) = u at *
          obtain ⟨r1, r2, r3, r4, r5, r6, r7⟩ := keepR fu
          have hin : vp_in (i3 e) 5 := by rw [i3_inN (by omega)]; omega
          have he2 : e = 0 ∨ e = 1 := by omega
          rcases he2 with rfl | rfl
          · obtain ⟨u1, u2, u3⟩ := rhalve (w := w) hA hr (by omega) ⟨r1, r2, r3, r4, r5, r6, by rw [hw]; exact we, by rw [hw]; exact ku (by omega) m1, by rw [hw]; exact ku (by omega) n3', by rw [hw]; exact ku (by omega) (m4 (by omega))⟩ (by rw [hw]; exact v2) (by rw [hw]; exact k6) (by rw [hw]; exact vx) (by rw [hw]; exact v4)
            exact ⟨⟨n1', hin, hin, hin, u1⟩, fr_trans r7 u2, u3⟩
          · obtain ⟨u1, u2, u3⟩ := rhalve (w := w) hA hr (by omega) ⟨r1, r2, r3, r4, r5, r6, by rw [hw]; exact ku (by omega) m0, by rw [hw]; exact we, by rw [hw]; exact ku (by omega) (m3 (by omega)), by rw [hw]; exact ku (by omega) n3'⟩ (by rw [hw]; exact k5) (by rw [hw]; exact v2) (by rw [hw]; exact v3) (by rw [hw]; exact vx)
            exact ⟨⟨n1', hin, hin, hin, u1⟩, fr_trans r7 u2, u3⟩
        by_cases gl : decide ((dN (qD A) 10).1 < 0) = decide ((qW A 3).1 < 0)
        · rw [if_pos gl, decide_eq_true gl]
          have e3 : (3 : Int32) + zb (!true) = i3 (3 + 0 : Nat) := rfl
          have e0 : (zb (!true)).toNatClampNeg = 0 := rfl
          have e00 : zb (!true) = i3 (0 : Nat) := rfl
          rw [e3, e0, e00]
          obtain ⟨u1, u2, u3⟩ := go 0 (by omega) _ rfl
          exact ⟨⟨fun _ => ⟨fun _ => ⟨fun _ => u1, fun q => absurd q gv2⟩, fun q => absurd q gv1⟩, fun q => absurd q gx⟩, u2, u3⟩
        · rw [if_neg gl, decide_eq_false gl]
          have e3 : (3 : Int32) + zb (!false) = i3 (3 + 1 : Nat) := rfl
          have e0 : (zb (!false)).toNatClampNeg = 1 := rfl
          have e00 : zb (!false) = i3 (1 : Nat) := rfl
          rw [e3, e0, e00]
          obtain ⟨u1, u2, u3⟩ := go 1 (by omega) _ rfl
          exact ⟨⟨fun _ => ⟨fun _ => ⟨fun _ => u1, fun q => absurd q gv2⟩, fun q => absurd q gv1⟩, fun q => absurd q gx⟩, u2, u3⟩
