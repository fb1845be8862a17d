/-! BOTH SIDES TOGETHER, call by call -/
def LI (s : xS) (A : aA) : Prop := VA A ∧ CV s A ∧ RV s A
def rm (s t : xS) : Prop := t.2.2.1 ≤ s.2.2.1 + 1 ∧ t.2.2.2 ≤ s.2.2.2 + 6
theorem rm_eq {s t : xS} (h : t.2.2 = s.2.2) : rm s t := by unfold rm; rw [h]; omega
theorem CV_gone {s : xS} {A : aA} (h : CV s A) : CV (sgone s) A := h
theorem RV_gone {s : xS} {A : aA} (h : RV s A) : RV (sgone s) A := h
theorem LI_mid {s s0 : xS} {A A' : aA} (h : LI s A) (f : fr Pcl s s0) : RV s0 A := RV_fr f (fun b j w w2 w3 => by unfold Pcl; omega) h.1 h.2.2
theorem LI_243 {s : xS} {A A' : aA} (v : Int64) (hA : VA A) (hA' : VA A') (hr : RV s A) (hc : CV s A') : RV (sJ s 243 0 v) A ∧ CV (sJ s 243 0 v) A' ∧ (sJ s 243 0 v).2.2 = s.2.2 ∧ gJ (sJ s 243 0 v) 243 0 = v := by
  have f : fr (fun b j => b = 243 ∧ j = 0) s (sJ s 243 0 v) := fr_sJ (fr_refl ..) ⟨rfl, rfl⟩
  exact ⟨RV_fr f (fun b j w w2 w3 => by omega) hA hr, CV_fr f (fun b j w => by omega) hA' hc, rfl, by rw [gJ_sJ, if_pos ⟨rfl, rfl⟩]⟩
theorem LI_end {s t : xS} {A : aA} (hA : VA A) (hc : CV s A) (f : fr Prr s t) (hr : RV t A) : LI t A ∧ t.2.2 = s.2.2 ∧ gJ t 243 0 = gJ s 243 0 := ⟨⟨hA, CV_fr f (fun b j w => by unfold Prr; omega) hA hc, hr⟩, f.2, (f.1 _ _ (by unfold Prr; omega)).2⟩
theorem LI_thr {s : xS} {A : aA} (c : Int32) (h : LI s A) : LI (sI (sgone s) 230 0 c) A ∧ rm s (sI (sgone s) 230 0 c) ∧ gI (sI (sgone s) 230 0 c) 230 0 = c := by
  obtain ⟨f, hr, hz⟩ := RV_0 (v := c) h.1 (RV_gone h.2.2)
  exact ⟨(LI_end h.1 (CV_gone h.2.1) f hr).1, ⟨Nat.le_refl _, Nat.le_refl _⟩, hz⟩
theorem run0 {s : xS} {A : aA} (h : LI s A) : (gI s 0 6 = 0) = (qR A = 0) := by
  have := h.1.1.2.2.2
  rw [h.2.1.2.2.1, i3_lit, i3_eq (by omega)]
section LL
variable {s : xS} {A : aA}
theorem L0 (h : LI s A) (m : Int32) : ∃ c s1, (∀ {xs : Nat → Int32} {Ls : Nat} (Ψ : xO → xH → Prop), Ψ (.inl (some (vi c))) (xhp s1) → xM (xX0 xs Ls) 208 [vr 0 0, vi m] (xhp s) Ψ) ∧ tm_model_ok s1 m ∧ gI (tm_model s1 m) 230 0 = c ∧ (∃ A', LI (tm_model s1 m) A') ∧ rm s (tm_model s1 m) := by
  obtain ⟨n, rfl, hn⟩ := i3_ex m
  have r0 := run0 h
  by_cases g : qR A = 0
  · by_cases g2 : n = 0 ∨ n = 1
    · obtain ⟨y1, y2, y3⟩ := cmodel h.1 g g2 h.2.1
      obtain ⟨z1, z2, z3, z4⟩ := rmodel h.1 g g2 (LI_mid (A' := A) h y2)
      have e := LI_end (VA_model h.1 g g2) y3 z2 z3
      exact ⟨0, _, fun Ψ hΨ => w208r s _ _ (fun Ψ' h' => m1 s _ y1 h') hΨ, z1, z4, ⟨_, e.1⟩, rm_eq (e.2.1.trans y2.2)⟩
    · obtain ⟨z1, z2⟩ := (tmodel (s := sgone s) (m := n) hn h.1 (RV_gone h.2.2)).2 g g2
      obtain ⟨l1, l2, l3⟩ := LI_thr 2 h
      have d0 : ¬ (i3 n = 0) := by rw [i3_lit, i3_eq (by omega)]; omega
      have d1 : ¬ (i3 n = 1) := by rw [i3_lit, i3_eq (by omega)]; omega
      refine ⟨2, sgone s, fun Ψ hΨ => w208t1 s _ _ (fun Ψ' h' => x1a s _ (by rw [r0]; exact g) d0 d1 h') hΨ, z1, ?_⟩
      rw [z2]
      exact ⟨l3, ⟨A, l1⟩, l2⟩
  · obtain ⟨z1, z2⟩ := (tmodel (s := sgone s) (m := n) hn h.1 (RV_gone h.2.2)).1 g
    obtain ⟨l1, l2, l3⟩ := LI_thr 1 h
    refine ⟨1, sgone s, fun Ψ hΨ => w208t0 s _ _ (fun Ψ' h' => x1b s _ (by rw [r0]; exact g) h') hΨ, z1, ?_⟩
    rw [z2]
    exact ⟨l3, ⟨A, l1⟩, l2⟩
theorem L1 (h : LI s A) (b : Int64) : ∃ c s1, (∀ {xs : Nat → Int32} {Ls : Nat} (Ψ : xO → xH → Prop), Ψ (.inl (some (vi c))) (xhp s1) → xM (xX0 xs Ls) 209 [vr 0 0, vl b, vr 41 243] (xhp s) Ψ) ∧ tm_press_ok s1 b ∧ gI (tm_press s1 b).2 230 0 = c ∧ (c = 0 → gJ (tm_press s1 b).2 243 0 = (tm_press s1 b).1.toInt64) ∧ (∃ A', LI (tm_press s1 b).2 A') ∧ rm s (tm_press s1 b).2 := by
  have r0 := run0 h
  by_cases g : qR A = 0
  · obtain ⟨y1, y2, y3, y4, y5⟩ := cpress (b := b) h.1 g h.2.1
    obtain ⟨a1, a2, a3, a4⟩ := LI_243 (te_press s b).1.toInt64 h.1 y5 (LI_mid (A' := A) h y2) y4
    obtain ⟨z1, z2, z3, z4, z5⟩ := rpress (b := b) h.1 g a1
    have e := LI_end y5 a2 z2 z4
    exact ⟨0, _, fun Ψ hΨ => w209r s _ _ _ (fun Ψ' h' => m2 s _ y1 h') hΨ, z1, z5, fun _ => by rw [e.2.2, a4, z3, y3], ⟨_, e.1⟩, rm_eq (e.2.1.trans (a3.trans y2.2))⟩
  · obtain ⟨z1, z2⟩ := tpress (s := sgone s) (b := b) h.1 g (RV_gone h.2.2)
    obtain ⟨l1, l2, l3⟩ := LI_thr 1 h
    refine ⟨1, sgone s, fun Ψ hΨ => w209t0 s _ _ (fun Ψ' h' => x2a s _ (by rw [r0]; exact g) h') hΨ, z1, ?_⟩
    rw [z2]
    exact ⟨l3, fun q => absurd q (by decide), ⟨A, l1⟩, l2⟩
theorem L2 (h : LI s A) (m : Int32) : ∃ c s1, (∀ {xs : Nat → Int32} {Ls : Nat} (Ψ : xO → xH → Prop), Ψ (.inl (some (vi c))) (xhp s1) → xM (xX0 xs Ls) 210 [vr 0 0, vi m, vr 41 243] (xhp s) Ψ) ∧ tm_run_ok s1 m ∧ gI (tm_run s1 m).2 230 0 = c ∧ (c = 0 → gJ (tm_run s1 m).2 243 0 = (tm_run s1 m).1.toInt64) ∧ (∃ A', LI (tm_run s1 m).2 A') ∧ rm s (tm_run s1 m).2 := by
  obtain ⟨n, rfl, hn⟩ := i3_ex m
  by_cases g : 0 ≤ n ∧ n ≤ 500
  · obtain ⟨k, rfl⟩ : ∃ k : Nat, n = k := ⟨n.toNat, by omega⟩
    obtain ⟨y1, y2, y3, y4, y5⟩ := crun (m := k) h.1 (by omega) h.2.1
    obtain ⟨a1, a2, a3, a4⟩ := LI_243 (te_run s (i3 k)).1.toInt64 h.1 y5 (LI_mid (A' := A) h y2) y4
    obtain ⟨z1, z2, z3, z4, z5⟩ := rrun (m := k) h.1 (by omega) a1
    have e := LI_end y5 a2 z2 z4
    exact ⟨0, _, fun Ψ hΨ => w210r s _ _ _ (fun Ψ' h' => m3 s _ y1 h') hΨ, z1, z5, fun _ => by rw [e.2.2, a4, z3, y3], ⟨_, e.1⟩, rm_eq (e.2.1.trans (a3.trans y2.2))⟩
  · obtain ⟨z1, z2⟩ := trun (s := sgone s) (m := n) hn (by omega)
    obtain ⟨l1, l2, l3⟩ := LI_thr 1 h
    refine ⟨1, sgone s, fun Ψ hΨ => w210t1 s _ _ (fun Ψ' h' => ?_) hΨ, z1, ?_⟩
    · by_cases g0 : n < 0
      · exact x3a s _ (by rw [i3_lit, i3_lt (by omega)]; exact g0) h'
      · exact x3b s _ (by rw [i3_lit, i3_lt (by omega)]; exact g0) (by rw [i3_lit, i3_le (by omega)]; omega) h'
    · rw [z2]
      exact ⟨l3, fun q => absurd q (by decide), ⟨A, l1⟩, l2⟩
theorem L3 (h : LI s A) : te_stop_ok s ∧ tm_stop_ok (te_stop s).2 ∧ (te_stop s).1 = (tm_stop (te_stop s).2).1 ∧ (∃ A', LI (tm_stop (te_stop s).2).2 A') ∧ rm s (tm_stop (te_stop s).2).2 := by
  obtain ⟨y1, y2, y3, y4⟩ := cstop h.1 h.2.1
  obtain ⟨z1, z2, z3, z4⟩ := rstop h.1 (LI_mid (A' := A) h y2)
  have e := LI_end (VA_stop h.1) y4 z2 z4
  exact ⟨y1, z1, by rw [y3, z3], ⟨_, e.1⟩, rm_eq (e.2.1.trans y2.2)⟩
theorem L4 (h : LI s A) (m : Int32) : ∃ c s1, (∀ {xs : Nat → Int32} {Ls : Nat} (Ψ : xO → xH → Prop), Ψ (.inl (some (vi c))) (xhp s1) → xM (xX0 xs Ls) 211 [vr 0 0, vi m, vr 41 243] (xhp s) Ψ) ∧ tm_solve_ok s1 m ∧ gI (tm_solve s1 m).2 230 0 = c ∧ (c = 0 → gJ (tm_solve s1 m).2 243 0 = (tm_solve s1 m).1.toInt64) ∧ (∃ A', LI (tm_solve s1 m).2 A') ∧ rm s (tm_solve s1 m).2 := by
  obtain ⟨n, rfl, hn⟩ := i3_ex m
  have r0 := run0 h
  have hmm := h.1.1.2.1
  have m0 : (gI s 1 2 = 1) = (qM A ≠ 0) := by rw [h.2.1.1.2.1, i3_lit, i3_eq (by omega)]; apply propext; omega
  obtain ⟨t1, t2, t3⟩ := tsolve (s := sgone s) (k := n) hn h.1 (RV_gone h.2.2)
  by_cases g : qR A = 0
  · by_cases gm : qM A = 0
    · by_cases gk : 0 ≤ n ∧ n ≤ 7
      · obtain ⟨y1, y2, y3, y4⟩ := csolve h.1 g gm gk h.2.1
        have hv := VA_solve h.1 g gm gk
        obtain ⟨a1, a2, a3, a4⟩ := LI_243 (te_solve s (i3 n)).1.toInt64 h.1 hv (LI_mid (A' := A) h y2) y4
        obtain ⟨z1, z2, z3, z4, z5⟩ := rsolve h.1 g gm gk a1
        have e := LI_end hv a2 z2 z4
        exact ⟨0, _, fun Ψ hΨ => w211r s _ _ _ (fun Ψ' h' => m5 s _ y1 h') hΨ, z1, z5, fun _ => by rw [e.2.2, a4, z3, y3], ⟨_, e.1⟩, rm_eq (e.2.1.trans (a3.trans y2.2))⟩
      · obtain ⟨z1, z2⟩ := t3 g gm gk
        obtain ⟨l1, l2, l3⟩ := LI_thr 3 h
        refine ⟨3, sgone s, fun Ψ hΨ => w211t1 s _ _ (fun Ψ' h' => ?_) hΨ, z1, ?_⟩
        · have hg : gI s 0 6 = 0 := by rw [r0]; exact g
          have hg2 : ¬ gI s 1 2 = 1 := by rw [m0]; exact fun q => q gm
          by_cases g0 : n < 0
          · exact x5a s _ hg hg2 (by rw [i3_lit, i3_lt (by omega)]; exact g0) h'
          · exact x5b s _ hg hg2 (by rw [i3_lit, i3_lt (by omega)]; exact g0) (by rw [i3_lit, i3_lt (by omega)]; omega) h'
        · rw [z2]
          exact ⟨l3, fun q => absurd q (by decide), ⟨A, l1⟩, l2⟩
    · obtain ⟨z1, z2⟩ := t2 g gm
      obtain ⟨l1, l2, l3⟩ := LI_thr 2 h
      refine ⟨2, sgone s, fun Ψ hΨ => w211t2 s _ _ (fun Ψ' h' => x5c s _ (by rw [r0]; exact g) (fun q => q (by rw [m0]; exact gm)) h') hΨ, z1, ?_⟩
      rw [z2]
      exact ⟨l3, fun q => absurd q (by decide), ⟨A, l1⟩, l2⟩
  · obtain ⟨z1, z2⟩ := t1 g
    obtain ⟨l1, l2, l3⟩ := LI_thr 1 h
    refine ⟨1, sgone s, fun Ψ hΨ => w211t0 s _ _ (fun Ψ' h' => x5d s _ (by rw [r0]; exact g) h') hΨ, z1, ?_⟩
    rw [z2]
    exact ⟨l3, fun q => absurd q (by decide), ⟨A, l1⟩, l2⟩
theorem L5 (h : LI s A) (m : Int32) : ∃ c s1, (∀ {xs : Nat → Int32} {Ls : Nat} (Ψ : xO → xH → Prop), Ψ (.inl (some (vi c))) (xhp s1) → xM (xX0 xs Ls) 212 [vr 0 0, vi m, vr 41 243] (xhp s) Ψ) ∧ tm_shown_ok s1 m ∧ gI (tm_shown s1 m).2 230 0 = c ∧ (c = 0 → gJ (tm_shown s1 m).2 243 0 = (tm_shown s1 m).1) ∧ (∃ A', LI (tm_shown s1 m).2 A') ∧ rm s (tm_shown s1 m).2 := by
  obtain ⟨n, rfl, hn⟩ := i3_ex m
  by_cases g : 0 ≤ n ∧ n ≤ 2
  · obtain ⟨k, rfl⟩ : ∃ k : Nat, n = k := ⟨n.toNat, by omega⟩
    obtain ⟨y1, y2, y3, y4⟩ := cshown (p := k) h.1 (by omega) h.2.1
    obtain ⟨a1, a2, a3, a4⟩ := LI_243 (te_shown s (i3 k)).1 h.1 h.1 (LI_mid (A' := A) h y2) y4
    obtain ⟨z1, z2, z3, z4, z5⟩ := rshown (p := k) h.1 (by omega) a1
    have e := LI_end h.1 a2 z2 z4
    exact ⟨0, _, fun Ψ hΨ => w212r s _ _ _ (fun Ψ' h' => m6 s _ y1 h') hΨ, z1, z5, fun _ => by rw [e.2.2, a4, z3, y3], ⟨_, e.1⟩, rm_eq (e.2.1.trans (a3.trans y2.2))⟩
  · obtain ⟨z1, z2⟩ := tshown (s := sgone s) (p := n) hn g
    obtain ⟨l1, l2, l3⟩ := LI_thr 1 h
    refine ⟨1, sgone s, fun Ψ hΨ => w212t1 s _ _ (fun Ψ' h' => ?_) hΨ, z1, ?_⟩
    · by_cases g0 : n < 0
      · exact x6a s _ (by rw [i3_lit, i3_lt (by omega)]; exact g0) h'
      · exact x6b s _ (by rw [i3_lit, i3_lt (by omega)]; exact g0) (by rw [i3_lit, i3_le (by omega)]; omega) h'
    · rw [z2]
      exact ⟨l3, fun q => absurd q (by decide), ⟨A, l1⟩, l2⟩
theorem L6 (h : LI s A) (m : Int32) : ∃ c s1, (∀ {xs : Nat → Int32} {Ls : Nat} (Ψ : xO → xH → Prop), Ψ (.inl (some (vi c))) (xhp s1) → xM (xX0 xs Ls) 213 [vr 0 0, vi m, vr 41 243] (xhp s) Ψ) ∧ tm_digits_ok s1 m ∧ gI (tm_digits s1 m).2 230 0 = c ∧ (c = 0 → gJ (tm_digits s1 m).2 243 0 = (tm_digits s1 m).1) ∧ (∃ A', LI (tm_digits s1 m).2 A') ∧ rm s (tm_digits s1 m).2 := by
  obtain ⟨n, rfl, hn⟩ := i3_ex m
  by_cases g : 0 ≤ n ∧ n ≤ 14
  · obtain ⟨k, rfl⟩ : ∃ k : Nat, n = k := ⟨n.toNat, by omega⟩
    obtain ⟨y1, y3⟩ := cdigits (w := k) (s := s) (by omega) h.2.1
    obtain ⟨a1, a2, a3, a4⟩ := LI_243 (te_digits s (i3 k)) h.1 h.1 h.2.2 h.2.1
    obtain ⟨z1, z2, z3, z4, z5⟩ := rdigits (w := k) h.1 (by omega) a1
    have e := LI_end h.1 a2 z2 z4
    exact ⟨0, _, fun Ψ hΨ => w213r s s _ _ (fun Ψ' h' => m7 s _ y1 h') hΨ, z1, z5, fun _ => by rw [e.2.2, a4, z3, y3], ⟨_, e.1⟩, rm_eq (e.2.1.trans a3)⟩
  · obtain ⟨z1, z2⟩ := (tdigits (s := sgone s) (w := n) hn g).1
    obtain ⟨l1, l2, l3⟩ := LI_thr 1 h
    refine ⟨1, sgone s, fun Ψ hΨ => w213t3 s _ _ (fun Ψ' h' => ?_) hΨ, z1, ?_⟩
    · by_cases g0 : n < 0
      · exact x7a s _ (by rw [i3_lit, i3_lt (by omega)]; exact g0) h'
      · exact x7b s _ (by rw [i3_lit, i3_lt (by omega)]; exact g0) (by rw [i3_lit, i3_lt (by omega)]; omega) h'
    · rw [z2]
      exact ⟨l3, fun q => absurd q (by decide), ⟨A, l1⟩, l2⟩
theorem L7 (h : LI s A) (m : Int32) : ∃ c s1, (∀ {xs : Nat → Int32} {Ls : Nat} (Ψ : xO → xH → Prop), Ψ (.inl (some (vi c))) (xhp s1) → xM (xX0 xs Ls) 214 [vr 0 0, vi m, vr 41 243] (xhp s) Ψ) ∧ tm_exponent_ok s1 m ∧ gI (tm_exponent s1 m).2 230 0 = c ∧ (c = 0 → gJ (tm_exponent s1 m).2 243 0 = (tm_exponent s1 m).1.toInt64) ∧ (∃ A', LI (tm_exponent s1 m).2 A') ∧ rm s (tm_exponent s1 m).2 := by
  obtain ⟨n, rfl, hn⟩ := i3_ex m
  by_cases g : 0 ≤ n ∧ n ≤ 14
  · obtain ⟨k, rfl⟩ : ∃ k : Nat, n = k := ⟨n.toNat, by omega⟩
    obtain ⟨y1, y3⟩ := cexponent (w := k) (s := s) (by omega) h.2.1
    obtain ⟨a1, a2, a3, a4⟩ := LI_243 (te_exponent s (i3 k)).toInt64 h.1 h.1 h.2.2 h.2.1
    obtain ⟨z1, z2, z3, z4, z5⟩ := rexponent (w := k) h.1 (by omega) a1
    have e := LI_end h.1 a2 z2 z4
    exact ⟨0, _, fun Ψ hΨ => w214r s s _ _ (fun Ψ' h' => m8 s _ y1 h') hΨ, z1, z5, fun _ => by rw [e.2.2, a4, z3, y3], ⟨_, e.1⟩, rm_eq (e.2.1.trans a3)⟩
  · obtain ⟨z1, z2⟩ := (tdigits (s := sgone s) (w := n) hn g).2
    obtain ⟨l1, l2, l3⟩ := LI_thr 1 h
    refine ⟨1, sgone s, fun Ψ hΨ => w214t3 s _ _ (fun Ψ' h' => ?_) hΨ, z1, ?_⟩
    · by_cases g0 : n < 0
      · exact x8a s _ (by rw [i3_lit, i3_lt (by omega)]; exact g0) h'
      · exact x8b s _ (by rw [i3_lit, i3_lt (by omega)]; exact g0) (by rw [i3_lit, i3_lt (by omega)]; omega) h'
    · rw [z2]
      exact ⟨l3, fun q => absurd q (by decide), ⟨A, l1⟩, l2⟩
theorem L8 (h : LI s A) (m b : Int32) : ∃ c s1, (∀ {xs : Nat → Int32} {Ls : Nat} (Ψ : xO → xH → Prop), Ψ (.inl (some (vi c))) (xhp s1) → xM (xX0 xs Ls) 215 [vr 0 0, vi m, vi b] (xhp s) Ψ) ∧ gI (tm_mode s1 m b) 230 0 = c ∧ (∃ A', LI (tm_mode s1 m b) A') ∧ rm s (tm_mode s1 m b) := by
  obtain ⟨n, rfl, hn⟩ := i3_ex m
  obtain ⟨k, rfl, hk⟩ := i3_ex b
  by_cases g : (0 ≤ n ∧ n ≤ 1) ∧ 0 ≤ k ∧ k ≤ 9
  · obtain ⟨y1, y2, y3⟩ := cmode h.1 g.1 g.2 h.2.1
    obtain ⟨z2, z3, z4⟩ := rmode h.1 g.1 g.2 (LI_mid (A' := A) h y2)
    have e := LI_end (VA_mode h.1 g.2) y3 z2 z3
    exact ⟨0, _, fun Ψ hΨ => w215r s _ _ _ (fun Ψ' h' => m9 s _ _ y1 h') hΨ, z4, ⟨_, e.1⟩, rm_eq (e.2.1.trans y2.2)⟩
  · have z2 := tmode (s := sgone s) (k := n) (m := k) hn hk g
    obtain ⟨l1, l2, l3⟩ := LI_thr 1 h
    refine ⟨1, sgone s, fun Ψ hΨ => w215t1 s _ _ _ (fun Ψ' h' => ?_) hΨ, ?_⟩
    · have c0 : (i3 n < 0) = (n < 0) := by rw [i3_lit, i3_lt (by omega)]
      have c1 : ((1 : Int32) < i3 n) = (1 < n) := by rw [i3_lit, i3_lt (by omega)]
      have c2 : (i3 k < 0) = (k < 0) := by rw [i3_lit, i3_lt (by omega)]
      have c3 : (i3 k ≤ 9) = (k ≤ 9) := by rw [i3_lit, i3_le (by omega)]
      by_cases g0 : n < 0
      · exact x9a s _ _ (by rw [c0]; exact g0) h'
      · by_cases g1 : 1 < n
        · exact x9b s _ _ (by rw [c0]; exact g0) (by rw [c1]; exact g1) h'
        · by_cases g2 : k < 0
          · exact x9c s _ _ (by rw [c0]; exact g0) (by rw [c1]; exact g1) (by rw [c2]; exact g2) h'
          · exact x9d s _ _ (by rw [c0]; exact g0) (by rw [c1]; exact g1) (by rw [c2]; exact g2) (by rw [c3]; omega) h'
    · rw [z2]
      exact ⟨l3, ⟨A, l1⟩, l2⟩
theorem L9 (h : LI s A) (m : Int32) (b : Int64) : ∃ c s1, (∀ {xs : Nat → Int32} {Ls : Nat} (Ψ : xO → xH → Prop), Ψ (.inl (some (vi c))) (xhp s1) → xM (xX0 xs Ls) 216 [vr 0 0, vi m, vl b] (xhp s) Ψ) ∧ tm_store_ok s1 m b ∧ gI (tm_store s1 m b) 230 0 = c ∧ (∃ A', LI (tm_store s1 m b) A') ∧ rm s (tm_store s1 m b) := by
  obtain ⟨n, rfl, hn⟩ := i3_ex m
  have r0 := run0 h
  obtain ⟨t1, t2⟩ := tstore (s := sgone s) (p := n) (b := b) hn h.1 (RV_gone h.2.2)
  by_cases g : qR A = 0
  · by_cases g2 : 0 ≤ n ∧ n ≤ 92
    · obtain ⟨k, rfl⟩ : ∃ k : Nat, n = k := ⟨n.toNat, by omega⟩
      obtain ⟨y1, y2, y3⟩ := cstore (p := k) (b := b) h.1 g (by omega) h.2.1
      obtain ⟨z1, z2, z3, z4⟩ := rstore (p := k) (b := b) h.1 g (by omega) (LI_mid (A' := A) h y2)
      have e := LI_end (VA_store h.1 g) y3 z2 z3
      exact ⟨0, _, fun Ψ hΨ => w216r s _ _ _ (fun Ψ' h' => m10 s _ _ y1 h') hΨ, z1, z4, ⟨_, e.1⟩, rm_eq (e.2.1.trans y2.2)⟩
    · obtain ⟨z1, z2⟩ := t2 g g2
      obtain ⟨l1, l2, l3⟩ := LI_thr 2 h
      refine ⟨2, sgone s, fun Ψ hΨ => w216t3 s _ _ _ (fun Ψ' h' => ?_) hΨ, z1, ?_⟩
      · have hg : gI s 0 6 = 0 := by rw [r0]; exact g
        by_cases g0 : n < 0
        · exact x10a s _ _ hg (by rw [i3_lit, i3_lt (by omega)]; exact g0) h'
        · exact x10b s _ _ hg (by rw [i3_lit, i3_lt (by omega)]; exact g0) (by rw [i3_lit, i3_le (by omega)]; omega) h'
      · rw [z2]
        exact ⟨l3, ⟨A, l1⟩, l2⟩
  · obtain ⟨z1, z2⟩ := t1 g
    obtain ⟨l1, l2, l3⟩ := LI_thr 1 h
    refine ⟨1, sgone s, fun Ψ hΨ => w216t0 s _ _ _ (fun Ψ' h' => x10c s _ _ (by rw [r0]; exact g) h') hΨ, z1, ?_⟩
    rw [z2]
    exact ⟨l3, ⟨A, l1⟩, l2⟩
theorem L10 (h : LI s A) (m : Int32) : ∃ c s1, (∀ {xs : Nat → Int32} {Ls : Nat} (Ψ : xO → xH → Prop), Ψ (.inl (some (vi c))) (xhp s1) → xM (xX0 xs Ls) 217 [vr 0 0, vi m, vr 41 243] (xhp s) Ψ) ∧ tm_code_ok s1 m ∧ gI (tm_code s1 m).2 230 0 = c ∧ (c = 0 → gJ (tm_code s1 m).2 243 0 = (tm_code s1 m).1.toInt64) ∧ (∃ A', LI (tm_code s1 m).2 A') ∧ rm s (tm_code s1 m).2 := by
  obtain ⟨n, rfl, hn⟩ := i3_ex m
  by_cases g : 0 ≤ n ∧ n ≤ 99
  · obtain ⟨k, rfl⟩ : ∃ k : Nat, n = k := ⟨n.toNat, by omega⟩
    obtain ⟨y1, y3⟩ := ccode (p := k) (s := s) (by omega) h.2.1
    obtain ⟨a1, a2, a3, a4⟩ := LI_243 (te_code s (i3 k)).toInt64 h.1 h.1 h.2.2 h.2.1
    obtain ⟨z1, z2, z3, z4, z5⟩ := rcode (p := k) h.1 (by omega) a1
    have e := LI_end h.1 a2 z2 z4
    exact ⟨0, _, fun Ψ hΨ => w217r s s _ _ (fun Ψ' h' => m11 s _ y1 h') hΨ, z1, z5, fun _ => by rw [e.2.2, a4, z3, y3], ⟨_, e.1⟩, rm_eq (e.2.1.trans a3)⟩
  · obtain ⟨z1, z2⟩ := tcode (s := sgone s) (p := n) hn g
    obtain ⟨l1, l2, l3⟩ := LI_thr 1 h
    refine ⟨1, sgone s, fun Ψ hΨ => w217t3 s _ _ (fun Ψ' h' => ?_) hΨ, z1, ?_⟩
    · by_cases g0 : n < 0
      · exact x11a s _ (by rw [i3_lit, i3_lt (by omega)]; exact g0) h'
      · exact x11b s _ (by rw [i3_lit, i3_lt (by omega)]; exact g0) (by rw [i3_lit, i3_lt (by omega)]; omega) h'
    · rw [z2]
      exact ⟨l3, fun q => absurd q (by decide), ⟨A, l1⟩, l2⟩
theorem L11 (h : LI s A) (b : Int64) : te_type_ok s b ∧ tm_type_ok (te_type s b).2 b ∧ (te_type s b).1 = (tm_type (te_type s b).2 b).1 ∧ (∃ A', LI (tm_type (te_type s b).2 b).2 A') ∧ rm s (tm_type (te_type s b).2 b).2 := by
  obtain ⟨y1, y2, y3, y4⟩ := ctype (b := b) h.1 h.2.1
  obtain ⟨z1, z2, z3, z4⟩ := rtype (b := b) h.1 (LI_mid (A' := A) h y2)
  have e := LI_end (VA_type h.1) y4 z2 z4
  exact ⟨y1, z1, by rw [y3, z3], ⟨_, e.1⟩, rm_eq (e.2.1.trans y2.2)⟩
theorem L12 (h : LI s A) : (te_wipe s).1 = (tm_wipe (te_wipe s).2).1 ∧ (∃ A', LI (tm_wipe (te_wipe s).2).2 A') ∧ rm s (tm_wipe (te_wipe s).2).2 := by
  obtain ⟨y2, y3, y4⟩ := cwipe h.1 h.2.1
  obtain ⟨z2, z3, z4⟩ := rwipe h.1 (LI_mid (A' := A) h y2)
  have e := LI_end (VA_wipe h.1) y4 z2 z4
  exact ⟨by rw [y3, z3], ⟨_, e.1⟩, rm_eq (e.2.1.trans y2.2)⟩
theorem L13 (h : LI s A) : te_translate_ok s ∧ tm_translate_ok (te_translate s).2 ∧ (te_translate s).1 = (tm_translate (te_translate s).2).1 ∧ (∃ A', LI (tm_translate (te_translate s).2).2 A') ∧ rm s (tm_translate (te_translate s).2).2 := by
  obtain ⟨y1, y2, y3, y4⟩ := ctrans h.1 h.2.1
  obtain ⟨z1, z2, z3, z4⟩ := rtrans h.1 (LI_mid (A' := A) h y2)
  have e := LI_end (VA_trans h.1) y4 z2 z4
  exact ⟨y1, z1, by rw [y3, z3], ⟨_, e.1⟩, rm_eq (e.2.1.trans y2.2)⟩
theorem L14 (h : LI s A) (m : Int32) : ∃ c s1, (∀ {xs : Nat → Int32} {Ls : Nat} (Ψ : xO → xH → Prop), Ψ (.inl (some (vi c))) (xhp s1) → xM (xX0 xs Ls) 218 [vr 0 0, vi m, vr 41 243] (xhp s) Ψ) ∧ tm_out_ok s1 m ∧ gI (tm_out s1 m).2 230 0 = c ∧ (c = 0 → gJ (tm_out s1 m).2 243 0 = (tm_out s1 m).1.toInt64) ∧ (∃ A', LI (tm_out s1 m).2 A') ∧ rm s (tm_out s1 m).2 := by
  obtain ⟨n, rfl, hn⟩ := i3_ex m
  have h100 := h.1.2.2.2.2.2.2.2.2
  by_cases g : 0 ≤ n ∧ n < qOn A
  · obtain ⟨k, rfl⟩ : ∃ k : Nat, n = k := ⟨n.toNat, by omega⟩
    obtain ⟨y1, y3⟩ := cout1 (i := k) (s := s) h.1 (by omega) h.2.1
    obtain ⟨a1, a2, a3, a4⟩ := LI_243 (te_out s (i3 k)).toInt64 h.1 h.1 h.2.2 h.2.1
    obtain ⟨z1, z2, z3, z4, z5⟩ := rout1 (i := k) h.1 (by omega) a1
    have e := LI_end h.1 a2 z2 z4
    exact ⟨0, _, fun Ψ hΨ => w218r s s _ _ (fun Ψ' h' => m15 s _ y1 h') hΨ, z1, z5, fun _ => by rw [e.2.2, a4, z3, y3], ⟨_, e.1⟩, rm_eq (e.2.1.trans a3)⟩
  · obtain ⟨z1, z2⟩ := tout (s := sgone s) (i := n) hn g h.1 (RV_gone h.2.2)
    obtain ⟨l1, l2, l3⟩ := LI_thr 1 h
    refine ⟨1, sgone s, fun Ψ hΨ => w218t3 s _ _ (fun Ψ' h' => ?_) hΨ, z1, ?_⟩
    · have c1 : (i3 n < gI s 225 1) = (n < qOn A) := by rw [h.2.1.2.2.2.2.2.2.2.2.2.1, i3_lt (by omega)]
      by_cases g0 : n < 0
      · exact x15a s _ (by rw [i3_lit, i3_lt (by omega)]; exact g0) h'
      · exact x15b s _ (by rw [i3_lit, i3_lt (by omega)]; exact g0) (by rw [c1]; omega) h'
    · rw [z2]
      exact ⟨l3, fun q => absurd q (by decide), ⟨A, l1⟩, l2⟩
theorem L15 (h : LI s A) : ∃ c s1, (∀ {xs : Nat → Int32} {Ls : Nat} (Ψ : xO → xH → Prop), Ψ (.inl (some (vi c))) (xhp s1) → xM (xX0 xs Ls) 219 [vr 0 0, vr 41 243] (xhp s) Ψ) ∧ tm_undo_ok s1 ∧ gI (tm_undo s1).2 230 0 = c ∧ (c = 0 → gJ (tm_undo s1).2 243 0 = (bif (tm_undo s1).1 then 1 else 0)) ∧ (∃ A', LI (tm_undo s1).2 A') ∧ rm s (tm_undo s1).2 := by
  have r0 := run0 h
  by_cases g : qR A = 0
  · obtain ⟨y1, y2, y3, y4⟩ := cundo h.1 g h.2.1
    have hv := VA_undo h.1 g
    obtain ⟨a1, a2, a3, a4⟩ := LI_243 (bif (te_undo s).1 then 1 else 0) h.1 hv (LI_mid (A' := A) h y2) y4
    obtain ⟨z1, z2, z3, z4, z5⟩ := rundo h.1 g a1
    have e := LI_end hv a2 z2 z4
    exact ⟨0, _, fun Ψ hΨ => w219r s _ _ (fun Ψ' h' => m16 s y1 h') hΨ, z1, z5, fun _ => by rw [e.2.2, a4, z3, y3], ⟨_, e.1⟩, rm_eq (e.2.1.trans (a3.trans y2.2))⟩
  · obtain ⟨z1, z2⟩ := tundo (s := sgone s) h.1 g (RV_gone h.2.2)
    obtain ⟨l1, l2, l3⟩ := LI_thr 1 h
    refine ⟨1, sgone s, fun Ψ hΨ => w219t0 s _ (fun Ψ' h' => x16a s (by rw [r0]; exact g) h') hΨ, z1, ?_⟩
    rw [z2]
    exact ⟨l3, fun q => absurd q (by decide), ⟨A, l1⟩, l2⟩
theorem L16 (h : LI s A) (m : Int32) : te_state s m = (tm_state s m).1 ∧ (∃ A', LI (tm_state s m).2 A') ∧ rm s (tm_state s m).2 := by
  obtain ⟨n, rfl, hn⟩ := i3_ex m
  obtain ⟨z2, z3, z4⟩ := rstate hn h.1 h.2.2
  have e := LI_end h.1 h.2.1 z2 z4
  exact ⟨by rw [cstate hn h.1 h.2.1, z3], ⟨_, e.1⟩, rm_eq e.2.1⟩
end LL
