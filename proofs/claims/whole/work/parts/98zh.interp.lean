/-! THE CONSTRUCTORS, run by the kernel: the interpreter -/
def lstep (q : xT) (pc : Nat) (L : xL) (st : List xV) (H : lH) : Option (Nat × xL × List xV × lH) := match q.1 with
  | .aload_n n => (match xld L n with
    | some (.inr w) => some (pc + q.2.1, L, .inr w :: st, H)
    | _ => none)
  | .iload_n n => (match xld L n with
    | some (.inl (.inl x)) => some (pc + q.2.1, L, vi x :: st, H)
    | _ => none)
  | .iconst _ => some (pc + q.2.1, L, q.2.2.2.2 :: st, H)
  | .bipush _ => some (pc + q.2.1, L, q.2.2.2.2 :: st, H)
  | .sipush _ => some (pc + q.2.1, L, q.2.2.2.2 :: st, H)
  | .getstatic _ => some (pc + q.2.1, L, q.2.2.2.2 :: st, H)
  | .dup => (match st with
    | x :: r => bif Nat.beq (xcat x) 1 then some (pc + q.2.1, L, x :: x :: r, H) else none
    | [] => none)
  | .new _ => bif Nat.blt q.2.2.1 40 then some (pc + q.2.1, L, vr q.2.2.1 H.1.length :: st, lnew H q.2.2.1 q.2.2.2.1) else none
  | .newarray _ => (match st with
    | .inl (.inl x) :: r => if ¬ x < 0 ∧ x.toNatClampNeg ≤ 10000 then some (pc + q.2.1, L, vr q.2.2.1 H.1.length :: r, lnew H q.2.2.1 x.toNatClampNeg) else none
    | _ => none)
  | .anewarray _ => (match st with
    | .inl (.inl x) :: r => if ¬ x < 0 ∧ x.toNatClampNeg ≤ 10000 then some (pc + q.2.1, L, vr q.2.2.1 H.1.length :: r, lnew H q.2.2.1 x.toNatClampNeg) else none
    | _ => none)
  | .putfield _ => (match q.2.2.1 with
    | 0 => (match st with
      | .inl (.inl x) :: .inr (some p) :: r => if Nat.beq p.1 (xci q.2.2.2.2) = true ∧ p.2 < H.1.length then some (pc + q.2.1, L, r, lsI H p.2 q.2.2.2.1 x) else none
      | _ => none)
    | 1 => (match st with
      | .inl (.inr x) :: .inr (some p) :: r => if Nat.beq p.1 (xci q.2.2.2.2) = true ∧ p.2 < H.1.length then some (pc + q.2.1, L, r, lsJ H p.2 q.2.2.2.1 x) else none
      | _ => none)
    | 2 => none
    | kk + 3 => (match st with
      | .inr (some p1) :: .inr (some p) :: r => if (Nat.beq p.1 (xci q.2.2.2.2) && Nat.beq p1.1 kk) = true ∧ p.2 < H.1.length then some (pc + q.2.1, L, r, lsR H p.2 q.2.2.2.1 (p1.2 + 1)) else none
      | _ => none))
  | .getfield _ => (match q.2.2.1 with
    | 0 => none
    | 1 => none
    | kk + 2 => (match st with
      | .inr (some p) :: r => if Nat.beq p.1 (xci q.2.2.2.2) = true then (match (lcg H.1 p.2).2.2.1.getD q.2.2.2.1 0 with
        | 0 => none
        | z + 1 => if Nat.beq (lcg H.1 z).1 kk = true then some (pc + q.2.1, L, vr kk z :: r, H) else none) else none
      | _ => none))
  | .iinc n _ => (match xld L n with
    | some (.inl (.inl x)) => some (pc + q.2.1, xst1 L n (vi (x + xco q.2.2.2.2)), st, H)
    | _ => none)
  | .istore_n n => (match st with
    | .inl (.inl x) :: r => some (pc + q.2.1, xst1 L n (vi x), r, H)
    | _ => none)
  | .if_icmp cond _ => (match st with
    | .inl (.inl y) :: .inl (.inl x) :: r => (match cond with
      | .ge => if y ≤ x then some (q.2.2.1, L, r, H) else some (pc + q.2.1, L, r, H)
      | .gt => if y < x then some (q.2.2.1, L, r, H) else some (pc + q.2.1, L, r, H)
      | _ => none)
    | _ => none)
  | .goto _ => some (q.2.2.1, L, st, H)
  | .aastore => (match st with
    | .inr (some p1) :: .inl (.inl x) :: .inr (some p) :: r => if (Nat.beq p.1 (60 + p1.1) && xoa p.1) = true ∧ (decide (¬ (x < 0 ∨ (lcg H.1 p.2).2.1 ≤ x.toNatClampNeg))) = true ∧ p.2 < H.1.length then some (pc + q.2.1, L, r, lsR H p.2 x.toNatClampNeg (p1.2 + 1)) else none
    | _ => none)
  | .aaload => (match st with
    | .inl (.inl x) :: .inr (some p) :: r => if xoa p.1 = true ∧ (decide (¬ (x < 0 ∨ (lcg H.1 p.2).2.1 ≤ x.toNatClampNeg))) = true then (match (lcg H.1 p.2).2.2.1.getD x.toNatClampNeg 0 with
      | 0 => none
      | z + 1 => if Nat.beq (lcg H.1 z).1 (p.1 - 60) = true then some (pc + q.2.1, L, vr (p.1 - 60) z :: r, H) else none) else none
    | _ => none)
  | .i2l => (match st with
    | .inl (.inl x) :: r => some (pc + q.2.1, L, vl x.toInt64 :: r, H)
    | _ => none)
  | .lmul => (match st with
    | .inl (.inr y) :: .inl (.inr x) :: r => some (pc + q.2.1, L, vl (x * y) :: r, H)
    | _ => none)
  | .laload => (match st with
    | .inl (.inl x) :: .inr (some p) :: r => if p.1 = 51 ∧ (decide (¬ (x < 0 ∨ 19 ≤ x.toNatClampNeg))) = true then some (pc + q.2.1, L, vl (xtens.getD x.toNatClampNeg 0) :: r, H) else none
    | _ => none)
  | _ => none
set_option maxHeartbeats 4000000 in
theorem lstep_ok {xs : Nat → Int32} {Ls : Nat} {q : xT} {pc pc1 : Nat} {L L1 : xL} {st st1 : List xV} {H H1 : lH} (h : lstep q pc L st H = some (pc1, L1, st1, H1)) (d : Nat) (C : Nat → List xV → xH → xO → xH → Prop) (hd : xB) (o : xO) (h' : xH) (K : Nat → xL → List xV → xH → Prop) (hk : K pc1 L1 st1 (den H1)) : xDo (xX0 xs Ls) d C hd q.1 q.2.1 q.2.2.1 q.2.2.2.1 q.2.2.2.2 pc L st (den H) o h' K := by
  obtain ⟨i, len, a, b, v⟩ := q
  dsimp only
  cases i with
  | aload_n n =>
    simp only [lstep] at h
    split at h
    · rename_i w e
      cases h
      simp only [xDo, xaldr]
      rw [e]
      exact hk
    · cases h
  | iload_n n =>
    simp only [lstep] at h
    split at h
    · rename_i w e
      cases h
      simp only [xDo, xildr]
      rw [e]
      exact hk
    · cases h
  | iconst n => cases h; exact hk
  | bipush n => cases h; exact hk
  | sipush n => cases h; exact hk
  | getstatic n => cases h; exact hk
  | dup =>
    simp only [lstep] at h
    split at h
    · rename_i x r
      simp only [xDo, xv1]
      cases hc : Nat.beq (xcat x) 1 with
      | true => rw [hc] at h; cases h; exact hk
      | false => rw [hc] at h; cases h
    · cases h
  | new n =>
    simp only [lstep] at h
    simp only [xDo]
    cases hc : Nat.blt a 40 with
    | true =>
      rw [hc] at h
      cases h
      show K _ _ _ (xnew (den H) a b)
      rw [den_new]
      exact hk
    | false => rw [hc] at h; cases h
  | newarray n =>
    simp only [lstep] at h
    split at h
    · rename_i x r
      split at h
      · rename_i hx
        cases h
        simp only [xDo, xi1]
        refine ⟨hx.1, hx.2, ?_⟩
        rw [den_new]
        exact hk
      · cases h
    · cases h
  | anewarray n =>
    simp only [lstep] at h
    split at h
    · rename_i x r
      split at h
      · rename_i hx
        cases h
        simp only [xDo, xi1]
        refine ⟨hx.1, hx.2, ?_⟩
        rw [den_new]
        exact hk
      · cases h
    · cases h
  | putfield n =>
    simp only [lstep] at h
    rcases a with _ | _ | _ | a
    · dsimp only at h
      split at h
      · rename_i x p r
        split at h
        · rename_i hx
          cases h
          simp only [xDo, xi1, xa1]
          rw [hx.1]
          show K _ _ _ (xuI (den H) p.2 b x)
          rw [den_sI _ _ hx.2]
          exact hk
        · cases h
      · cases h
    · dsimp only at h
      split at h
      · rename_i x p r
        split at h
        · rename_i hx
          cases h
          simp only [xDo, xj1, xa1]
          rw [hx.1]
          show K _ _ _ (xuJ (den H) p.2 b x)
          rw [den_sJ _ _ hx.2]
          exact hk
        · cases h
      · cases h
    · cases h
    · dsimp only at h
      split at h
      · rename_i p1 p r
        split at h
        · rename_i hx
          cases h
          simp only [xDo, xa1]
          rw [hx.1]
          show K _ _ _ (xuR (den H) p.2 b (p1.2 + 1))
          rw [den_sR _ _ hx.2]
          exact hk
        · cases h
      · cases h
  | getfield n =>
    simp only [lstep] at h
    rcases a with _ | _ | a
    · cases h
    · cases h
    · dsimp only at h
      split at h
      · rename_i p r
        split at h
        · rename_i hx
          split at h
          · cases h
          · rename_i z hz
            split at h
            · rename_i hb
              cases h
              simp only [xDo, xa1]
              rw [hx, cond_true]
              show xrd (den H) ((lcg H.1 p.2).2.2.1.getD b 0) a _
              rw [hz]
              show bif Nat.beq (lcg H.1 z).1 a then _ else _
              rw [hb]
              exact hk
            · cases h
        · cases h
      · cases h
  | iinc n m =>
    simp only [lstep] at h
    split at h
    · rename_i w e
      cases h
      simp only [xDo, xildr]
      rw [e]
      exact hk
    · cases h
  | istore_n n =>
    simp only [lstep] at h
    split at h
    · cases h; exact hk
    · cases h
  | if_icmp cond n =>
    simp only [lstep] at h
    split at h
    · rename_i y x r
      cases cond with
      | ge =>
        dsimp only at h
        simp only [xDo, xi1, xifc]
        split at h
        · rename_i hc
          cases h
          exact ⟨fun _ => hk, fun q => absurd hc q⟩
        · rename_i hc
          cases h
          exact ⟨fun q => absurd q hc, fun _ => hk⟩
      | gt =>
        dsimp only at h
        simp only [xDo, xi1, xifc]
        split at h
        · rename_i hc
          cases h
          exact ⟨fun _ => hk, fun q => absurd hc q⟩
        · rename_i hc
          cases h
          exact ⟨fun q => absurd q hc, fun _ => hk⟩
      | _ => cases h
    · cases h
  | goto n => cases h; exact hk
  | aastore =>
    simp only [lstep] at h
    split at h
    · rename_i p1 x p r
      split at h
      · rename_i hx
        cases h
        simp only [xDo, xa1, xi1]
        rw [hx.1]
        refine ⟨vp_lit hx.2.1, ?_⟩
        rw [den_sR _ _ hx.2.2]
        exact hk
      · cases h
    · cases h
  | aaload =>
    simp only [lstep] at h
    split at h
    · rename_i x p r
      split at h
      · rename_i hx
        split at h
        · cases h
        · rename_i z hz
          split at h
          · rename_i hb
            cases h
            simp only [xDo, xa1, xi1]
            rw [hx.1]
            refine ⟨vp_lit hx.2, ?_⟩
            show xrd (den H) ((lcg H.1 p.2).2.2.1.getD x.toNatClampNeg 0) (p.1 - 60) _
            rw [hz]
            show bif Nat.beq (lcg H.1 z).1 (p.1 - 60) then _ else _
            rw [hb]
            exact hk
          · cases h
      · cases h
    · cases h
  | i2l =>
    simp only [lstep] at h
    split at h
    · cases h; exact hk
    · cases h
  | lmul =>
    simp only [lstep] at h
    split at h
    · cases h; exact hk
    · cases h
  | laload =>
    simp only [lstep] at h
    split at h
    · rename_i x p r
      split at h
      · rename_i hx
        cases h
        simp only [xDo, xa1, xi1]
        rw [hx.1]
        exact ⟨vp_lit hx.2, hk⟩
      · cases h
    · cases h
  | _ => cases h
theorem xW.one {X : xX} {P : xP} {pc pc1 : Nat} {L L1 : xL} {st st1 : List xV} {h h1 : xH} {Φ : Option xV → xH → Prop} {q : xT} (hq : P.1 pc = some q) (hk : ∀ (d : Nat) (C : Nat → List xV → xH → xO → xH → Prop) (o : xO) (h' : xH) (K : Nat → xL → List xV → xH → Prop), K pc1 L1 st1 h1 → xDo X d C P.2.1 q.1 q.2.1 q.2.2.1 q.2.2.2.1 q.2.2.2.2 pc L st h o h' K) (g : xW X P pc1 L1 st1 h1 Φ) : xW X P pc L st h Φ := by
  obtain ⟨v, h', n, d, hn, hv⟩ := g
  refine ⟨v, h', n + 1, d, ?_, hv⟩
  unfold xC
  rw [hq]
  exact hk _ _ _ _ _ hn
/-- a call, as the interpreter has it -/
def lcall (R : xP → Nat → xL → List xV → lH → Option lH) (P : xP) (pc : Nat) (L : xL) (st : List xV) (H : lH) (q : xT) : Option lH := match st.drop (q.2.2.2.1 - 1) with
  | .inr (some p) :: _ => if Nat.beq p.1 (xci q.2.2.2.2) = true ∧ (Nat.ble q.2.2.2.1 st.length && Nat.ble (xwd (st.drop q.2.2.2.1)) 8) = true ∧ Nat.ble (xwd (st.take q.2.2.2.1).reverse) (xtt q.2.2.1).2.2 = true then (match R (xtt q.2.2.1) 0 (xarg 0 (st.take q.2.2.2.1).reverse) [] H with
    | some H1 => R P (pc + q.2.1) L (st.drop q.2.2.2.1) H1
    | none => none) else none
  | _ => none
/-- one row, and on -/
def lgo (R : xP → Nat → xL → List xV → lH → Option lH) (P : xP) (pc : Nat) (L : xL) (st : List xV) (H : lH) (q : xT) : Option lH := match q.1 with
  | .return_ => (match st with
    | [] => some H
    | _ => none)
  | .invokespecial _ => bif Nat.beq q.2.2.1 999 then (match st with
      | .inr (some _) :: r => bif Nat.ble (xwd r) 8 then R P (pc + q.2.1) L r H else none
      | _ => none)
    else lcall R P pc L st H q
  | .invokevirtual _ => lcall R P pc L st H q
  | _ => (match lstep q pc L st H with
    | some z => R P z.1 z.2.1 z.2.2.1 z.2.2.2
    | none => none)
/-- a method without a result, from a place on -/
def lrun : Nat → xP → Nat → xL → List xV → lH → Option lH
  | 0 => fun _ _ _ _ _ => none
  | n + 1 => fun P pc L st H => match P.1 pc with
    | none => none
    | some q => lgo (lrun n) P pc L st H q
