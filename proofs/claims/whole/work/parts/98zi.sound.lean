/-! THE CONSTRUCTORS, run by the kernel: the interpreter is right -/
theorem lcall_ok {xs : Nat → Int32} {Ls : Nat} {R : xP → Nat → xL → List xV → lH → Option lH} {P : xP} {pc : Nat} {L : xL} {st : List xV} {H H' : lH} {q : xT} (hq : P.1 pc = some q)
    (hd : ∀ (d : Nat) (C : Nat → List xV → xH → xO → xH → Prop) (o : xO) (h' : xH) (K : Nat → xL → List xV → xH → Prop), xrecv st q.2.2.2.1 (xci q.2.2.2.2) (xcall C P.2.1 pc q.2.1 q.2.2.1 q.2.2.2.1 L st (den H) K) → xDo (xX0 xs Ls) d C P.2.1 q.1 q.2.1 q.2.2.1 q.2.2.2.1 q.2.2.2.2 pc L st (den H) o h' K)
    (ih : ∀ (P : xP) (pc : Nat) (L : xL) (st : List xV) (H H' : lH), R P pc L st H = some H' → ∀ Φ : Option xV → xH → Prop, Φ none (den H') → xW (xX0 xs Ls) P pc L st (den H) Φ)
    (h : lcall R P pc L st H q = some H') (Φ : Option xV → xH → Prop) (hΦ : Φ none (den H')) : xW (xX0 xs Ls) P pc L st (den H) Φ := by
  unfold lcall at h
  split at h
  · rename_i p r hs
    split at h
    · rename_i hx
      split at h
      · rename_i H1 h1
        obtain ⟨v, h', n, d, hn, hv⟩ := ih _ _ _ _ _ _ h Φ hΦ
        obtain ⟨o, hh, d1, hF, ho, he⟩ := xM.of (X := xX0 xs Ls) (y := q.2.2.1) (Ψ := fun o h' => o = .inl none ∧ h' = den H1) rfl rfl hx.2.2 (ih _ _ _ _ _ _ h1 _ ⟨rfl, rfl⟩)
        subst ho
        subst he
        refine ⟨v, h', n + 1, max d d1, ?_, hv⟩
        unfold xC
        rw [hq]
        refine hd _ _ _ _ _ ?_
        unfold xrecv
        rw [hs]
        show bif Nat.beq p.1 (xci q.2.2.2.2) then _ else _
        rw [hx.1]
        show xcall _ _ _ _ _ _ _ _ _ _
        unfold xcall
        rw [hx.2.1]
        refine ⟨.inl none, den H1, xF_mono _ _ _ _ _ _ _ (Nat.le_max_right _ _) hF, ?_⟩
        exact xC_mono (fun z as h o h1 => xF_mono _ _ z as h o h1 (Nat.le_max_left _ _)) n n _ _ _ _ (Nat.le_refl _) hn
      · cases h
    · cases h
  · cases h
theorem lrun_ok {xs : Nat → Int32} {Ls : Nat} : ∀ (n : Nat) (P : xP) (pc : Nat) (L : xL) (st : List xV) (H H' : lH), lrun n P pc L st H = some H' → ∀ Φ : Option xV → xH → Prop, Φ none (den H') → xW (xX0 xs Ls) P pc L st (den H) Φ := by
  intro n
  induction n with
  | zero => intro P pc L st H H' h; cases h
  | succ n ih =>
    intro P pc L st H H' h Φ hΦ
    unfold lrun at h
    split at h
    · cases h
    · rename_i q hq
      unfold lgo at h
      split at h
      · rename_i hi
        split at h
        · cases h
          refine ⟨none, den H, 1, 0, ?_, hΦ⟩
          unfold xC
          rw [hq]
          dsimp only
          rw [hi]
          exact ⟨rfl, rfl, rfl⟩
        · cases h
      · rename_i idx hi
        cases hb : Nat.beq q.2.2.1 999 with
        | true =>
          rw [hb, cond_true] at h
          split at h
          · rename_i p r
            cases hw : Nat.ble (xwd r) 8 with
            | true =>
              rw [hw, cond_true] at h
              refine xW.one hq (fun d C o h' K hk => ?_) (ih _ _ _ _ _ _ h Φ hΦ)
              rw [hi]
              show bif Nat.beq q.2.2.1 999 then _ else _
              rw [hb, cond_true]
              show bif Nat.ble (xwd r) 8 then _ else _
              rw [hw]
              exact hk
            | false => rw [hw] at h; cases h
          · cases h
        | false =>
          rw [hb, cond_false] at h
          refine lcall_ok hq (fun d C o h' K hk => ?_) ih h Φ hΦ
          rw [hi]
          show bif Nat.beq q.2.2.1 999 then _ else _
          rw [hb]
          exact hk
      · rename_i idx hi
        refine lcall_ok hq (fun d C o h' K hk => ?_) ih h Φ hΦ
        rw [hi]
        exact hk
      · split at h
        · rename_i z hz
          exact xW.one hq (fun d C o h' K hk => lstep_ok hz d C _ o h' K hk) (ih _ _ _ _ _ _ h Φ hΦ)
        · cases h
/-- a constructor -/
theorem lrun_M {xs : Nat → Int32} {Ls : Nat} {n y : Nat} {as : List xV} {H H' : lH} {Ψ : xO → xH → Prop} (hw : Nat.ble (xwd as) (xtt y).2.2 = true) (h : lrun n (xtt y) 0 (xarg 0 as) [] H = some H') (g : Ψ (.inl none) (den H')) : xM (xX0 xs Ls) y as (den H) Ψ := xM.of rfl rfl hw (lrun_ok n _ _ _ _ _ _ h _ g)
