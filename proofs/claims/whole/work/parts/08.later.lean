/-! a walk's heap at the end is later than its heap at the beginning -/
def xNx (h : xH) (h' : xH) (K : Nat → xL → List xV → xH → Prop) : Prop := (∃ pc L st h1, xle h h1 ∧ K pc L st h1) ∨ xle h h'
theorem xNx.k {h h' : xH} {K : Nat → xL → List xV → xH → Prop} {pc : Nat} {L : xL} {st : List xV} (hk : K pc L st h) : xNx h h' K := Or.inl ⟨pc, L, st, h, xle_rf h, hk⟩
theorem xNx.t {h h1 h' : xH} {K : Nat → xL → List xV → xH → Prop} {pc : Nat} {L : xL} {st : List xV} (hl : xle h h1) (hk : K pc L st h1) : xNx h h' K := Or.inl ⟨pc, L, st, h1, hl, hk⟩
theorem xle_uI (h : xH) (a k : Nat) (v : Int32) : xle h (xuI h a k v) := ⟨Nat.le_refl _, Nat.le_refl _, Nat.le_refl _, fun _ _ => rfl⟩
theorem xle_uJ (h : xH) (a k : Nat) (v : Int64) : xle h (xuJ h a k v) := ⟨Nat.le_refl _, Nat.le_refl _, Nat.le_refl _, fun _ _ => rfl⟩
theorem xle_uR (h : xH) (a k : Nat) (v : Nat) : xle h (xuR h a k v) := ⟨Nat.le_refl _, Nat.le_refl _, Nat.le_refl _, fun _ _ => rfl⟩
theorem xbr_nx {h h' : xH} {K : Nat → xL → List xV → xH → Prop} {c : Prop} {pc pc1 : Nat} {L L1 : xL} {st st1 : List xV} (hx : xbr c (K pc L st h) (K pc1 L1 st1 h)) : xNx h h' K := by
  by_cases hc : c
  · exact .k (hx.1 hc)
  · exact .k (hx.2 hc)
theorem xrd_nx {h : xH} {r kind : Nat} {K : xV → Prop} (hx : xrd h r kind K) : ∃ w, K w := by
  unfold xrd at hx
  split at hx
  · exact ⟨_, hx⟩
  · exact ⟨_, (xbif_of hx).2⟩
theorem xback_nx {hd : xB} {pc len : Nat} {L : xL} {rest : List xV} {o1 : xO} {h h1 h' : xH} {K : Nat → xL → List xV → xH → Prop} (hl : xle h h1) (hx : xback hd pc len L rest o1 h1 K) : xNx h h' K := by
  unfold xback at hx
  split at hx
  · exact .t hl hx
  · exact .t hl hx
  · split at hx
    · exact .t hl hx
    · exact hx.elim
theorem xcall_nx {C : Nat → List xV → xH → xO → xH → Prop} {hd : xB} {pc len y na : Nat} {L : xL} {st : List xV} {h h' : xH} {K : Nat → xL → List xV → xH → Prop} (hC : ∀ y args h o h', C y args h o h' → xle h h') (hx : xcall C hd pc len y na L st h K) : xNx h h' K := by
  obtain ⟨-, o1, h1, hc, hx⟩ := xbif_of hx
  exact xback_nx (hC _ _ _ _ _ hc) hx
theorem xrecv_nx {st : List xV} {na kind : Nat} {P : Prop} (hx : xrecv st na kind P) : P := by
  obtain ⟨k, q, r, -, hx⟩ := xa1_of hx
  exact (xbif_of hx).2
theorem xlib_nx {y : Nat} {st : List xV} {K : List xV → Prop} (hx : xlib y st K) : ∃ r, K r := by
  unfold xlib at hx
  split at hx
  · obtain ⟨_, _, -, hx⟩ := xj1_of hx
    exact ⟨_, hx⟩
  · obtain ⟨_, _, -, hx⟩ := xi1_of hx
    exact ⟨_, hx⟩
  · obtain ⟨_, _, -, hx⟩ := xi1_of hx
    obtain ⟨_, _, -, hx⟩ := xi1_of hx
    exact ⟨_, hx⟩
  · obtain ⟨_, _, -, hx⟩ := xi1_of hx
    obtain ⟨_, _, -, hx⟩ := xi1_of hx
    exact ⟨_, hx⟩
  · exact hx.elim
set_option maxHeartbeats 4000000 in
set_option maxRecDepth 100000 in
theorem xDo_nx {X : xX} {d : Nat} {C : Nat → List xV → xH → xO → xH → Prop} {hd : xB} {i : Instr} {len a b pc : Nat} {v : xV} {L : xL} {st : List xV} {h h' : xH} {o : xO} {K : Nat → xL → List xV → xH → Prop} (hC : ∀ y args h o h', C y args h o h' → xle h h') (hx : xDo X d C hd i len a b v pc L st h o h' K) : xNx h h' K := by
  cases i with
  | ifCond cond off =>
    obtain ⟨x, r, -, hx⟩ := xi1_of hx
    cases cond <;> exact xbr_nx hx
  | if_icmp cond off =>
    obtain ⟨x, r, -, hx⟩ := xi1_of hx
    obtain ⟨y, r, -, hx⟩ := xi1_of hx
    cases cond <;> exact xbr_nx hx
  | tableswitch dflt lo hi offs =>
    obtain ⟨x, r, -, hx⟩ := xi1_of hx
    unfold xsw at hx
    split at hx
    · exact .k hx
    · exact hx.elim
  | lookupswitch dflt ps =>
    obtain ⟨x, r, -, hx⟩ := xi1_of hx
    exact .k hx
  | getfield n =>
    simp only [xDo] at hx
    obtain ⟨k, q, r, -, hx⟩ := xa1_of hx
    obtain ⟨-, hx⟩ := xbif_of hx
    split at hx
    · exact .k hx
    · exact .k hx
    · obtain ⟨w, hx⟩ := xrd_nx hx
      exact .k hx
  | putfield n =>
    simp only [xDo] at hx
    split at hx
    · obtain ⟨x, r, -, hx⟩ := xi1_of hx
      obtain ⟨k, q, r, -, hx⟩ := xa1_of hx
      exact .t (xle_uI _ _ _ _) (xbif_of hx).2
    · obtain ⟨x, r, -, hx⟩ := xj1_of hx
      obtain ⟨k, q, r, -, hx⟩ := xa1_of hx
      exact .t (xle_uJ _ _ _ _) (xbif_of hx).2
    · obtain ⟨x, r, -, hx⟩ := xi1_of hx
      obtain ⟨k, q, r, -, hx⟩ := xa1_of hx
      exact .t (xle_uI _ _ _ _) (xbif_of hx).2.2
    · obtain ⟨k1, q1, r, -, hx⟩ := xa1_of hx
      obtain ⟨k, q, r, -, hx⟩ := xa1_of hx
      exact .t (xle_uR _ _ _ _) (xbif_of hx).2
  | new n =>
    simp only [xDo] at hx
    cases hb : Nat.blt a 40 with
    | true =>
      rw [hb] at hx
      exact .t (xle_new _ _ _) hx
    | false =>
      rw [hb] at hx
      exact Or.inr (hx.2.2 ▸ xle_gone _ _)
  | invokestatic n =>
    simp only [xDo] at hx
    cases hb : Nat.ble 1000 a with
    | true =>
      rw [hb] at hx
      obtain ⟨r, hx⟩ := xlib_nx (xbif_of hx).2
      exact .k hx
    | false =>
      rw [hb] at hx
      exact xcall_nx hC hx
  | invokevirtual n => exact xcall_nx hC (xrecv_nx hx)
  | invokespecial n =>
    simp only [xDo] at hx
    cases hb : Nat.beq a 999 with
    | true =>
      rw [hb] at hx
      simp only [cond_true] at hx
      obtain ⟨k, q, r, -, hx⟩ := xa1_of hx
      exact .k (xbif_of hx).2
    | false =>
      rw [hb] at hx
      exact xcall_nx hC (xrecv_nx hx)
  | newarray n =>
    obtain ⟨x, r, -, -, -, hx⟩ := xi1_of hx
    exact .t (xle_new _ _ _) hx
  | anewarray n =>
    obtain ⟨x, r, -, -, -, hx⟩ := xi1_of hx
    exact .t (xle_new _ _ _) hx
  | iastore =>
    simp only [xDo] at hx
    obtain ⟨y, r, -, hx⟩ := xi1_of hx
    obtain ⟨x, r, -, hx⟩ := xi1_of hx
    obtain ⟨k, q, r, -, hx⟩ := xa1_of hx
    exact .t (xle_uI _ _ _ _) (xbif_of hx).2.2
  | lastore =>
    simp only [xDo] at hx
    obtain ⟨y, r, -, hx⟩ := xj1_of hx
    obtain ⟨x, r, -, hx⟩ := xi1_of hx
    obtain ⟨k, q, r, -, hx⟩ := xa1_of hx
    exact .t (xle_uJ _ _ _ _) (xbif_of hx).2.2
  | aastore =>
    simp only [xDo] at hx
    obtain ⟨k1, q1, r, -, hx⟩ := xa1_of hx
    obtain ⟨x, r, -, hx⟩ := xi1_of hx
    obtain ⟨k, q, r, -, hx⟩ := xa1_of hx
    exact .t (xle_uR _ _ _ _) (xbif_of hx).2.2
  | aaload =>
    simp only [xDo] at hx
    obtain ⟨x, r, -, hx⟩ := xi1_of hx
    obtain ⟨k, q, r, -, hx⟩ := xa1_of hx
    obtain ⟨-, -, hx⟩ := xbif_of hx
    obtain ⟨w, hx⟩ := xrd_nx hx
    exact .k hx
  | iaload =>
    simp only [xDo] at hx
    obtain ⟨x, r, -, hx⟩ := xi1_of hx
    obtain ⟨k, q, r, -, hx⟩ := xa1_of hx
    cases h1 : Nat.beq k 50 with
    | true => rw [h1] at hx; exact .k hx.2
    | false =>
      rw [h1] at hx
      cases h2 : Nat.beq k 40 with
      | true => rw [h2] at hx; exact .k hx.2
      | false => rw [h2] at hx; exact .k (xbif_of hx).2.2
  | laload =>
    simp only [xDo] at hx
    obtain ⟨x, r, -, hx⟩ := xi1_of hx
    obtain ⟨k, q, r, -, hx⟩ := xa1_of hx
    cases h2 : Nat.beq k 41 with
    | true => rw [h2] at hx; exact .k hx.2
    | false => rw [h2] at hx; exact .k (xbif_of hx).2.2
  | arraylength =>
    simp only [xDo] at hx
    obtain ⟨k, q, r, -, hx⟩ := xa1_of hx
    exact .k (xbif_of hx).2
  | dup2 =>
    obtain ⟨x, r, -, hx⟩ := xv1_of hx
    cases h1 : Nat.beq (xcat x) 2 with
    | true => rw [h1] at hx; exact .k hx
    | false =>
      rw [h1] at hx
      obtain ⟨y, r, -, hx⟩ := xv1_of hx
      exact .k (xbif_of hx).2
  | pop2 =>
    obtain ⟨x, r, -, hx⟩ := xv1_of hx
    cases h1 : Nat.beq (xcat x) 2 with
    | true => rw [h1] at hx; exact .k hx
    | false =>
      rw [h1] at hx
      obtain ⟨y, r, -, hx⟩ := xv1_of hx
      exact .k (xbif_of hx).2
  | return_ => exact Or.inr (hx.2.2 ▸ xle_rf _)
  | ireturn =>
    simp only [xDo] at hx
    split at hx
    · obtain ⟨x, r, -, -, -, hx⟩ := xi1_of hx
      exact Or.inr (hx ▸ xle_rf _)
    · obtain ⟨x, r, -, -, -, -, hx⟩ := xi1_of hx
      exact Or.inr (hx ▸ xle_rf _)
  | lreturn =>
    obtain ⟨x, r, -, -, -, hx⟩ := xj1_of hx
    exact Or.inr (hx ▸ xle_rf _)
  | areturn =>
    simp only [xDo] at hx
    obtain ⟨k, q, r, -, -, -, hx⟩ := xa1_of hx
    exact Or.inr (hx ▸ xle_rf _)
  | astore n =>
    simp only [xDo] at hx
    obtain ⟨k, q, r, -, hx⟩ := xa1_of hx
    exact .k hx
  | astore_n n =>
    simp only [xDo] at hx
    obtain ⟨k, q, r, -, hx⟩ := xa1_of hx
    exact .k hx
  | aload n =>
    simp only [xDo] at hx
    obtain ⟨x, e1, hx⟩ := xaldr_of hx
    exact .k hx
  | aload_n n =>
    simp only [xDo] at hx
    obtain ⟨x, e1, hx⟩ := xaldr_of hx
    exact .k hx
  | _ =>
    first
    | exact hx.elim
    | exact .k hx
    | (obtain ⟨x, e1, hx⟩ := xildr_of hx; exact .k hx)
    | (obtain ⟨x, e1, hx⟩ := xjldr_of hx; exact .k hx)
    | (obtain ⟨x, e1, hx⟩ := xaldr_of hx; exact .k hx)
    | (obtain ⟨x, r, -, hx⟩ := xi1_of hx; first | exact .k hx | (obtain ⟨y, r, -, hx⟩ := xi1_of hx; first | exact .k hx | exact .k hx.2) | (obtain ⟨y, r, -, hx⟩ := xj1_of hx; first | exact .k hx | exact .k hx.2))
    | (obtain ⟨x, r, -, hx⟩ := xj1_of hx; first | exact .k hx | (obtain ⟨y, r, -, hx⟩ := xj1_of hx; first | exact .k hx | exact .k hx.2))
    | (obtain ⟨k, q, r, -, hx⟩ := xa1_of hx; exact .k hx)
    | (obtain ⟨x, r, -, hx⟩ := xv1_of hx; first | exact .k (xbif_of hx).2 | (obtain ⟨y, r, -, hx⟩ := xv1_of hx; first | exact .k (xbif_of hx).2 | (obtain ⟨z, r, -, hx⟩ := xv1_of hx; exact .k (xbif_of hx).2)))
theorem xC_le {X : xX} {d : Nat} {C : Nat → List xV → xH → xO → xH → Prop} {P : xP} (hC : ∀ y args h o h', C y args h o h' → xle h h') : ∀ (n pc : Nat) (L : xL) (st : List xV) (h : xH) (o : xO) (h' : xH), xC X d C P n pc L st h o h' → xle h h' := by
  intro n
  induction n with
  | zero => intro pc L st h o h' hx; exact hx.elim
  | succ n ih =>
    intro pc L st h o h' hx
    unfold xC at hx
    split at hx
    · exact hx.elim
    · rcases xDo_nx hC hx with ⟨pc1, L1, st1, h1, hl, hk⟩ | hl
      · exact xle_tr hl (ih _ _ _ _ _ _ hk)
      · exact hl
theorem xE_le {X : xX} {T : Nat → xP} : ∀ (d y : Nat) (args : List xV) (h : xH) (o : xO) (h' : xH), xE X T d y args h o h' → xle h h' := by
  intro d
  induction d with
  | zero => intro y args h o h' hx; exact hx.elim
  | succ d ih =>
    intro y args h o h' hx
    obtain ⟨-, n, hn⟩ := hx
    exact xC_le ih n _ _ _ _ _ _ hn
