/-! WEAKEST PRECONDITIONS OF THE PURE MACHINE, without fuel and depth -/
theorem xi1_mono {st : List xV} {K K' : Int32 → List xV → Prop} (h : ∀ x r, K x r → K' x r) : xi1 st K → xi1 st K' := fun hx => by
  obtain ⟨x, r, rfl, g⟩ := xi1_of hx
  exact h _ _ g
theorem xj1_mono {st : List xV} {K K' : Int64 → List xV → Prop} (h : ∀ x r, K x r → K' x r) : xj1 st K → xj1 st K' := fun hx => by
  obtain ⟨x, r, rfl, g⟩ := xj1_of hx
  exact h _ _ g
theorem xa1_mono {st : List xV} {K K' : Nat → Nat → List xV → Prop} (h : ∀ k q r, K k q r → K' k q r) : xa1 st K → xa1 st K' := fun hx => by
  obtain ⟨k, q, r, rfl, g⟩ := xa1_of hx
  exact h _ _ _ g
theorem xv1_mono {st : List xV} {K K' : xV → List xV → Prop} (h : ∀ v r, K v r → K' v r) : xv1 st K → xv1 st K' := fun hx => by
  cases st with
  | nil => exact hx
  | cons v r => exact h _ _ hx
theorem xildr_mono {L : xL} {i : Nat} {K K' : Int32 → Prop} (h : ∀ x, K x → K' x) : xildr L i K → xildr L i K' := fun hx => by
  unfold xildr at hx ⊢
  split at hx
  · exact h _ hx
  · exact hx
theorem xjldr_mono {L : xL} {i : Nat} {K K' : Int64 → Prop} (h : ∀ x, K x → K' x) : xjldr L i K → xjldr L i K' := fun hx => by
  unfold xjldr at hx ⊢
  split at hx
  · exact h _ hx
  · exact hx
theorem xaldr_mono {L : xL} {i : Nat} {K K' : xV → Prop} (h : ∀ x, K x → K' x) : xaldr L i K → xaldr L i K' := fun hx => by
  unfold xaldr at hx ⊢
  split at hx
  · exact h _ hx
  · exact hx
theorem xcond_mono {b : Bool} {A A' B B' : Prop} (h1 : A → A') (h2 : B → B') : (bif b then A else B) → (bif b then A' else B') := by
  cases b
  · exact h2
  · exact h1
theorem xbr_mono {c : Prop} {A A' B B' : Prop} (h1 : A → A') (h2 : B → B') : xbr c A B → xbr c A' B' := fun h => ⟨fun q => h1 (h.1 q), fun q => h2 (h.2 q)⟩
theorem xif_mono {cond : ClassFile.Cond} {x : Int32} {A A' B B' : Prop} (h1 : A → A') (h2 : B → B') : xif cond x A B → xif cond x A' B' := by
  cases cond <;> exact xbr_mono h1 h2
theorem xifc_mono {cond : ClassFile.Cond} {x y : Int32} {A A' B B' : Prop} (h1 : A → A') (h2 : B → B') : xifc cond x y A B → xifc cond x y A' B' := by
  cases cond <;> exact xbr_mono h1 h2
theorem xsw_mono {q : Option Int} {K K' : Int → Prop} (h : ∀ x, K x → K' x) : xsw q K → xsw q K' := by
  cases q with
  | none => exact id
  | some x => exact h x
theorem xrd_mono {h : xH} {r kind : Nat} {K K' : xV → Prop} (hk : ∀ v, K v → K' v) : xrd h r kind K → xrd h r kind K' := by
  cases r with
  | zero => exact hk _
  | succ q => exact xcond_mono (hk _) id
theorem xlib_mono {y : Nat} {st : List xV} {K K' : List xV → Prop} (h : ∀ r, K r → K' r) : xlib y st K → xlib y st K' := by
  unfold xlib
  split
  · exact xj1_mono fun x r => h _
  · exact xi1_mono fun x r => h _
  · exact xi1_mono fun x r => xi1_mono fun x r => h _
  · exact xi1_mono fun x r => xi1_mono fun x r => h _
  · exact id
theorem xback_mono {hd : xB} {pc len : Nat} {L : xL} {rest : List xV} {o1 : xO} {h1 : xH} {K K' : Nat → xL → List xV → xH → Prop} (hK : ∀ pc L st h, K pc L st h → K' pc L st h) : xback hd pc len L rest o1 h1 K → xback hd pc len L rest o1 h1 K' := by
  rcases o1 with (_ | v) | k
  · exact hK _ _ _ _
  · exact hK _ _ _ _
  · unfold xback
    dsimp only
    cases xcatch hd pc k with
    | none => exact id
    | some q => exact hK _ _ _ _
theorem xcall_mono {C C' : Nat → List xV → xH → xO → xH → Prop} {hd : xB} {pc len y na : Nat} {L : xL} {st : List xV} {h : xH} {K K' : Nat → xL → List xV → xH → Prop} (hC : ∀ z as h o h1, C z as h o h1 → C' z as h o h1) (hK : ∀ pc L st h, K pc L st h → K' pc L st h) : xcall C hd pc len y na L st h K → xcall C' hd pc len y na L st h K' :=
  xcond_mono (fun ⟨o1, h1, g1, g2⟩ => ⟨o1, h1, hC _ _ _ _ _ g1, xback_mono hK g2⟩) id
theorem xrecv_mono {st : List xV} {na kind : Nat} {P P' : Prop} (h : P → P') : xrecv st na kind P → xrecv st na kind P' := xa1_mono fun _ _ _ => xcond_mono h id
set_option maxHeartbeats 4000000 in
theorem xDo_mono {X : xX} {d d' : Nat} {C C' : Nat → List xV → xH → xO → xH → Prop} {hd : xB} {i : Instr} {len a b : Nat} {v : xV} {pc : Nat} {L : xL} {st : List xV} {h : xH} {o : xO} {h' : xH} {K K' : Nat → xL → List xV → xH → Prop} (hC : ∀ z as h o h1, C z as h o h1 → C' z as h o h1) (hK : ∀ pc L st h, K pc L st h → K' pc L st h) : xDo X d C hd i len a b v pc L st h o h' K → xDo X d' C' hd i len a b v pc L st h o h' K' := by
  cases i with
  | getfield _ =>
    simp only [xDo]
    refine xa1_mono fun k q r => xcond_mono ?_ id
    rcases a with _ | _ | a
    · exact hK _ _ _ _
    · exact hK _ _ _ _
    · exact xrd_mono fun w => hK _ _ _ _
  | putfield _ =>
    simp only [xDo]
    rcases a with _ | _ | _ | a
    · exact xi1_mono fun x r => xa1_mono fun k q r => xcond_mono (hK _ _ _ _) id
    · exact xj1_mono fun x r => xa1_mono fun k q r => xcond_mono (hK _ _ _ _) id
    · exact xi1_mono fun x r => xa1_mono fun k q r => xcond_mono (And.imp id (hK _ _ _ _)) id
    · exact xa1_mono fun k1 q1 r => xa1_mono fun k q r => xcond_mono (hK _ _ _ _) id
  | invokestatic _ =>
    simp only [xDo]
    exact xcond_mono (xcond_mono (xlib_mono fun r => hK _ _ _ _) id) (xcall_mono hC hK)
  | invokevirtual _ =>
    simp only [xDo]
    exact xrecv_mono (xcall_mono hC hK)
  | invokespecial _ =>
    simp only [xDo]
    exact xcond_mono (xa1_mono fun k q r => xcond_mono (hK _ _ _ _) id) (xrecv_mono (xcall_mono hC hK))
  | new _ =>
    simp only [xDo]
    exact xcond_mono (hK _ _ _ _) id
  | tableswitch dflt lo hi offs =>
    simp only [xDo]
    exact xi1_mono fun x r => xsw_mono fun off => hK _ _ _ _
  | ifCond cond _ =>
    simp only [xDo]
    exact xi1_mono fun x r => xif_mono (hK _ _ _ _) (hK _ _ _ _)
  | if_icmp cond _ =>
    simp only [xDo]
    exact xi1_mono fun y r => xi1_mono fun x r => xifc_mono (hK _ _ _ _) (hK _ _ _ _)
  | dup2 =>
    simp only [xDo]
    exact xv1_mono fun x r => xcond_mono (hK _ _ _ _) (xv1_mono fun y r => xcond_mono (hK _ _ _ _) id)
  | pop2 =>
    simp only [xDo]
    exact xv1_mono fun x r => xcond_mono (hK _ _ _ _) (xv1_mono fun y r => xcond_mono (hK _ _ _ _) id)
  | ireturn => exact id
  | return_ => exact id
  | lreturn => exact id
  | areturn => exact id
  | iaload =>
    simp only [xDo]
    exact xi1_mono fun x r => xa1_mono fun k q r => xcond_mono (And.imp id (hK _ _ _ _)) (xcond_mono (And.imp id (hK _ _ _ _)) id)
  | laload =>
    simp only [xDo]
    exact xi1_mono fun x r => xa1_mono fun k q r => xcond_mono (And.imp id (hK _ _ _ _)) (xcond_mono (And.imp id (hK _ _ _ _)) id)
  | aaload =>
    simp only [xDo]
    exact xi1_mono fun x r => xa1_mono fun k q r => xcond_mono (And.imp id (xrd_mono fun w => hK _ _ _ _)) id
  | _ =>
    simp only [xDo]
    first
    | exact id
    | exact hK _ _ _ _
    | exact xildr_mono fun x => hK _ _ _ _
    | exact xjldr_mono fun x => hK _ _ _ _
    | exact xaldr_mono fun x => hK _ _ _ _
    | exact xi1_mono fun x r => hK _ _ _ _
    | exact xj1_mono fun x r => hK _ _ _ _
    | exact xa1_mono fun k q r => hK _ _ _ _
    | exact xi1_mono fun y r => xi1_mono fun x r => hK _ _ _ _
    | exact xi1_mono fun y r => xi1_mono fun x r => And.imp id (hK _ _ _ _)
    | exact xj1_mono fun y r => xj1_mono fun x r => hK _ _ _ _
    | exact xj1_mono fun y r => xj1_mono fun x r => And.imp id (hK _ _ _ _)
    | exact xi1_mono fun y r => xj1_mono fun x r => hK _ _ _ _
    | exact xv1_mono fun x r => xcond_mono (hK _ _ _ _) id
    | exact xv1_mono fun x r => xv1_mono fun y r => xcond_mono (hK _ _ _ _) id
    | exact xv1_mono fun x r => xv1_mono fun y r => xv1_mono fun z r => xcond_mono (hK _ _ _ _) id
    | exact xa1_mono fun k q r => xcond_mono (hK _ _ _ _) id
    | exact xi1_mono fun x r => And.imp id (And.imp id (hK _ _ _ _))
    | exact xi1_mono fun y r => xi1_mono fun x r => xa1_mono fun k q r => xcond_mono (And.imp id (hK _ _ _ _)) id
    | exact xj1_mono fun y r => xi1_mono fun x r => xa1_mono fun k q r => xcond_mono (And.imp id (hK _ _ _ _)) id
    | exact xa1_mono fun k1 q1 r => xi1_mono fun x r => xa1_mono fun k q r => xcond_mono (And.imp id (hK _ _ _ _)) id
theorem xC_mono {X : xX} {d d' : Nat} {C C' : Nat → List xV → xH → xO → xH → Prop} {P : xP} (hC : ∀ z as h o h1, C z as h o h1 → C' z as h o h1) {o : xO} {h' : xH} : ∀ (n m pc : Nat) (L : xL) (st : List xV) (h : xH), n ≤ m → xC X d C P n pc L st h o h' → xC X d' C' P m pc L st h o h' := by
  intro n
  induction n with
  | zero => intro m pc L st h _ hx; exact hx.elim
  | succ n ih =>
    intro m pc L st h hm hx
    obtain ⟨m, rfl⟩ : ∃ m1, m = m1 + 1 := ⟨m - 1, by omega⟩
    unfold xC at hx ⊢
    cases hq : P.1 pc with
    | none => rw [hq] at hx; exact hx
    | some q =>
      rw [hq] at hx
      exact xDo_mono hC (fun pc L st h => ih m pc L st h (by omega)) hx
theorem xF_mono {X : xX} {T : Nat → xP} : ∀ (d d' y : Nat) (as : List xV) (h : xH) (o : xO) (h' : xH), d ≤ d' → xF X T d y as h o h' → xF X T d' y as h o h' := by
  intro d
  induction d with
  | zero => intro d' y as h o h' _ hx; exact hx.elim
  | succ d ih =>
    intro d' y as h o h' hd hx
    obtain ⟨d', rfl⟩ : ∃ d1, d' = d1 + 1 := ⟨d' - 1, by omega⟩
    cases o with
    | inl v =>
      obtain ⟨g, n, hn⟩ := hx
      exact ⟨g, n, xC_mono (fun z as h o h1 => ih d' z as h o h1 (by omega)) n n _ _ _ _ (Nat.le_refl _) hn⟩
    | inr k =>
      obtain ⟨g, n, hn⟩ := hx
      exact ⟨g, n, xC_mono (fun z as h o h1 => ih d' z as h o h1 (by omega)) n n _ _ _ _ (Nat.le_refl _) hn⟩
/-! fewer locals do -/
def xnd (L : xL) : Prop := (L.map (fun q => q.1)).Nodup
def xsub (L L' : xL) : Prop := xnd L ∧ ∀ i v, xld L i = some v → xld L' i = some v
theorem xld_filterA {p : Nat × xV → Bool} {j : Nat} {v : xV} : ∀ {L : xL}, xnd L → xld (L.filter p) j = some v → xld L j = some v ∧ p (j, v) = true := by
  intro L
  induction L with
  | nil => intro _ h; cases h
  | cons q r ih =>
    intro hn h
    have hn1 : xnd r := (List.nodup_cons.mp hn).2
    have hq : ∀ w, xld r q.1 = some w → False := by
      have hq0 : q.1 ∉ r.map (fun q => q.1) := (List.nodup_cons.mp hn).1
      clear ih h hn hn1
      induction r with
      | nil => intro w g; cases g
      | cons a t ih2 =>
        intro w g
        unfold xld at g
        cases hb : Nat.beq a.1 q.1 with
        | true => exact hq0 (by rw [← Nat.eq_of_beq_eq_true hb]; exact List.mem_cons_self)
        | false =>
          rw [hb] at g
          exact ih2 (fun z => hq0 (List.mem_cons_of_mem _ z)) w g
    cases hb : Nat.beq q.1 j with
    | true =>
      have e := Nat.eq_of_beq_eq_true hb
      cases hp : p q with
      | true =>
        rw [List.filter_cons, hp] at h
        have h : xld (q :: r.filter p) j = some v := h
        unfold xld at h ⊢
        rw [hb] at h ⊢
        refine ⟨h, ?_⟩
        have h : some q.2 = some v := h
        cases h
        rw [← e]
        exact hp
      | false =>
        rw [List.filter_cons, hp] at h
        have h : xld (r.filter p) j = some v := h
        exact (hq v (by rw [e]; exact (ih hn1 h).1)).elim
    | false =>
      have h2 : xld (r.filter p) j = some v := by
        cases hp : p q with
        | true =>
          rw [List.filter_cons, hp] at h
          have h : xld (q :: r.filter p) j = some v := h
          unfold xld at h
          rw [hb] at h
          exact h
        | false =>
          rw [List.filter_cons, hp] at h
          exact h
      have := ih hn1 h2
      refine ⟨?_, this.2⟩
      unfold xld
      rw [hb]
      exact this.1
theorem xld_filterB {p : Nat × xV → Bool} {j : Nat} {v : xV} (hp : p (j, v) = true) : ∀ {L : xL}, xld L j = some v → xld (L.filter p) j = some v := by
  intro L
  induction L with
  | nil => intro h; cases h
  | cons q r ih =>
    intro h
    cases hb : Nat.beq q.1 j with
    | true =>
      have e := Nat.eq_of_beq_eq_true hb
      have h2 := h
      unfold xld at h2
      rw [hb] at h2
      have h2 : some q.2 = some v := h2
      cases h2
      have hq : p q = true := by rw [← hp, ← e]
      rw [List.filter_cons, hq]
      show xld (q :: r.filter p) j = _
      unfold xld
      rw [hb]
      rfl
    | false =>
      unfold xld at h
      rw [hb] at h
      have := ih h
      cases hq : p q with
      | true =>
        rw [List.filter_cons, hq]
        show xld (q :: r.filter p) j = _
        unfold xld
        rw [hb]
        exact this
      | false =>
        rw [List.filter_cons, hq]
        exact this
theorem xnd_filter {p : Nat × xV → Bool} {L : xL} (h : xnd L) : xnd (L.filter p) := List.Nodup.sublist (List.filter_sublist.map _) h
theorem xsub_filter {p : Nat × xV → Bool} {L L' : xL} (h : xsub L L') : xsub (L.filter p) (L'.filter p) := ⟨xnd_filter h.1, fun i v g => xld_filterB (xld_filterA h.1 g).2 (h.2 i v (xld_filterA h.1 g).1)⟩
theorem xsub_cons {p : Nat × xV → Bool} {L L' : xL} {i : Nat} {v : xV} (hp : ∀ q : Nat × xV, p q = true → q.1 ≠ i) (h : xsub L L') : xsub ((i, v) :: L.filter p) ((i, v) :: L'.filter p) := by
  refine ⟨?_, fun j w g => ?_⟩
  · refine List.nodup_cons.mpr ⟨fun g => ?_, (xsub_filter (p := p) h).1⟩
    obtain ⟨q, g1, g2⟩ := List.mem_map.mp g
    exact hp q (List.mem_filter.mp g1).2 g2
  · unfold xld at g ⊢
    dsimp only at g ⊢
    cases hb : Nat.beq i j with
    | true => rw [hb] at g; exact g
    | false =>
      rw [hb] at g
      exact (xsub_filter (p := p) h).2 j w g
theorem xsub_st1 {L L' : xL} {i : Nat} {v : xV} (h : xsub L L') : xsub (xst1 L i v) (xst1 L' i v) := xsub_cons (fun q hq e => by
  rw [Bool.and_eq_true, e] at hq
  have := hq.1
  rw [beq_self_eq_true] at this
  cases this) h
theorem xsub_st2 {L L' : xL} {i : Nat} {v : xV} (h : xsub L L') : xsub (xst2 L i v) (xst2 L' i v) := xsub_cons (fun q hq e => by
  rw [Bool.and_eq_true, e] at hq
  have := hq.1
  rw [beq_self_eq_true] at this
  cases this) h
theorem xsub_off {L L' : xL} {i : Nat} (h : xsub L L') : xsub (xoff L i) (xoff L' i) := xsub_filter h
theorem xildr_sub {L L' : xL} {i : Nat} {K K' : Int32 → Prop} (hs : xsub L L') (h : ∀ x, K x → K' x) : xildr L i K → xildr L' i K' := fun hx => by
  unfold xildr at hx ⊢
  split at hx
  · rename_i x e
    rw [hs.2 _ _ e]
    exact h _ hx
  · exact hx.elim
theorem xjldr_sub {L L' : xL} {i : Nat} {K K' : Int64 → Prop} (hs : xsub L L') (h : ∀ x, K x → K' x) : xjldr L i K → xjldr L' i K' := fun hx => by
  unfold xjldr at hx ⊢
  split at hx
  · rename_i x e
    rw [hs.2 _ _ e]
    exact h _ hx
  · exact hx.elim
theorem xaldr_sub {L L' : xL} {i : Nat} {K K' : xV → Prop} (hs : xsub L L') (h : ∀ x, K x → K' x) : xaldr L i K → xaldr L' i K' := fun hx => by
  unfold xaldr at hx ⊢
  split at hx
  · rename_i x e
    rw [hs.2 _ _ e]
    exact h _ hx
  · exact hx.elim
theorem xback_sub {hd : xB} {pc len : Nat} {L L' : xL} {rest : List xV} {o1 : xO} {h1 : xH} {K : Nat → xL → List xV → xH → Prop} {K' : Nat → xL → List xV → xH → Prop} (hs : xsub L L') (hK : ∀ pc L L' st h, xsub L L' → K pc L st h → K' pc L' st h) : xback hd pc len L rest o1 h1 K → xback hd pc len L' rest o1 h1 K' := by
  rcases o1 with (_ | v) | k
  · exact hK _ _ _ _ _ hs
  · exact hK _ _ _ _ _ hs
  · unfold xback
    dsimp only
    cases xcatch hd pc k with
    | none => exact id
    | some q => exact hK _ _ _ _ _ (xsub_off hs)
theorem xcall_sub {C : Nat → List xV → xH → xO → xH → Prop} {hd : xB} {pc len y na : Nat} {L L' : xL} {st : List xV} {h : xH} {K K' : Nat → xL → List xV → xH → Prop} (hs : xsub L L') (hK : ∀ pc L L' st h, xsub L L' → K pc L st h → K' pc L' st h) : xcall C hd pc len y na L st h K → xcall C hd pc len y na L' st h K' :=
  xcond_mono (fun ⟨o1, h1, g1, g2⟩ => ⟨o1, h1, g1, xback_sub hs hK g2⟩) id
set_option maxHeartbeats 4000000 in
theorem xDo_sub {X : xX} {d : Nat} {C : Nat → List xV → xH → xO → xH → Prop} {hd : xB} {i : Instr} {len a b : Nat} {v : xV} {pc : Nat} {L L' : xL} {st : List xV} {h : xH} {o : xO} {h' : xH} {K K' : Nat → xL → List xV → xH → Prop} (hs : xsub L L') (hK : ∀ pc L L' st h, xsub L L' → K pc L st h → K' pc L' st h) : xDo X d C hd i len a b v pc L st h o h' K → xDo X d C hd i len a b v pc L' st h o h' K' := by
  cases i with
  | getfield _ =>
    simp only [xDo]
    refine xa1_mono fun k q r => xcond_mono ?_ id
    rcases a with _ | _ | a
    · exact hK _ _ _ _ _ hs
    · exact hK _ _ _ _ _ hs
    · exact xrd_mono fun w => hK _ _ _ _ _ hs
  | putfield _ =>
    simp only [xDo]
    rcases a with _ | _ | _ | a
    · exact xi1_mono fun x r => xa1_mono fun k q r => xcond_mono (hK _ _ _ _ _ hs) id
    · exact xj1_mono fun x r => xa1_mono fun k q r => xcond_mono (hK _ _ _ _ _ hs) id
    · exact xi1_mono fun x r => xa1_mono fun k q r => xcond_mono (And.imp id (hK _ _ _ _ _ hs)) id
    · exact xa1_mono fun k1 q1 r => xa1_mono fun k q r => xcond_mono (hK _ _ _ _ _ hs) id
  | invokestatic _ =>
    simp only [xDo]
    exact xcond_mono (xcond_mono (xlib_mono fun r => hK _ _ _ _ _ hs) id) (xcall_sub hs hK)
  | invokevirtual _ =>
    simp only [xDo]
    exact xrecv_mono (xcall_sub hs hK)
  | invokespecial _ =>
    simp only [xDo]
    exact xcond_mono (xa1_mono fun k q r => xcond_mono (hK _ _ _ _ _ hs) id) (xrecv_mono (xcall_sub hs hK))
  | new _ =>
    simp only [xDo]
    exact xcond_mono (hK _ _ _ _ _ hs) id
  | tableswitch dflt lo hi offs =>
    simp only [xDo]
    exact xi1_mono fun x r => xsw_mono fun off => hK _ _ _ _ _ hs
  | ifCond cond _ =>
    simp only [xDo]
    exact xi1_mono fun x r => xif_mono (hK _ _ _ _ _ hs) (hK _ _ _ _ _ hs)
  | if_icmp cond _ =>
    simp only [xDo]
    exact xi1_mono fun y r => xi1_mono fun x r => xifc_mono (hK _ _ _ _ _ hs) (hK _ _ _ _ _ hs)
  | dup2 =>
    simp only [xDo]
    exact xv1_mono fun x r => xcond_mono (hK _ _ _ _ _ hs) (xv1_mono fun y r => xcond_mono (hK _ _ _ _ _ hs) id)
  | pop2 =>
    simp only [xDo]
    exact xv1_mono fun x r => xcond_mono (hK _ _ _ _ _ hs) (xv1_mono fun y r => xcond_mono (hK _ _ _ _ _ hs) id)
  | ireturn => exact id
  | return_ => exact id
  | lreturn => exact id
  | areturn => exact id
  | iaload =>
    simp only [xDo]
    exact xi1_mono fun x r => xa1_mono fun k q r => xcond_mono (And.imp id (hK _ _ _ _ _ hs)) (xcond_mono (And.imp id (hK _ _ _ _ _ hs)) id)
  | laload =>
    simp only [xDo]
    exact xi1_mono fun x r => xa1_mono fun k q r => xcond_mono (And.imp id (hK _ _ _ _ _ hs)) (xcond_mono (And.imp id (hK _ _ _ _ _ hs)) id)
  | aaload =>
    simp only [xDo]
    exact xi1_mono fun x r => xa1_mono fun k q r => xcond_mono (And.imp id (xrd_mono fun w => hK _ _ _ _ _ hs)) id
  | _ =>
    simp only [xDo]
    first
    | exact id
    | exact hK _ _ _ _ _ hs
    | exact xildr_sub hs fun x => hK _ _ _ _ _ hs
    | exact xjldr_sub hs fun x => hK _ _ _ _ _ hs
    | exact xaldr_sub hs fun x => hK _ _ _ _ _ hs
    | exact xi1_mono fun x r => hK _ _ _ _ _ hs
    | exact xi1_mono fun x r => hK _ _ _ _ _ (xsub_st1 hs)
    | exact xj1_mono fun x r => hK _ _ _ _ _ (xsub_st2 hs)
    | exact xa1_mono fun k q r => hK _ _ _ _ _ (xsub_st1 hs)
    | exact xildr_sub hs fun x => hK _ _ _ _ _ (xsub_st1 hs)
    | exact xj1_mono fun x r => hK _ _ _ _ _ hs
    | exact xa1_mono fun k q r => hK _ _ _ _ _ hs
    | exact xi1_mono fun y r => xi1_mono fun x r => hK _ _ _ _ _ hs
    | exact xi1_mono fun y r => xi1_mono fun x r => And.imp id (hK _ _ _ _ _ hs)
    | exact xj1_mono fun y r => xj1_mono fun x r => hK _ _ _ _ _ hs
    | exact xj1_mono fun y r => xj1_mono fun x r => And.imp id (hK _ _ _ _ _ hs)
    | exact xi1_mono fun y r => xj1_mono fun x r => hK _ _ _ _ _ hs
    | exact xv1_mono fun x r => xcond_mono (hK _ _ _ _ _ hs) id
    | exact xv1_mono fun x r => xv1_mono fun y r => xcond_mono (hK _ _ _ _ _ hs) id
    | exact xv1_mono fun x r => xv1_mono fun y r => xv1_mono fun z r => xcond_mono (hK _ _ _ _ _ hs) id
    | exact xa1_mono fun k q r => xcond_mono (hK _ _ _ _ _ hs) id
    | exact xi1_mono fun x r => And.imp id (And.imp id (hK _ _ _ _ _ hs))
    | exact xi1_mono fun y r => xi1_mono fun x r => xa1_mono fun k q r => xcond_mono (And.imp id (hK _ _ _ _ _ hs)) id
    | exact xj1_mono fun y r => xi1_mono fun x r => xa1_mono fun k q r => xcond_mono (And.imp id (hK _ _ _ _ _ hs)) id
    | exact xa1_mono fun k1 q1 r => xi1_mono fun x r => xa1_mono fun k q r => xcond_mono (And.imp id (hK _ _ _ _ _ hs)) id
theorem xC_sub {X : xX} {d : Nat} {C : Nat → List xV → xH → xO → xH → Prop} {P : xP} {o : xO} {h' : xH} : ∀ (n pc : Nat) (L L' : xL) (st : List xV) (h : xH), xsub L L' → xC X d C P n pc L st h o h' → xC X d C P n pc L' st h o h' := by
  intro n
  induction n with
  | zero => intro pc L L' st h _ hx; exact hx.elim
  | succ n ih =>
    intro pc L L' st h hs hx
    unfold xC at hx ⊢
    cases hq : P.1 pc with
    | none => rw [hq] at hx; exact hx
    | some q =>
      rw [hq] at hx
      exact xDo_sub hs (fun pc L L' st h => ih pc L L' st h) hx
def xlk : xL → xL → Prop
  | [], _ => True
  | q :: r, L' => xld L' q.1 = some q.2 ∧ xlk r L'
theorem xlk_of : ∀ {L L' : xL}, xlk L L' → ∀ i v, xld L i = some v → xld L' i = some v := by
  intro L
  induction L with
  | nil => intro L' _ i v g; cases g
  | cons q r ih =>
    intro L' h i v g
    unfold xld at g
    cases hb : Nat.beq q.1 i with
    | true =>
      rw [hb] at g
      have g : some q.2 = some v := g
      rw [← Nat.eq_of_beq_eq_true hb, ← g]
      exact h.1
    | false =>
      rw [hb] at g
      exact ih h.2 i v g
def xndB : xL → Bool
  | [] => true
  | q :: r => (r.all fun z => !(Nat.beq z.1 q.1)) && xndB r
theorem xnd_of : ∀ {L : xL}, xndB L = true → xnd L := by
  intro L
  induction L with
  | nil => intro _; exact List.nodup_nil
  | cons q r ih =>
    intro h
    unfold xndB at h
    rw [Bool.and_eq_true] at h
    refine List.nodup_cons.mpr ⟨fun g => ?_, ih h.2⟩
    obtain ⟨z, g1, g2⟩ := List.mem_map.mp g
    have := List.all_eq_true.mp h.1 z g1
    rw [g2, Nat.beq_refl] at this
    cases this
/-- from here on, by these rows, the method comes to an end of which Φ holds -/
def xW (X : xX) (P : xP) (pc : Nat) (L : xL) (st : List xV) (h : xH) (Φ : Option xV → xH → Prop) : Prop := ∃ v h' n d, xC X d (xF X xtt d) P n pc L st h (.inl v) h' ∧ Φ v h'
/-- the method y comes to an end of which Φ holds -/
def xM (X : xX) (y : Nat) (as : List xV) (h : xH) (Φ : xO → xH → Prop) : Prop := ∃ o h' d, xF X xtt d y as h o h' ∧ Φ o h'
/-- behind a call -/
def xBk (X : xX) (P : xP) (pc len : Nat) (L : xL) (rest : List xV) (Φ : Option xV → xH → Prop) (o : xO) (h : xH) : Prop := match o with
  | .inl none => xW X P (pc + len) L rest h Φ
  | .inl (some v) => xW X P (pc + len) L (v :: rest) h Φ
  | .inr k => match xcatch P.2.1 pc k with
    | some q => xW X P q.2 (xoff L q.1) [] h Φ
    | none => False
theorem xM.mono {X : xX} {y : Nat} {as : List xV} {h : xH} {Φ Ψ : xO → xH → Prop} (hM : xM X y as h Φ) (g : ∀ o h', Φ o h' → Ψ o h') : xM X y as h Ψ := by
  obtain ⟨o, h', d, g1, g2⟩ := hM
  exact ⟨o, h', d, g1, g _ _ g2⟩
section XWR
variable {X : xX} {P : xP} {pc pc1 pc2 : Nat} {L L1 L2 : xL} {st st1 st2 : List xV} {h h1 h2 : xH} {Φ : Option xV → xH → Prop}
theorem xW.seg (k : Nat) (he : ∀ n d v h', xC X d (xF X xtt d) P (n + k) pc L st h (.inl v) h' = xC X d (xF X xtt d) P n pc1 L1 st1 h1 (.inl v) h') (g : xW X P pc1 L1 st1 h1 Φ) : xW X P pc L st h Φ := by
  obtain ⟨v, h', n, d, hn, hv⟩ := g
  exact ⟨v, h', n + k, d, by rw [he]; exact hn, hv⟩
theorem xW.br (k : Nat) {c : Prop} (he : ∀ n d v h', xC X d (xF X xtt d) P (n + k) pc L st h (.inl v) h' = xbr c (xC X d (xF X xtt d) P n pc1 L1 st1 h1 (.inl v) h') (xC X d (xF X xtt d) P n pc2 L2 st2 h2 (.inl v) h')) (g1 : c → xW X P pc1 L1 st1 h1 Φ) (g2 : ¬ c → xW X P pc2 L2 st2 h2 Φ) : xW X P pc L st h Φ := by
  by_cases hc : c
  · obtain ⟨v, h', n, d, hn, hv⟩ := g1 hc
    exact ⟨v, h', n + k, d, by rw [he]; exact ⟨fun _ => hn, fun q => absurd hc q⟩, hv⟩
  · obtain ⟨v, h', n, d, hn, hv⟩ := g2 hc
    exact ⟨v, h', n + k, d, by rw [he]; exact ⟨fun q => absurd q hc, fun _ => hn⟩, hv⟩
theorem xW.side (k : Nat) {c : Prop} (he : ∀ n d v h', xC X d (xF X xtt d) P (n + k) pc L st h (.inl v) h' = (c ∧ xC X d (xF X xtt d) P n pc1 L1 st1 h1 (.inl v) h')) (hc : c) (g : xW X P pc1 L1 st1 h1 Φ) : xW X P pc L st h Φ := by
  obtain ⟨v, h', n, d, hn, hv⟩ := g
  exact ⟨v, h', n + k, d, by rw [he]; exact ⟨hc, hn⟩, hv⟩
theorem xW.call (k : Nat) {y pc0 len : Nat} {as rest : List xV} {L0 : xL} {h0 : xH} (he : ∀ n d v h', xC X d (xF X xtt d) P (n + k) pc L st h (.inl v) h' = ∃ (o1 : xO) (h1 : xH), xF X xtt d y as h0 o1 h1 ∧ xback P.2.1 pc0 len L0 rest o1 h1 (fun pc L st h => xC X d (xF X xtt d) P n pc L st h (.inl v) h')) (g : xM X y as h0 (xBk X P pc0 len L0 rest Φ)) : xW X P pc L st h Φ := by
  obtain ⟨o1, h1, d1, hF, hB⟩ := g
  have key : ∀ (pc1 : Nat) (L1 : xL) (st1 : List xV), xW X P pc1 L1 st1 h1 Φ → (∀ n d v h', xC X d (xF X xtt d) P n pc1 L1 st1 h1 (.inl v) h' → xback P.2.1 pc0 len L0 rest o1 h1 (fun pc L st h => xC X d (xF X xtt d) P n pc L st h (.inl v) h')) → xW X P pc L st h Φ := by
    intro pc1 L1 st1 ⟨v, h', n, d, hn, hv⟩ hb
    refine ⟨v, h', n + k, max d d1, ?_, hv⟩
    rw [he]
    refine ⟨o1, h1, xF_mono _ _ _ _ _ _ _ (Nat.le_max_right _ _) hF, hb n _ v h' ?_⟩
    exact xC_mono (fun z as h o h1 => xF_mono _ _ z as h o h1 (Nat.le_max_left _ _)) n n _ _ _ _ (Nat.le_refl _) hn
  rcases o1 with (_ | w) | kk
  · exact key _ _ _ hB (fun n d v h' g => g)
  · exact key _ _ _ hB (fun n d v h' g => g)
  · unfold xBk at hB
    dsimp only at hB
    cases hq : xcatch P.2.1 pc0 kk with
    | none => rw [hq] at hB; exact hB.elim
    | some q =>
      rw [hq] at hB
      exact key _ _ _ hB (fun n d v h' g => by
        unfold xback
        dsimp only
        rw [hq]
        exact g)
theorem xW.ret (k : Nat) {v0 : Option xV} (he : ∀ n d v h', xC X d (xF X xtt d) P (n + k) pc L st h (.inl v) h' = (([] : List xV) = [] ∧ (.inl v : xO) = .inl v0 ∧ h' = h1)) (g : Φ v0 h1) : xW X P pc L st h Φ := ⟨v0, h1, 0 + k, 0, by rw [he]; exact ⟨rfl, rfl, rfl⟩, g⟩
theorem xW.retz (k : Nat) {v0 : Option xV} {c : Prop} (he : ∀ n d v h', xC X d (xF X xtt d) P (n + k) pc L st h (.inl v) h' = (([] : List xV) = [] ∧ c ∧ (.inl v : xO) = .inl v0 ∧ h' = h1)) (hc : c) (g : Φ v0 h1) : xW X P pc L st h Φ := ⟨v0, h1, 0 + k, 0, by rw [he]; exact ⟨rfl, hc, rfl, rfl⟩, g⟩
/-- a reference is read at a place that isn't a number -/
theorem xW.refr (k : Nat) {r a kind : Nat} {h0 : xH} {c : Prop} (he : ∀ n d v h', xC X d (xF X xtt d) P (n + k) pc L st h (.inl v) h' = (c ∧ xrd h0 r kind fun w => xC X d (xF X xtt d) P n pc1 L1 (w :: st1) h1 (.inl v) h')) (hc : c) (hr : r = a + 1) (hk : (xK h0 a).1 = kind) (g : xW X P pc1 L1 (vr kind a :: st1) h1 Φ) : xW X P pc L st h Φ := by
  obtain ⟨v, h', n, d, hn, hv⟩ := g
  refine ⟨v, h', n + k, d, ?_, hv⟩
  rw [he]
  refine ⟨hc, ?_⟩
  subst hr
  subst hk
  show bif Nat.beq _ _ then _ else _
  rw [Nat.beq_refl]
  exact hn
theorem xW.refg (k : Nat) {r a kind : Nat} {h0 : xH} (he : ∀ n d v h', xC X d (xF X xtt d) P (n + k) pc L st h (.inl v) h' = (xrd h0 r kind fun w => xC X d (xF X xtt d) P n pc1 L1 (w :: st1) h1 (.inl v) h')) (hr : r = a + 1) (hk : (xK h0 a).1 = kind) (g : xW X P pc1 L1 (vr kind a :: st1) h1 Φ) : xW X P pc L st h Φ := by
  obtain ⟨v, h', n, d, hn, hv⟩ := g
  refine ⟨v, h', n + k, d, ?_, hv⟩
  rw [he]
  subst hr
  subst hk
  show bif Nat.beq _ _ then _ else _
  rw [Nat.beq_refl]
  exact hn
theorem xW.mono {Ψ : Option xV → xH → Prop} (g : xW X P pc L st h Φ) (hi : ∀ v h', Φ v h' → Ψ v h') : xW X P pc L st h Ψ := by
  obtain ⟨v, h', n, d, hn, hv⟩ := g
  exact ⟨v, h', n, d, hn, hi _ _ hv⟩
theorem xW.to {v v' : xV} (e : v' = v) (g : xW X P pc L (v :: st) h Φ) : xW X P pc L (v' :: st) h Φ := e ▸ g
/-- fewer locals do -/
theorem xW.locs {L' : xL} (hl : xlk L L') (hn : xndB L = true) (g : xW X P pc L st h Φ) : xW X P pc L' st h Φ := by
  obtain ⟨v, h', n, d, hn2, hv⟩ := g
  exact ⟨v, h', n, d, xC_sub n _ _ _ _ _ ⟨xnd_of hn, xlk_of hl⟩ hn2, hv⟩
theorem xW.sw {x : Int32} {lo hi dflt off : Int} {offs : Array Int} {pc0 : Nat} (k : Nat) (he : ∀ n d v h', xC X d (xF X xtt d) P (n + k) pc L st h (.inl v) h' = xsw (xtab x.toInt lo hi offs dflt) fun off => xC X d (xF X xtt d) P n ((pc0 : Int) + off).toNat L1 st1 h1 (.inl v) h') (ho : xtab x.toInt lo hi offs dflt = some off) (hp : ((pc0 : Int) + off).toNat = pc1) (g : xW X P pc1 L1 st1 h1 Φ) : xW X P pc L st h Φ := by
  obtain ⟨v, h', n, d, hn, hv⟩ := g
  refine ⟨v, h', n + k, d, ?_, hv⟩
  rw [he, ho]
  show xC X d (xF X xtt d) P n ((pc0 : Int) + off).toNat L1 st1 h1 (.inl v) h'
  rw [hp]
  exact hn
/-- a method that returns -/
theorem xM.of {y : Nat} {as : List xV} {Ψ : xO → xH → Prop} (hP : xtt y = P) (hL : xarg 0 as = L) (hw : Nat.ble (xwd as) P.2.2 = true) (g : xW X P 0 L [] h (fun v h' => Ψ (.inl v) h')) : xM X y as h Ψ := by
  obtain ⟨v, h', n, d, hn, hv⟩ := g
  subst hP
  subst hL
  exact ⟨.inl v, h', d + 1, ⟨Nat.le_of_ble_eq_true hw, n, hn⟩, hv⟩
/-- a method that throws -/
theorem xM.thr {y k : Nat} {as : List xV} {h' : xH} {Ψ : xO → xH → Prop} (hP : xtt y = P) (hL : xarg 0 as = L) (hw : Nat.ble (xwd as) P.2.2 = true) (n d : Nat) (hn : xC X d (xF X xtt d) (xro9 P) n 0 L [] h (.inr k) h') (g : Ψ (.inr k) h') : xM X y as h Ψ := by
  subst hP
  subst hL
  exact ⟨.inr k, h', d + 1, ⟨Nat.le_of_ble_eq_true hw, n, hn⟩, g⟩
end XWR
theorem xtab_out {x : Int32} {lo hi dflt : Int} {offs : Array Int} (h : ∀ i : Int, lo ≤ i → i ≤ hi → x.toInt ≠ i) : xtab x.toInt lo hi offs dflt = some dflt := by
  unfold xtab
  refine if_pos ?_
  by_cases h1 : x.toInt < lo
  · exact Or.inl h1
  · by_cases h2 : hi < x.toInt
    · exact Or.inr h2
    · exact absurd rfl (h x.toInt (by omega) (by omega))
def xneL (x : Int32) : List Int32 → Prop
  | [] => True
  | k :: r => ¬ x = k ∧ xneL x r
theorem xneL_of {x : Int32} : ∀ {ks : List Int32}, xneL x ks → ∀ k ∈ ks, x ≠ k := by
  intro ks
  induction ks with
  | nil => intro _ k hk; cases hk
  | cons a r ih =>
    intro h k hk
    rcases List.mem_cons.mp hk with rfl | hk
    · exact h.1
    · exact ih h.2 k hk
theorem xne_all {x : Int32} {lo hi : Int} (ks : List Int32) (hk : ((List.range (hi - lo + 1).toNat).all fun j => decide (Int32.ofInt (lo + (j : Int)) ∈ ks)) = true) (h : xneL x ks) : ∀ i : Int, lo ≤ i → i ≤ hi → x.toInt ≠ i := by
  intro i h1 h2 e
  have hj := List.all_eq_true.mp hk (i - lo).toNat (List.mem_range.mpr (by omega))
  rw [decide_eq_true_eq, show lo + (((i - lo).toNat : Nat) : Int) = i by omega, ← e, Int32.ofInt_toInt] at hj
  exact xneL_of h x hj rfl
