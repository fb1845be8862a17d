/-! THE SOUNDNESS OF ALL METHODS, by their depth -/
/-- a walk to a throw has a throwing row -/
theorem xC_inr {X : xX} {d : Nat} {C : Nat → List xV → xH → xO → xH → Prop} {P : xP} {k : Nat} {h' : xH} : ∀ (n pc : Nat) (L : xL) (st : List xV) (h : xH), xC X d C (xro9 P) n pc L st h (.inr k) h' → ∃ pc1 q, P.1 pc1 = some q ∧ 2000 ≤ q.2.2.1 ∧ ∃ idx, q.1 = .new idx := by
  intro n
  induction n with
  | zero => intro pc L st h hx; exact hx.elim
  | succ n ih =>
    intro pc L st h hx
    unfold xC at hx
    cases hq0 : (xro9 P).1 pc with
    | none => rw [hq0] at hx; exact hx.elim
    | some q =>
      rw [hq0] at hx
      obtain ⟨hq, hro⟩ := xro9_of hq0
      obtain ⟨i, len, a, b, v⟩ := q
      dsimp only at hx
      cases i with
      | new idx => exact ⟨pc, _, hq, Nat.le_of_ble_eq_true hro, idx, rfl⟩
      | iconst _ => exact ih _ _ _ _ hx
      | bipush _ => exact ih _ _ _ _ hx
      | sipush _ => exact ih _ _ _ _ hx
      | iload n1 =>
        obtain ⟨x, -, g⟩ := xildr_of hx
        exact ih _ _ _ _ g
      | iload_n n1 =>
        obtain ⟨x, -, g⟩ := xildr_of hx
        exact ih _ _ _ _ g
      | aload n1 =>
        simp only [xDo] at hx
        obtain ⟨x, -, g⟩ := xaldr_of hx
        exact ih _ _ _ _ g
      | aload_n n1 =>
        simp only [xDo] at hx
        obtain ⟨x, -, g⟩ := xaldr_of hx
        exact ih _ _ _ _ g
      | goto _ => exact ih _ _ _ _ hx
      | isub =>
        obtain ⟨x, r, -, g⟩ := xi1_of hx
        obtain ⟨x2, r2, -, g2⟩ := xi1_of g
        exact ih _ _ _ _ g2
      | iadd =>
        obtain ⟨x, r, -, g⟩ := xi1_of hx
        obtain ⟨x2, r2, -, g2⟩ := xi1_of g
        exact ih _ _ _ _ g2
      | ifCond cond _ =>
        obtain ⟨x, r, -, g⟩ := xi1_of hx
        have key : ∀ (c : Prop) (A B : Prop), xbr c A B → A ∨ B := fun c A B z => by
          by_cases hc : c
          · exact Or.inl (z.1 hc)
          · exact Or.inr (z.2 hc)
        have g2 : xC X d C (xro9 P) n a L r h (.inr k) h' ∨ xC X d C (xro9 P) n (pc + len) L r h (.inr k) h' := by
          cases cond <;> exact key _ _ _ g
        rcases g2 with g | g
        · exact ih _ _ _ _ g
        · exact ih _ _ _ _ g
      | if_icmp cond _ =>
        obtain ⟨x, r, -, g⟩ := xi1_of hx
        obtain ⟨x2, r2, -, g3⟩ := xi1_of g
        have key : ∀ (c : Prop) (A B : Prop), xbr c A B → A ∨ B := fun c A B z => by
          by_cases hc : c
          · exact Or.inl (z.1 hc)
          · exact Or.inr (z.2 hc)
        have g2 : xC X d C (xro9 P) n a L r2 h (.inr k) h' ∨ xC X d C (xro9 P) n (pc + len) L r2 h (.inr k) h' := by
          cases cond <;> exact key _ _ _ g3
        rcases g2 with g | g
        · exact ih _ _ _ _ g
        · exact ih _ _ _ _ g
      | getfield _ =>
        simp only [xDo] at hx
        obtain ⟨k1, q1, r, -, g⟩ := xa1_of hx
        obtain ⟨-, g⟩ := xbif_of g
        split at g
        · exact ih _ _ _ _ g
        · exact ih _ _ _ _ g
        · unfold xrd at g
          split at g
          · exact ih _ _ _ _ g
          · obtain ⟨-, g⟩ := xbif_of g
            exact ih _ _ _ _ g
      | _ => cases hro
section XDP
variable {l : Launch} {D : va_G} {dA : Nat → ClassId} {tys : List (ClassId × FieldType)} {A : Nat → Prop} {X : xX}
theorem xdepth (hlt : l.stackTraces = false) (htab : xTab lw_tbl xcl xfts dA tys xmi 208) : ∀ d : Nat,
    (∀ (y : Nat) (as : List xV) (h : xH) (v : Option xV) (h' : xH), y < 208 → xF X xtt d y as h (.inl v) h' → xCon lw_tbl xcl xfts dA D tys xsT A X l (xmi y) as h v h') ∧
    (∀ (y : Nat) (as : List xV) (h : xH) (k : Nat) (h' : xH), y < 208 → xF X xtt d y as h (.inr k) h' → xConX lw_tbl xcl xfts dA D tys xsT A X l (xmi y) as h k h') := by
  intro d
  induction d with
  | zero => exact ⟨fun _ _ _ _ _ _ hx => hx.elim, fun _ _ _ _ _ _ hx => hx.elim⟩
  | succ d ih =>
    refine ⟨fun y as h v h' hy hx => ?_, fun y as h k h' hy hx => ?_⟩
    · obtain ⟨hwd, n, hn⟩ := hx
      exact xsoundN (host := "TwinEntry") (NM := 208) (d := d) (C := xF X xtt d) (P := xtt y) (n := n) (xMok_all hy).2.2.2.1 htab (fun z v1 hz => Or.inl (xMok_all hz)) (xrows_all (by omega)) (xnoh_all hy) (xml_all (by omega)) (fun z as h v1 h1 hz g => ih.1 z as h v1 h1 hz g) (fun z as h o h1 g => xF_le d z as h o h1 g) hwd hn
    · obtain ⟨hwd, n, hn⟩ := hx
      obtain ⟨pc1, q, g1, g2, g3⟩ := xC_inr n _ _ _ _ hn
      obtain ⟨-, hf, hl9⟩ := xthr_all hy g1 g2 g3
      exact xsoundX (host := "TwinEntry") (NM := 208) (d := d) (C := xF X xtt d) (P := xtt y) (n := n) (xMok_all hy).2.2.2.1 htab hlt (xrows_all (by omega)) (fun pc q w1 w2 w3 => (xthr_all hy w1 w2 w3).1) (xml_all (by omega)) hf hl9 hwd hn
theorem xdepthW (hlt : l.stackTraces = false) (htab : xTab lw_tbl xcl xfts dA tys xmi 208) (d : Nat) (y : Nat) (as : List xV) (h : xH) (v : Option xV) (h' : xH) (h1 : 208 ≤ y) (h2 : y < 220) (hx : xF X xtt d y as h (.inl v) h') : xConW lw_tbl xcl xfts dA D tys xsT A X l (xmi y) (xhh y) as h v h' := by
  cases d with
  | zero => exact hx.elim
  | succ d =>
    obtain ⟨hwd, n, hn⟩ := hx
    refine xsoundW (host := "TwinEntry") (NM := 208) (d := d) (C := xF X xtt d) (P := xtt y) (n := n) (xMokW_all h1 h2).2 htab (fun z hz => xMok_all hz) (xrows_all h2) ?_ (xhdB_all h1 h2) xcast_all (xml_all h2) ?_ (fun z as h v1 h1 hz g => (xdepth hlt htab d).1 z as h v1 h1 hz g) (fun z as h k h1 hz g => (xdepth hlt htab d).2 z as h k h1 hz g) (fun z as h o h1 g => xF_le d z as h o h1 g) hwd hn
    · intro pc q hq idx
      have g := xplV_all h1 h2 hq
      refine ⟨fun e => ?_, fun e => ?_⟩
      · simp only [xplV, e] at g
        cases g
      · simp only [xplV, e] at g
        cases g
    · intro pc q hq idx e
      have g := xplV_all h1 h2 hq
      simp only [xplV, e] at g
      exact g
theorem xlaw_plain {pc : Nat} {q : xT} (hq : p220.1 pc = some q) : xplL (pc, q) = true := xfind2_all xplL_b hq
end XDP
