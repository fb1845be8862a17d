section XLG
variable {p : Program} {l : Launch} {e : Env} {R : Room} {s : State} {m : MethodId} {args : Array Value} {below : List Frame} {meth : Method} {c : Code} {Q : State → Prop}
variable {D : va_G} {cl : List vw_C} {ft : Nat → Nat → FieldType} {dA : Nat → ClassId} {tys : List (ClassId × FieldType)} {sT : String × String × String} {A : Nat → Prop} {X : xX} {E0 : xPhi} {h' : xH} {tb : List Cond} {host : String} {MI : Nat → xMi} {NM NA y d : Nat} {C : Nat → List xV → xH → xO → xH → Prop} {x0 : Int32} {HH : Nat → List (Nat × Nat × Nat × Nat)}
set_option maxHeartbeats 4000000 in
/-- THE LAW'S WALK: methods below NM are plain, those from NM to NA catch -/
theorem xwalkL {P : xP} (hsur : xSur p s m args meth c R tb cl D tys A (MI y).2.1 (MI y).2.2.1 (MI y)) (htab : xTab tb cl ft dA tys MI NM) (hX : xHx sT A E0 X s s.heap) (hT0 : xTx tb A s s.heap) (hNa : xNa s) (hMz : ∀ z, z < NM → xMok tb (MI z)) (hMW : ∀ z, NM ≤ z → z < NA → xMokW tb (MI z) (HH z)) (hNM : NM ≤ 900 ∧ NA ≤ 900) (hrow : xRows cl ft tb host sT MI NA y P) (hplain : ∀ pc q, P.1 pc = some q → ∀ idx, q.1 = .invokestatic idx → NM ≤ q.2.2.1 → q.2.2.1 < NA → xhas tb (xcp q.2.2.2.2) (.methodLink (MI y).1.cls idx (MI q.2.2.1).1) = true) (hinvN : ∀ pc q, P.1 pc = some q → ∀ idx, (q.1 = .invokevirtual idx ∨ q.1 = .invokespecial idx) → q.2.2.1 < NM) (hnoh : P.2.1 = [])
    (hC : ∀ (z : Nat) (as : List xV) (h : xH) (v1 : Option xV) (h1 : xH), z < NM → C z as h (.inl v1) h1 → xCon tb cl ft dA D tys sT A X l (MI z) as h v1 h1) (hCW : ∀ (z : Nat) (as : List xV) (h : xH) (v1 : Option xV) (h1 : xH), NM ≤ z → z < NA → C z as h (.inl v1) h1 → xConW tb cl ft dA D tys sT A X l (MI z) (HH z) as h v1 h1) (hCle : ∀ z as h o h1, C z as h o h1 → xle h h1)
    (hend : ∀ (pc : Nat) (H : Heap) (locs : List Loc) (ls : Array Slot) (cells slots : Nat), decode (MI y).2.1 pc = .ok (.ireturn, 1) → va_S A s.heap H locs → cells ≤ R.cells → slots ≤ R.slots → W p l e R s m args below meth c H locs cells slots Q (F0 m pc ls [.int x0])) (hret : (MI y).2.2.2.1 = some .boolean) :
    ∀ (n pc : Nat) (E : xPhi) (L : xL) (st : List xV) (h : xH) (H : Heap) (locs : List Loc) (ls : Array Slot) (cells slots : Nat), xC X d C P n pc L st h (.inl (some (vi x0))) h' → E.2 = E0.2 → lv_has ls (MI y).2.2.1 (xtL E L) → xwts h L st → xPt cl ft dA D E h H → xWf A E h → va_S A s.heap H locs → cells + (xQ h' - xQ h) ≤ R.cells → slots + (xZ h' - xZ h) ≤ R.slots → W p l e R s m args below meth c H locs cells slots Q (F0 m pc ls (st.map (xtr E))) := by
  intro n
  induction n with
  | zero => intro pc E L st h H locs ls cells slots hx; exact hx.elim
  | succ n ih =>
    intro pc E L st h H locs ls cells slots hx hE2 hl hw hP hW hS hRc hRs
    unfold xC at hx
    cases hq : P.1 pc with
    | none => rw [hq] at hx; exact hx.elim
    | some q =>
      rw [hq] at hx
      obtain ⟨hdg, hok, hok2⟩ := hrow pc q hq
      have hpl := hplain pc q hq
      have hiv := hinvN pc q hq
      obtain ⟨i, len, a, b, v⟩ := q
      dsimp only at hx hdg hok hok2 hpl hiv
      have hX1 : xHx sT A E X s s.heap := hX.moved (Vm.Alike.refl _) hE2 (fun _ _ _ => rfl)
      have go : xGo p l e R s m args below meth c Q cl ft dA D A (MI y).2.2.1 h h' E (fun pc L st h => xC X d C P n pc L st h (.inl (some (vi x0))) h') :=
        fun E1 pc1 L1 st1 h1 H1 locs1 ls1 cells1 slots1 k1 k2 k3 k4 k5 k6 k7 k8 k9 k10 k11 => ih pc1 E1 L1 st1 h1 H1 locs1 ls1 cells1 slots1 k1 (k4.trans hE2) k5 k6 k7 k8 k9 k10 k11
      have hKle : ∀ pc1 L1 st1 h1, xC X d C P n pc1 L1 st1 h1 (.inl (some (vi x0))) h' → xle h1 h' := fun pc1 L1 st1 h1 g => xC_le hCle n pc1 L1 st1 h1 _ _ g
      have hends : xEnds i a = true → W p l e R s m args below meth c H locs cells slots Q (F0 m pc ls (st.map (xtr E))) := by
        intro he
        rcases hok2 he with g | ⟨idx, g⟩
        · cases i with
          | return_ =>
            obtain ⟨-, e1, -⟩ := hx
            cases e1
          | lreturn =>
            obtain ⟨z, r, -, -, e1, -⟩ := xj1_of hx
            cases e1
          | areturn =>
            simp only [xDo] at hx
            obtain ⟨k, q, r, -, -, e1, -⟩ := xa1_of hx
            cases e1
          | ireturn =>
            simp only [xok2, Bool.and_eq_true, decide_eq_true_eq] at g
            obtain ⟨rfl, -⟩ := g
            have key : ∃ r, st = vi x0 :: r ∧ r = [] := by
              simp only [xDo] at hx
              split at hx
              · obtain ⟨z, r, e0, e1, e2, -⟩ := xi1_of hx
                cases e2
                exact ⟨r, e0, e1⟩
              · obtain ⟨z, r, e0, e1, -, e2, -⟩ := xi1_of hx
                cases e2
                exact ⟨r, e0, e1⟩
            obtain ⟨r, rfl, rfl⟩ := key
            exact hend pc H locs ls cells slots hdg hS (by omega) (by omega)
          | new idx => cases g.symm.trans (show xok2 cl ft tb host sT MI NA y (.new idx) len a b v = false from by
              have g2 : 40 ≤ a := Nat.le_of_ble_eq_true he
              have g3 : decide (a < 40) = false := decide_eq_false (by omega)
              simp only [xok2, g3, Bool.false_and, Bool.and_false])
          | _ => cases he
        · subst g
          simp only [xDo] at hx
          have h40 : Nat.blt a 40 = false := by
            cases hz : Nat.blt a 40 with
            | false => rfl
            | true =>
              have g1 : a + 1 ≤ 40 := Nat.le_of_ble_eq_true hz
              have g2 : 40 ≤ a := Nat.le_of_ble_eq_true he
              omega
          rw [h40] at hx
          cases hx.2.1
      have hno : ∀ (k : Nat) (h1 : xH) (q : Nat × Nat), xInvk cl tb host MI NM y i a b st → b ≤ st.length → xwd (st.drop b) ≤ 8 → C a (st.take b).reverse h (.inr k) h1 → xcatch P.2.1 pc k = some q → xC X d C P n q.2 (xoff L q.1) [] h1 (.inl (some (vi x0))) h' → W p l e R s m args below meth c H locs cells slots Q (F0 m pc ls (st.map (xtr E))) := by
        intro k h1 q1 _ _ _ _ g
        rw [hnoh] at g
        cases g
      have plain : (xEnds i a = true ∨ xok1 (MI y).2.2.1 pc i len a v = true ∨ xok2 cl ft tb host sT MI NM y i len a b v = true ∨ xok3 pc i = true) → W p l e R s m args below meth c H locs cells slots Q (F0 m pc ls (st.map (xtr E))) := fun hok9 =>
        xstep (host := host) (NM := NM) hsur htab hX1 (fun ha v1 => Or.inl (hMz _ ha)) hok9 hdg hx (fun as v1 h1 ha g => hC _ as h v1 h1 ha g) hCle hKle hl hw hP hW hS hRc hRs hends hno go
      rcases hok with hok | hok | hok | hok
      · exact plain (Or.inl hok)
      · exact plain (Or.inr (Or.inl hok))
      · by_cases hst : ∃ idx, i = .invokestatic idx
        · obtain ⟨idx, rfl⟩ := hst
          by_cases haN : a < NM
          · exact plain (Or.inr (Or.inr (Or.inl (xok2_fewer hok haN))))
          · cases hb1 : Nat.ble 1000 a with
            | true =>
              refine plain (Or.inr (Or.inr (Or.inl ?_)))
              simp only [xok2] at hok ⊢
              rw [hb1] at hok ⊢
              exact hok
            | false =>
              simp only [xok2, Bool.and_eq_true, decide_eq_true_eq] at hok
              obtain ⟨rfl, hf⟩ := hok
              rw [hb1] at hf
              simp only [cond_false, Bool.and_eq_true, decide_eq_true_eq] at hf
              obtain ⟨haA, hco⟩ := hf
              have hlk := hpl idx rfl (by omega) haA
              obtain ⟨g1, g2⟩ := xhas_of hlk
              simp only [xcok, Bool.and_eq_true, Bool.or_eq_true, decide_eq_true_eq] at hco
              obtain ⟨-, hkk, hna, hfr, hlo⟩ := hco
              have hna : (MI a).2.2.2.2.2.2.2 + 0 = b := hna
              obtain ⟨hexec, hb, hml, hown, hmn, hts, hK, hA, hRf, hRl⟩ := id hsur
              simp only [xDo] at hx
              rw [hb1] at hx
              obtain ⟨hbb, o1, h1, hc, hy⟩ := xbif_of hx
              rw [Bool.and_eq_true] at hbb
              have hbl := Nat.le_of_ble_eq_true hbb.1
              have hwd := Nat.le_of_ble_eq_true hbb.2
              rcases o1 with v1 | k
              · have hx1 : xC X d C P n (pc + 3) L (v1.toList ++ st.drop b) h1 (.inl (some (vi x0))) h' := by
                  cases v1 with
                  | none => exact hy
                  | some w => exact hy
                have hle := hCle _ _ _ _ _ hc
                have hle1 := hKle _ _ _ _ hx1
                have hq1 := hle.2.1
                have hq2 := hle1.2.1
                have hz1 := hle.2.2.1
                have hz2 := hle1.2.2.1
                have hst9 : st = (st.take b).reverse.reverse ++ st.drop b := by rw [List.reverse_reverse, List.take_append_drop]
                rw [hst9]
                rw [hst9] at hw
                exact xs_callW (hh := HH a) hexec hb hml hown hts hK hX1 hT0 hNa hA (hMW a (by omega) haA) (by omega) (by omega) (hts _ g1 g2) hS hP hW hl hle (by rw [List.length_reverse, List.length_take]; omega) hw hwd (hCW a _ h v1 h1 (by omega) haA hc) (by omega) (by omega) hdg (fun E1 H1 locs1 k1 k2 k3 k4 k5 k6 k7 => go E1 _ _ _ _ H1 locs1 ls _ _ hx1 hle k1 k2 k6 k7 k3 k4 k5 (by omega) (by omega))
              · have hy : (match xcatch P.2.1 pc k with | some q => xC X d C P n q.2 (xoff L q.1) [] h1 (.inl (some (vi x0))) h' | none => False) := hy
                rw [hnoh] at hy
                exact hy.elim
        · by_cases hvs : ∃ idx, i = .invokevirtual idx ∨ i = .invokespecial idx
          · obtain ⟨idx, hvs⟩ := hvs
            exact plain (Or.inr (Or.inr (Or.inl (xok2_fewer hok (hiv idx hvs)))))
          · exact plain (Or.inr (Or.inr (Or.inl (xok2_lib hok (fun idx => ⟨fun g => hst ⟨idx, g⟩, fun g => hvs ⟨idx, Or.inl g⟩, fun g => hvs ⟨idx, Or.inr g⟩⟩)))))
      · exact plain (Or.inr (Or.inr (Or.inr hok)))
end XLG
