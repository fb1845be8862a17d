/-! The claim's tables are as they must be: closed facts. -/
theorem xcl_lt {ci : Nat} {r : vw_C} (h : xcl[ci]? = some r) : ci < 13 := (List.getElem?_eq_some_iff.mp h).1
/-- words, by a program's check -/
def xinB (tb : List Cond) (ws : List Cond) : Bool := ws.all fun w => decide (w ∈ tb) && goodWord w
set_option maxRecDepth 100000 in
theorem xClOk_all : xClOk lw_tbl xcl xfts := by
  intro ci r hr
  have hlt := xcl_lt hr
  have key : ∀ ci, ci < 13 → ∀ r, xcl[ci]? = some r → xinB lw_tbl (u_ws r.1 r.2.1 r.2.2) = true ∧ (∀ k, k < r.2.2 → parseFieldDescriptor (r.2.1 k).2.2.1 = some (xfts ci k)) ∧ (∀ a, a < r.2.2 → ∀ b, b < r.2.2 → a ≠ b → (r.2.1 a).2.1 ≠ (r.2.1 b).2.1) ∧ (∀ k, k < r.2.2 → xft (xfts ci k) = 3 → defaultValue (xfts ci k) = .null) ∧ Cond.instantiable r.1 r.2.2 ∈ lw_tbl ∧ Cond.initialized r.1 ∈ lw_tbl := by
    intro ci hci r hr
    have : ci = 0 ∨ ci = 1 ∨ ci = 2 ∨ ci = 3 ∨ ci = 4 ∨ ci = 5 ∨ ci = 6 ∨ ci = 7 ∨ ci = 8 ∨ ci = 9 ∨ ci = 10 ∨ ci = 11 ∨ ci = 12 := by omega
    rcases this with rfl | rfl | rfl | rfl | rfl | rfl | rfl | rfl | rfl | rfl | rfl | rfl | rfl <;> (cases hr; exact ⟨by decide +kernel, by decide +kernel, by decide +kernel, by decide +kernel, by decide +kernel, by decide +kernel⟩)
  obtain ⟨h1, h2⟩ := key ci hlt r hr
  refine ⟨fun w hw => ?_, h2⟩
  have h3 := List.all_eq_true.mp h1 w hw
  simp only [Bool.and_eq_true, decide_eq_true_eq] at h3
  exact h3
set_option maxRecDepth 100000 in
theorem xLibOk_all : xLibOk lw_tbl := ⟨by decide +kernel, ⟨by decide +kernel, by decide +kernel⟩, ⟨by decide +kernel, by decide +kernel⟩, ⟨by decide +kernel, by decide +kernel⟩, ⟨by decide +kernel, by decide +kernel⟩⟩
set_option maxRecDepth 100000 in
theorem xObj_all : Cond.instanceMethod objectInit ∈ lw_tbl ∧ Cond.code objectInit ⟨#[0xb1]⟩ 1 none ∈ lw_tbl := ⟨by decide +kernel, by decide +kernel⟩
