/-! The methods that are called are as the words say -/
def xMokB (tb : List Cond) (it : xMi) : Bool := decide (Cond.code it.1 it.2.1 it.2.2.1 it.2.2.2.1 ∈ tb) && (decide (Cond.initialized it.1.cls ∈ tb) && (decide (it.1.cls ≠ "java/lang/invoke/MethodHandle" ∧ it.1.cls ≠ "java/lang/invoke/VarHandle") && (plainName it.1.cls && (decide ((parseMethodDescriptor it.1.desc).map (fun d => d.parameters.length) = some it.2.2.2.2.2.2.2) && (match it.2.2.2.2.2.2.1 with
  | 0 => decide (Cond.static it.1 ∈ tb)
  | 1 => decide (it.1.name = "<init>") && (decide (Cond.instanceMethod it.1 ∈ tb) && decide (it.2.2.2.1 = none))
  | 2 => decide (Cond.instanceMethod it.1 ∈ tb) && decide (Cond.selects it.1.cls it.1 it.1 ∈ tb)
  | _ => false)))))
theorem xMokB_of {tb : List Cond} {it : xMi} (h : xMokB tb it = true) : xMok tb it := by
  simp only [xMokB, Bool.and_eq_true, decide_eq_true_eq] at h
  obtain ⟨h1, h2, h3, h4, h5, h6⟩ := h
  refine ⟨h1, h2, h3, h4, h5, fun e => ?_, fun e => ?_, fun e => ?_⟩
  · rw [e] at h6; exact decide_eq_true_eq.mp h6
  · rw [e] at h6; simp only [Bool.and_eq_true, decide_eq_true_eq] at h6; exact h6
  · rw [e] at h6; simp only [Bool.and_eq_true, decide_eq_true_eq] at h6; exact h6
set_option maxRecDepth 100000 in
theorem mok_0 : ((List.range' 0 26).all fun y => xMokB lw_tbl (xmi y)) = true := by decide +kernel
set_option maxRecDepth 100000 in
theorem mok_26 : ((List.range' 26 26).all fun y => xMokB lw_tbl (xmi y)) = true := by decide +kernel
set_option maxRecDepth 100000 in
theorem mok_52 : ((List.range' 52 26).all fun y => xMokB lw_tbl (xmi y)) = true := by decide +kernel
set_option maxRecDepth 100000 in
theorem mok_78 : ((List.range' 78 26).all fun y => xMokB lw_tbl (xmi y)) = true := by decide +kernel
set_option maxRecDepth 100000 in
theorem mok_104 : ((List.range' 104 26).all fun y => xMokB lw_tbl (xmi y)) = true := by decide +kernel
set_option maxRecDepth 100000 in
theorem mok_130 : ((List.range' 130 26).all fun y => xMokB lw_tbl (xmi y)) = true := by decide +kernel
set_option maxRecDepth 100000 in
theorem mok_156 : ((List.range' 156 26).all fun y => xMokB lw_tbl (xmi y)) = true := by decide +kernel
set_option maxRecDepth 100000 in
theorem mok_182 : ((List.range' 182 26).all fun y => xMokB lw_tbl (xmi y)) = true := by decide +kernel
theorem xMok_all {y : Nat} (h : y < 208) : xMok lw_tbl (xmi y) := by
  have key : ∀ a, ((List.range' a 26).all fun y => xMokB lw_tbl (xmi y)) = true → a ≤ y → y < a + 26 → xMok lw_tbl (xmi y) := fun a hm h1 h2 => xMokB_of (List.all_eq_true.mp hm y (List.mem_range'_1.mpr ⟨h1, h2⟩))
  have : y < 26 ∨ (26 ≤ y ∧ y < 52) ∨ (52 ≤ y ∧ y < 78) ∨ (78 ≤ y ∧ y < 104) ∨ (104 ≤ y ∧ y < 130) ∨ (130 ≤ y ∧ y < 156) ∨ (156 ≤ y ∧ y < 182) ∨ (182 ≤ y ∧ y < 208) := by omega
  rcases this with g | g | g | g | g | g | g | g
  · exact key 0 mok_0 (Nat.zero_le _) g
  · exact key 26 mok_26 g.1 g.2
  · exact key 52 mok_52 g.1 g.2
  · exact key 78 mok_78 g.1 g.2
  · exact key 104 mok_104 g.1 g.2
  · exact key 130 mok_130 g.1 g.2
  · exact key 156 mok_156 g.1 g.2
  · exact key 182 mok_182 g.1 g.2
