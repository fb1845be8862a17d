/-! THE OBJECTS' LAYOUT once all are made (244 cells): references and kinds never change again; what changes are ints and longs -/
def xRl (a : Nat) : List Nat := (bif Nat.blt a 109 then (bif Nat.blt a 48 then (bif Nat.blt a 6 then (bif Nat.blt a 3 then (bif Nat.blt a 1 then [2, 36, 39, 48, 224, 226] else (bif Nat.blt a 2 then [3, 32, 0, 0, 33, 34, 35] else [4, 19, 20, 21, 22, 23, 5, 6, 8])) else (bif Nat.blt a 4 then [9, 10, 11, 12, 13, 14, 15, 16, 17, 18, 19, 20, 21, 22, 23] else (bif Nat.blt a 5 then [24, 25, 26, 27, 28, 29, 30, 31] else [7]))) else (bif Nat.blt a 38 then (bif Nat.blt a 35 then [] else (bif Nat.blt a 36 then [37, 0, 0, 38] else [])) else (bif Nat.blt a 39 then [0, 0, 40, 41, 42, 43, 44, 45, 46, 47] else (bif Nat.blt a 47 then [] else [0, 49])))) else (bif Nat.blt a 78 then (bif Nat.blt a 51 then (bif Nat.blt a 49 then [50, 79, 108, 137, 166, 195] else (bif Nat.blt a 50 then [51, 66, 67, 68, 69, 70, 52, 53, 55] else [56, 57, 58, 59, 60, 61, 62, 63, 64, 65, 66, 67, 68, 69, 70])) else (bif Nat.blt a 52 then [71, 72, 73, 74, 75, 76, 77, 78] else (bif Nat.blt a 53 then [54] else []))) else (bif Nat.blt a 81 then (bif Nat.blt a 79 then [80, 95, 96, 97, 98, 99, 81, 82, 84] else (bif Nat.blt a 80 then [85, 86, 87, 88, 89, 90, 91, 92, 93, 94, 95, 96, 97, 98, 99] else [100, 101, 102, 103, 104, 105, 106, 107])) else (bif Nat.blt a 107 then (bif Nat.blt a 82 then [83] else []) else (bif Nat.blt a 108 then [109, 124, 125, 126, 127, 128, 110, 111, 113] else [114, 115, 116, 117, 118, 119, 120, 121, 122, 123, 124, 125, 126, 127, 128]))))) else (bif Nat.blt a 194 then (bif Nat.blt a 139 then (bif Nat.blt a 136 then (bif Nat.blt a 110 then [129, 130, 131, 132, 133, 134, 135, 136] else (bif Nat.blt a 111 then [112] else [])) else (bif Nat.blt a 137 then [138, 153, 154, 155, 156, 157, 139, 140, 142] else (bif Nat.blt a 138 then [143, 144, 145, 146, 147, 148, 149, 150, 151, 152, 153, 154, 155, 156, 157] else [158, 159, 160, 161, 162, 163, 164, 165]))) else (bif Nat.blt a 166 then (bif Nat.blt a 140 then [141] else (bif Nat.blt a 165 then [] else [167, 182, 183, 184, 185, 186, 168, 169, 171])) else (bif Nat.blt a 168 then (bif Nat.blt a 167 then [172, 173, 174, 175, 176, 177, 178, 179, 180, 181, 182, 183, 184, 185, 186] else [187, 188, 189, 190, 191, 192, 193, 194]) else (bif Nat.blt a 169 then [170] else [])))) else (bif Nat.blt a 224 then (bif Nat.blt a 197 then (bif Nat.blt a 195 then [196, 211, 212, 213, 214, 215, 197, 198, 200] else (bif Nat.blt a 196 then [201, 202, 203, 204, 205, 206, 207, 208, 209, 210, 211, 212, 213, 214, 215] else [216, 217, 218, 219, 220, 221, 222, 223])) else (bif Nat.blt a 198 then [199] else (bif Nat.blt a 223 then [] else [0, 0, 225]))) else (bif Nat.blt a 228 then (bif Nat.blt a 225 then [] else (bif Nat.blt a 226 then [227, 0, 0, 228, 229] else [])) else (bif Nat.blt a 230 then (bif Nat.blt a 229 then [230] else []) else (bif Nat.blt a 231 then [0, 232, 233, 0, 0, 0, 234, 235, 0, 0, 0, 0, 0, 0, 236, 237, 238, 0, 0, 239, 0, 240, 0, 241, 0, 242, 0, 0, 243] else []))))))
def xR0 (a k : Nat) : Nat := (xRl a).getD k 0
def xK0 (a : Nat) : Nat × Nat := (bif Nat.blt a 137 then (bif Nat.blt a 50 then (bif Nat.blt a 32 then (bif Nat.blt a 5 then (bif Nat.blt a 2 then (bif Nat.blt a 1 then (0, 7) else (1, 7)) else (bif Nat.blt a 3 then (2, 10) else (bif Nat.blt a 4 then (65, 15) else (65, 8)))) else (bif Nat.blt a 7 then (bif Nat.blt a 6 then (3, 3) else (40, 8)) else (bif Nat.blt a 8 then (4, 9) else (bif Nat.blt a 31 then (5, 2) else (6, 4))))) else (bif Nat.blt a 38 then (bif Nat.blt a 35 then (bif Nat.blt a 34 then (5, 2) else (4, 9)) else (bif Nat.blt a 36 then (7, 4) else (bif Nat.blt a 37 then (40, 100) else (40, 4)))) else (bif Nat.blt a 47 then (bif Nat.blt a 39 then (8, 10) else (5, 2)) else (bif Nat.blt a 48 then (9, 3) else (bif Nat.blt a 49 then (62, 6) else (2, 10)))))) else (bif Nat.blt a 82 then (bif Nat.blt a 55 then (bif Nat.blt a 52 then (bif Nat.blt a 51 then (65, 15) else (65, 8)) else (bif Nat.blt a 53 then (3, 3) else (bif Nat.blt a 54 then (40, 8) else (4, 9)))) else (bif Nat.blt a 79 then (bif Nat.blt a 78 then (5, 2) else (2, 10)) else (bif Nat.blt a 80 then (65, 15) else (bif Nat.blt a 81 then (65, 8) else (3, 3))))) else (bif Nat.blt a 109 then (bif Nat.blt a 84 then (bif Nat.blt a 83 then (40, 8) else (4, 9)) else (bif Nat.blt a 107 then (5, 2) else (bif Nat.blt a 108 then (2, 10) else (65, 15)))) else (bif Nat.blt a 112 then (bif Nat.blt a 110 then (65, 8) else (bif Nat.blt a 111 then (3, 3) else (40, 8))) else (bif Nat.blt a 113 then (4, 9) else (bif Nat.blt a 136 then (5, 2) else (2, 10))))))) else (bif Nat.blt a 224 then (bif Nat.blt a 169 then (bif Nat.blt a 142 then (bif Nat.blt a 139 then (bif Nat.blt a 138 then (65, 15) else (65, 8)) else (bif Nat.blt a 140 then (3, 3) else (bif Nat.blt a 141 then (40, 8) else (4, 9)))) else (bif Nat.blt a 166 then (bif Nat.blt a 165 then (5, 2) else (2, 10)) else (bif Nat.blt a 167 then (65, 15) else (bif Nat.blt a 168 then (65, 8) else (3, 3))))) else (bif Nat.blt a 196 then (bif Nat.blt a 171 then (bif Nat.blt a 170 then (40, 8) else (4, 9)) else (bif Nat.blt a 194 then (5, 2) else (bif Nat.blt a 195 then (2, 10) else (65, 15)))) else (bif Nat.blt a 199 then (bif Nat.blt a 197 then (65, 8) else (bif Nat.blt a 198 then (3, 3) else (40, 8))) else (bif Nat.blt a 200 then (4, 9) else (bif Nat.blt a 223 then (5, 2) else (10, 4)))))) else (bif Nat.blt a 234 then (bif Nat.blt a 229 then (bif Nat.blt a 226 then (bif Nat.blt a 225 then (40, 20) else (11, 7)) else (bif Nat.blt a 227 then (40, 120) else (bif Nat.blt a 228 then (40, 40) else (3, 3)))) else (bif Nat.blt a 231 then (bif Nat.blt a 230 then (40, 8) else (12, 34)) else (bif Nat.blt a 232 then (40, 640) else (bif Nat.blt a 233 then (41, 192) else (40, 100))))) else (bif Nat.blt a 239 then (bif Nat.blt a 236 then (bif Nat.blt a 235 then (40, 4) else (40, 5)) else (bif Nat.blt a 237 then (41, 5) else (bif Nat.blt a 238 then (40, 5) else (40, 24)))) else (bif Nat.blt a 242 then (bif Nat.blt a 240 then (40, 40) else (bif Nat.blt a 241 then (40, 100) else (40, 8))) else (bif Nat.blt a 243 then (40, 256) else (bif Nat.blt a 244 then (41, 1) else (98, 0))))))))
/-- ints, longs; cells and slots made -/
abbrev xS : Type := (Nat → Nat → Int32) × (Nat → Nat → Int64) × (Nat × Nat)
def xhp (s : xS) : xH := (s.1, s.2.1, xR0, xK0, 244, s.2.2)
def gI (s : xS) (a k : Nat) : Int32 := s.1 a k
def gJ (s : xS) (a k : Nat) : Int64 := s.2.1 a k
def sI (s : xS) (a k : Nat) (v : Int32) : xS := (xu s.1 a k v, s.2)
def sJ (s : xS) (a k : Nat) (v : Int64) : xS := (s.1, xu s.2.1 a k v, s.2.2)
theorem gI_sI (s : xS) (a k b j : Nat) (v : Int32) : gI (sI s a k v) b j = if b = a ∧ j = k then v else gI s b j := rfl
theorem gJ_sJ (s : xS) (a k b j : Nat) (v : Int64) : gJ (sJ s a k v) b j = if b = a ∧ j = k then v else gJ s b j := rfl
theorem gI_sJ (s : xS) (a k b j : Nat) (v : Int64) : gI (sJ s a k v) b j = gI s b j := rfl
theorem gJ_sI (s : xS) (a k b j : Nat) (v : Int32) : gJ (sI s a k v) b j = gJ s b j := rfl
/-- a truth value as an int -/
def zb (b : Bool) : Int32 := bif b then 1 else 0
theorem zb_eq0 {b : Bool} : zb b = 0 ↔ b = false := by cases b <;> decide
theorem zb_ne0 {b : Bool} : ¬ zb b = 0 ↔ b = true := by cases b <;> decide
theorem zb_eq1 {b : Bool} : zb b = 1 ↔ b = true := by cases b <;> decide
theorem zb01 (b : Bool) : zb b = 0 ∨ zb b = 1 := by cases b <;> decide
theorem zb_t {b : Bool} (h : b = true) : vi 1 = vi (zb b) := by rw [h]; rfl
theorem zb_f {b : Bool} (h : b = false) : vi 0 = vi (zb b) := by rw [h]; rfl
theorem zb_e {b c : Bool} (h : c = b) : vi (zb b) = vi (zb c) := by rw [h]
/-- a place of an array of objects holds one of a kind -/
def xRok (a i k : Nat) : Prop := xR0 a i = xR0 a i - 1 + 1 ∧ (xK0 (xR0 a i - 1)).1 = k
/-- as many turns of a loop as are ever wanted -/
noncomputable def xfu : Nat := Classical.choose (⟨1000, rfl⟩ : ∃ n : Nat, n = 1000)
theorem xfu_eq : xfu = 1000 := Classical.choose_spec (⟨1000, rfl⟩ : ∃ n : Nat, n = 1000)
/-- a desk's cells lie behind it -/
def xDk (B : Nat) : Prop := xR0 B 0 = B + 1 + 1 ∧ xR0 B 6 = B + 2 + 1 ∧ xR0 B 7 = B + 3 + 1 ∧ xR0 B 8 = B + 5 + 1 ∧ (xK0 (B + 1)).1 = 65 ∧ (xK0 (B + 2)).1 = 65 ∧ (xK0 (B + 3)).1 = 3 ∧ (xK0 (B + 5)).1 = 4 ∧ xR0 (B + 3) 0 = B + 4 + 1 ∧ (xK0 (B + 4)).1 = 40
theorem vp_lit {x : Int32} {n : Nat} (h : (decide (¬ (x < 0 ∨ n ≤ x.toNatClampNeg))) = true) : vp_in x n := by
  unfold vp_in
  exact of_decide_eq_true h
def labs (x : Int64) : Int64 := if 0 < x then x else -x
def iabs (x : Int32) : Int32 := if 0 ≤ x then x else 0 - x
def imin (x y : Int32) : Int32 := if y < x then y else x
def imax (x y : Int32) : Int32 := if x < y then y else x
def iten (x : Int32) : Int64 := xtens.getD x.toNatClampNeg 0
theorem l_tri (x y : Int64) : x < y ∨ x = y ∨ y < x := by
  rcases Int.lt_trichotomy x.toInt y.toInt with h | h | h
  · exact Or.inl (Int64.lt_iff_toInt_lt.mpr h)
  · exact Or.inr (Or.inl (Int64.toInt_inj.mp h))
  · exact Or.inr (Or.inr (Int64.lt_iff_toInt_lt.mpr h))
theorem lc_lt {x y : Int64} : lg_cmp x y < 0 ↔ x < y := by
  unfold lg_cmp
  rcases l_tri x y with h | h | h
  · rw [if_neg (Int64.not_lt.mpr (Int64.le_of_lt h)), if_neg (Int64.ne_of_lt h)]
    exact ⟨fun _ => h, fun _ => by decide⟩
  · subst h
    rw [if_neg (Int64.lt_irrefl), if_pos rfl]
    exact ⟨fun g => absurd g (by decide), fun g => absurd g Int64.lt_irrefl⟩
  · rw [if_pos h]
    exact ⟨fun g => absurd g (by decide), fun g => absurd g (Int64.not_lt.mpr (Int64.le_of_lt h))⟩
theorem lc_gt {x y : Int64} : 0 < lg_cmp x y ↔ y < x := by
  unfold lg_cmp
  rcases l_tri x y with h | h | h
  · rw [if_neg (Int64.not_lt.mpr (Int64.le_of_lt h)), if_neg (Int64.ne_of_lt h)]
    exact ⟨fun g => absurd g (by decide), fun g => absurd g (Int64.not_lt.mpr (Int64.le_of_lt h))⟩
  · subst h
    rw [if_neg (Int64.lt_irrefl), if_pos rfl]
    exact ⟨fun g => absurd g (by decide), fun g => absurd g Int64.lt_irrefl⟩
  · rw [if_pos h]
    exact ⟨fun _ => h, fun _ => by decide⟩
theorem lc_eq {x y : Int64} : lg_cmp x y = 0 ↔ x = y := by
  unfold lg_cmp
  rcases l_tri x y with h | h | h
  · rw [if_neg (Int64.not_lt.mpr (Int64.le_of_lt h)), if_neg (Int64.ne_of_lt h)]
    exact ⟨fun g => absurd g (by decide), fun g => absurd g (Int64.ne_of_lt h)⟩
  · subst h
    rw [if_neg (Int64.lt_irrefl), if_pos rfl]
    exact ⟨fun _ => rfl, fun _ => rfl⟩
  · rw [if_pos h]
    exact ⟨fun g => absurd g (by decide), fun g => absurd g.symm (Int64.ne_of_lt h)⟩
theorem lc_ge {x y : Int64} : 0 ≤ lg_cmp x y ↔ y ≤ x := by
  rw [← Int32.not_lt, lc_lt, Int64.not_lt]
theorem lc_le {x y : Int64} : lg_cmp x y ≤ 0 ↔ x ≤ y := by
  rw [← Int32.not_lt, lc_gt, Int64.not_lt]
