/-! BYTES OF A LONG -/
def byt (b : Int64) (i : Nat) : Nat := (b.toBitVec >>> (8 * i)).toNat % 256
theorem byt_lt (b : Int64) (i : Nat) : byt b i < 256 := Nat.mod_lt _ (by omega)
theorem i3_of_bits {x : Int32} {n : Nat} (h : x.toBitVec.toNat = n) (hn : n < 256) : x = i3 n := by
  apply Int32.toBitVec_inj.mp
  apply BitVec.eq_of_toNat_eq
  rw [h]
  unfold i3
  show n = (BitVec.ofInt 32 (n : Int)).toNat
  rw [BitVec.toNat_ofInt]
  omega
theorem trunc32 (x : BitVec 64) : (BitVec.signExtend 32 x).toNat = x.toNat % 4294967296 := by
  rw [BitVec.signExtend_eq_setWidth_of_le x (by omega), BitVec.toNat_setWidth]
theorem cbyte_core (b : Int64) (c : UInt64) {m : Nat} (hc : (c.toBitVec % 64).toNat = m) : ((((b.toUInt64 >>> c).toInt64).toInt32) &&& 255) = i3 ((b.toBitVec >>> m).toNat % 256 : Nat) := by
  apply i3_of_bits
  · rw [Int32.toBitVec_and, Int64.toBitVec_toInt32, UInt64.toBitVec_toInt64, UInt64.toBitVec_shiftRight, Int64.toBitVec_toUInt64, BitVec.toNat_and, trunc32]
    show _ % _ &&& 255 = _
    rw [show (255 : Nat) = 2 ^ 8 - 1 from rfl, Nat.and_two_pow_sub_one_eq_mod, BitVec.ushiftRight_eq', hc]
    omega
  · exact Nat.mod_lt _ (by omega)
theorem cbyte (b : Int64) {i : Nat} (hi : i < 8) : te_byteOf b (i3 i) = i3 (byt b i : Nat) := by
  unfold te_byteOf byt
  have : i = 0 ∨ i = 1 ∨ i = 2 ∨ i = 3 ∨ i = 4 ∨ i = 5 ∨ i = 6 ∨ i = 7 := by omega
  rcases this with w | w | w | w | w | w | w | w <;> subst w <;> exact cbyte_core b _ rfl
theorem sshift_low (x : BitVec 64) {m : Nat} (hm : m ≤ 56) : (x.sshiftRight m).toNat % 256 = (x >>> m).toNat % 256 := by
  have h : (x.sshiftRight m).setWidth 8 = (x >>> m).setWidth 8 := by
    apply BitVec.eq_of_getLsbD_eq
    intro j hj
    rw [BitVec.getLsbD_setWidth, BitVec.getLsbD_setWidth, BitVec.getLsbD_sshiftRight, BitVec.getLsbD_ushiftRight, if_pos (by omega)]
    have : (!decide (64 ≤ j)) = true := by rw [decide_eq_false (by omega)]; rfl
    rw [this, Bool.true_and]
  have := congrArg BitVec.toNat h
  rw [BitVec.toNat_setWidth, BitVec.toNat_setWidth] at this
  exact this
theorem rbyte_core (b : Int64) (c : Int64) {m : Nat} (hc : (c.toBitVec.smod 64).toNat = m) (hm : m ≤ 56) : (((b >>> c) &&& 255).toInt32) = i3 ((b.toBitVec >>> m).toNat % 256 : Nat) := by
  apply i3_of_bits
  · rw [Int64.toBitVec_toInt32, trunc32, Int64.toBitVec_and, BitVec.toNat_and, Int64.toBitVec_shiftRight, BitVec.sshiftRight_eq', hc]
    show (_ &&& 255) % _ = _
    rw [show (255 : Nat) = 2 ^ 8 - 1 from rfl, Nat.and_two_pow_sub_one_eq_mod, ← sshift_low _ hm]
    omega
  · exact Nat.mod_lt _ (by omega)
theorem rbyte (b : Int64) {i : Nat} (hi : i < 8) : ((b >>> ((i3 (8 * i : Nat)).toInt64 &&& 63)) &&& 255).toInt32 = i3 (byt b i : Nat) := by
  unfold byt
  have : i = 0 ∨ i = 1 ∨ i = 2 ∨ i = 3 ∨ i = 4 ∨ i = 5 ∨ i = 6 ∨ i = 7 := by omega
  rcases this with w | w | w | w | w | w | w | w <;> subst w <;> exact rbyte_core b _ rfl (by omega)
theorem rbyteL_core (b : Int64) (c : Int64) {m : Nat} (hc : (c.toBitVec.smod 64).toNat = m) (hm : m ≤ 56) : ((b >>> c) &&& 255) = j6 ((b.toBitVec >>> m).toNat % 256 : Nat) := by
  apply Int64.toBitVec_inj.mp
  apply BitVec.eq_of_toNat_eq
  rw [Int64.toBitVec_and, BitVec.toNat_and, Int64.toBitVec_shiftRight, BitVec.sshiftRight_eq', hc]
  show _ &&& 255 = (BitVec.ofInt 64 _).toNat
  rw [show (255 : Nat) = 2 ^ 8 - 1 from rfl, Nat.and_two_pow_sub_one_eq_mod, BitVec.toNat_ofInt, ← sshift_low _ hm]
  omega
theorem rbyteL (b : Int64) {i : Nat} (hi : i < 8) : ((b >>> ((i3 (8 * i : Nat)).toInt64 &&& 63)) &&& 255) = j6 (byt b i : Nat) := by
  unfold byt
  have : i = 0 ∨ i = 1 ∨ i = 2 ∨ i = 3 ∨ i = 4 ∨ i = 5 ∨ i = 6 ∨ i = 7 := by omega
  rcases this with w | w | w | w | w | w | w | w <;> subst w <;> exact rbyteL_core b _ rfl (by omega)
