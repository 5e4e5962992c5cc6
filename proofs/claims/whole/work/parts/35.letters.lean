/-! letters: bits -/
/-- letter i of y -/
def lt8 (y : Int64) (i : Nat) : Int32 := ((y.toUInt64 >>> UInt64.ofNat (8 * i)).toInt64.toInt32) &&& 255
theorem sh_i {i : Nat} (h : i < 8) : ((8 : Int32) * nI i).toInt64.toUInt64 &&& Int64.toUInt64 63 = UInt64.ofNat (8 * i) := by
  have h : i = 0 ∨ i = 1 ∨ i = 2 ∨ i = 3 ∨ i = 4 ∨ i = 5 ∨ i = 6 ∨ i = 7 := by omega
  rcases h with rfl | rfl | rfl | rfl | rfl | rfl | rfl | rfl <;> decide
theorem sh_8 : (8 : Int32).toInt64.toUInt64 &&& Int64.toUInt64 63 = UInt64.ofNat 8 := by decide
theorem letter_c {y : Int64} {i : Nat} (h : i < 8) : fX2_letterOf y (nI i) = lt8 y i := by
  unfold fX2_letterOf lt8
  rw [sh_i h]
theorem lt8_m (z : Int64) : (z &&& 255).toInt32 = z.toInt32 &&& 255 := by
  simp
theorem sh_sh {u : UInt64} {i : Nat} (h : i < 7) : (u >>> UInt64.ofNat (8 * i)) >>> UInt64.ofNat 8 = u >>> UInt64.ofNat (8 * (i + 1)) := by
  apply UInt64.toNat_inj.mp
  have h : i = 0 ∨ i = 1 ∨ i = 2 ∨ i = 3 ∨ i = 4 ∨ i = 5 ∨ i = 6 := by omega
  rcases h with rfl | rfl | rfl | rfl | rfl | rfl | rfl <;> simp [← Nat.shiftRight_add]
