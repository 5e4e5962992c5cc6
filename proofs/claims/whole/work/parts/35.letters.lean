/-! letters: bits -/
/-- letter i of y -/
def lt8 (y : Int64) (i : Nat) : Int32 := ((y.toUInt64 >>> UInt64.ofNat (8 * i)).toInt64.toInt32) &&& 255
theorem sh_i {i : Nat} (h : i < 8) : ((8 : Int32) * nI i).toInt64.toUInt64 &&& Int64.toUInt64 63 = UInt64.ofNat (8 * i) := by
  have h : i = 0 ∨ i = 1 ∨ i = 2 ∨ i = 3 ∨ i = 4 ∨ i = 5 ∨ i = 6 ∨ i = 7 := by omega
  rcases h with rfl | rfl | rfl | rfl | rfl | rfl | rfl | rfl <;> decide
theorem sh_8 : (8 : Int32).toInt64.toUInt64 &&& Int64.toUInt64 63 = UInt64.ofNat 8 := by decide
theorem letter_c {y : Int64} {i : Nat} (h : i < 8) : fX2_letterOf y (nI i) = lt8 y i := by
  unfold fX2_letterOf lt8
  rw [sh_i h]
theorem lt8_m (z : Int64) : (z &&& 255).toInt32 = z.toInt32 &&& 255 := by
  simp
theorem sh_sh {u : UInt64} {i : Nat} (h : i < 7) : (u >>> UInt64.ofNat (8 * i)) >>> UInt64.ofNat 8 = u >>> UInt64.ofNat (8 * (i + 1)) := by
  apply UInt64.toNat_inj.mp
  have h : i = 0 ∨ i = 1 ∨ i = 2 ∨ i = 3 ∨ i = 4 ∨ i = 5 ∨ i = 6 := by omega
  rcases h with rfl | rfl | rfl | rfl | rfl | rfl | rfl <;> simp [← Nat.shiftRight_add]
theorem and255B (x : BitVec 32) : (x &&& 255#32).toNat ≤ 255 := by
  rw [BitVec.toNat_and]
  exact Nat.and_le_right
theorem and255 (v : Int32) : 0 ≤ (v &&& 255).toInt ∧ (v &&& 255).toInt ≤ 255 := by
  have h := and255B v.toBitVec
  have e : (v &&& 255).toInt = (v.toBitVec &&& 255#32).toInt := rfl
  rw [e, BitVec.toInt_eq_toNat_of_lt (by omega)]
  omega
theorem lt8_bd (y : Int64) (i : Nat) : 0 ≤ (lt8 y i).toInt ∧ (lt8 y i).toInt ≤ 255 := and255 _
def mS (y : Int64) : Nat → Int32 × Int32
  | 0 => (0, 1)
  | i + 1 => (if lt8 y i ≤ 0 then (mS y i).1 + 0 else (mS y i).1 + 1, if (mS y i).2 = 0 then 0 else if 126 < lt8 y i then 0 else if lt8 y i = 0 then 1 else if (mS y i).1 = nI i then 1 else 0)
theorem mS_0 {y : Int64} {i j : Nat} (h : i ≤ j) (h0 : (mS y i).2 = 0) : (mS y j).2 = 0 := by
  induction j with
  | zero => rw [show i = 0 by omega] at h0; exact h0
  | succ j ih =>
    by_cases e : i = j + 1
    · rw [← e]; exact h0
    · simp [mS, ih (by omega)]
