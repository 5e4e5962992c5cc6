/-! failed: helpers -/
theorem mulB {a b A B : Int} (h1 : 0 ≤ a) (h2 : a ≤ A) (h3 : 0 ≤ b) (h4 : b ≤ B) : 0 ≤ a * b ∧ a * b ≤ A * B := ⟨Int.mul_nonneg h1 h3, Int.mul_le_mul h2 h4 h3 (by omega)⟩
theorem mulI {a b : Int32} (h1 : 0 ≤ a.toInt) (h2 : a.toInt ≤ 40000) (h3 : 0 ≤ b.toInt) (h4 : b.toInt ≤ 40000) : (a * b).toInt = a.toInt * b.toInt := by
  have h := mulB h1 h2 h3 h4
  rw [Int32.toInt_mul, Int.bmod_def]
  omega
theorem mulJ {a b : Int64} (h1 : 0 ≤ a.toInt) (h2 : a.toInt ≤ 40000) (h3 : 0 ≤ b.toInt) (h4 : b.toInt ≤ 40000) : (a * b).toInt = a.toInt * b.toInt := by
  have h := mulB h1 h2 h3 h4
  rw [Int64.toInt_mul, Int.bmod_def]
  omega
theorem divB {a b : Int} (h1 : 0 ≤ a) (h3 : 0 < b) : 0 ≤ a / b ∧ a / b ≤ a := ⟨Int.ediv_nonneg h1 (by omega), Int.ediv_le_self b h1⟩
theorem divI {a b : Int32} (h1 : 0 ≤ a.toInt) (h3 : 0 < b.toInt) : (a / b).toInt = a.toInt / b.toInt := by
  have h := divB h1 h3
  have h2 := Int32.toInt_lt a
  rw [Int32.toInt_div, Int.tdiv_eq_ediv_of_nonneg h1, Int.bmod_def]
  omega
theorem divJ {a b : Int64} (h1 : 0 ≤ a.toInt) (h3 : 0 < b.toInt) : (a / b).toInt = a.toInt / b.toInt := by
  have h := divB h1 h3
  have h2 := Int64.toInt_lt a
  rw [Int64.toInt_div, Int.tdiv_eq_ediv_of_nonneg h1, Int.bmod_def]
  omega
/-- a part, as an int and as a long -/
theorem prt {l d a : Int32} (l0 : 0 ≤ l.toInt) (l1 : l.toInt ≤ 40000) (d0 : 0 ≤ d.toInt) (d1 : d.toInt ≤ 9999) (a0 : 0 < a.toInt) : d.toInt64 * l.toInt64 / a.toInt64 = (l * d / a).toInt64 ∧ (l * d / a).toInt = l.toInt * d.toInt / a.toInt ∧ 0 ≤ (l * d / a).toInt ∧ (l * d / a).toInt ≤ 399960000 := by
  have hm := mulI l0 l1 d0 (by omega)
  have hb := mulB l0 l1 d0 d1
  have hmJ : (d.toInt64 * l.toInt64).toInt = d.toInt * l.toInt := by
    rw [mulJ (by rw [Int32.toInt_toInt64]; omega) (by rw [Int32.toInt_toInt64]; omega) (by rw [Int32.toInt_toInt64]; omega) (by rw [Int32.toInt_toInt64]; omega), Int32.toInt_toInt64, Int32.toInt_toInt64]
  have hd : (l * d / a).toInt = l.toInt * d.toInt / a.toInt := by
    rw [divI (by omega) a0, hm]
  have hq := divB hb.1 a0
  refine ⟨?_, hd, by omega, by omega⟩
  rw [i64_eq, Int32.toInt_toInt64, hd, divJ (by rw [hmJ, Int.mul_comm]; omega) (by rw [Int32.toInt_toInt64]; omega), hmJ, Int32.toInt_toInt64, Int.mul_comm]
theorem prt_all {d a : Int32} (d0 : 0 ≤ d.toInt) (d1 : d.toInt ≤ 9999) (a0 : 0 < a.toInt) (a1 : a.toInt ≤ 40000) : a * d / a = d := by
  rw [i32_eq, (prt (by omega) a1 d0 d1 a0).2.1, Int.mul_comm]
  exact Int.mul_ediv_cancel _ (by omega)
theorem subJ {a b : Int32} : a.toInt64 - b.toInt64 = (a - b).toInt64 ↔ (a - b).toInt = a.toInt - b.toInt := by
  rw [i64_eq, Int32.toInt_toInt64, Int64.toInt_sub, Int32.toInt_toInt64, Int32.toInt_toInt64, Int.bmod_def]
  have := Int32.toInt_lt a
  have := Int32.toInt_lt b
  have := Int32.le_toInt a
  have := Int32.le_toInt b
  omega
theorem subI {a b : Int32} (h1 : -2147483648 ≤ a.toInt - b.toInt) (h2 : a.toInt - b.toInt < 2147483648) : (a - b).toInt = a.toInt - b.toInt := by
  rw [Int32.toInt_sub, Int.bmod_def]
  omega
theorem addJI {a b : Int32} (h1 : -2147483648 ≤ a.toInt + b.toInt) (h2 : a.toInt + b.toInt < 2147483648) : a.toInt64 + b.toInt64 = (a + b).toInt64 := by
  rw [i64_eq, Int32.toInt_toInt64, addI h1 h2, addJ (by rw [Int32.toInt_toInt64, Int32.toInt_toInt64]; omega) (by rw [Int32.toInt_toInt64, Int32.toInt_toInt64]; omega), Int32.toInt_toInt64, Int32.toInt_toInt64]
theorem toI32J (a : Int32) : a.toInt64.toInt32 = a := by simp
