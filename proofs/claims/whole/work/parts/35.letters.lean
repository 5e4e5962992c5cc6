/-! letters: bits -/
/-- letter i of y -/
def lt8 (y : Int64) (i : Nat) : Int32 := ((y.toUInt64 >>> UInt64.ofNat (8 * i)).toInt64.toInt32) &&& 255
theorem sh_i {i : Nat} (h : i < 8) : ((8 : Int32) * nI i).toInt64.toUInt64 &&& Int64.toUInt64 63 = UInt64.ofNat (8 * i) := by
  have h : i = 0 ∨ i = 1 ∨ i = 2 ∨ i = 3 ∨ i = 4 ∨ i = 5 ∨ i = 6 ∨ i = 7 := by omega
  rcases h with rfl | rfl | rfl | rfl | rfl | rfl | rfl | rfl <;> decide
theorem sh_8 : (8 : Int32).toInt64.toUInt64 &&& Int64.toUInt64 63 = UInt64.ofNat 8 := by decide
theorem letter_c {y : Int64} {i : Nat} (h : i < 8) : fX2_letterOf y (nI i) = lt8 y i := by
  unfold fX2_letterOf lt8
  rw [sh_i h]
theorem lt8_m (z : Int64) : (z &&& 255).toInt32 = z.toInt32 &&& 255 := by
  simp
theorem sh_sh {u : UInt64} {i : Nat} (h : i < 7) : (u >>> UInt64.ofNat (8 * i)) >>> UInt64.ofNat 8 = u >>> UInt64.ofNat (8 * (i + 1)) := by
  apply UInt64.toNat_inj.mp
  have h : i = 0 ∨ i = 1 ∨ i = 2 ∨ i = 3 ∨ i = 4 ∨ i = 5 ∨ i = 6 := by omega
  rcases h with rfl | rfl | rfl | rfl | rfl | rfl | rfl <;> simp [← Nat.shiftRight_add]
theorem and255B (x : BitVec 32) : (x &&& 255#32).toNat ≤ 255 := by
  rw [BitVec.toNat_and]
  exact Nat.and_le_right
theorem and255 (v : Int32) : 0 ≤ (v &&& 255).toInt ∧ (v &&& 255).toInt ≤ 255 := by
  have h := and255B v.toBitVec
  have e : (v &&& 255).toInt = (v.toBitVec &&& 255#32).toInt := rfl
  rw [e, BitVec.toInt_eq_toNat_of_lt (by omega)]
  omega
theorem lt8_bd (y : Int64) (i : Nat) : 0 ≤ (lt8 y i).toInt ∧ (lt8 y i).toInt ≤ 255 := and255 _
def mS (y : Int64) : Nat → Int32 × Int32
  | 0 => (0, 1)
  | i + 1 => (if lt8 y i ≤ 0 then (mS y i).1 + 0 else (mS y i).1 + 1, if (mS y i).2 = 0 then 0 else if 126 < lt8 y i then 0 else if lt8 y i = 0 then 1 else if (mS y i).1 = nI i then 1 else 0)
theorem mS_0 {y : Int64} {i j : Nat} (h : i ≤ j) (h0 : (mS y i).2 = 0) : (mS y j).2 = 0 := by
  induction j with
  | zero => rw [show i = 0 by omega] at h0; exact h0
  | succ j ih =>
    by_cases e : i = j + 1
    · rw [← e]; exact h0
    · simp [mS, ih (by omega)]
theorem scan_c (y : Int64) : fX2_lettersIn y = some (if (mS y 8).2 = 0 then -1 else (mS y 8).1) := by
  unfold fX2_lettersIn
  obtain ⟨r, q1, q2⟩ := loop_inv (f := fun s1 : Int32 × Int32 × Int32 => if (8 : Int32) ≤ s1.2.2 then some (Sum.inr s1.1) else pu (fX2_letterOf y s1.2.2) (fun z5 => if (126 : Int32) < z5 then some (Sum.inr (-1 : Int32)) else js (if s1.2.1 = 0 then some (Sum.inl ()) else if z5 = 0 then some (Sum.inl ()) else some (Sum.inr (Sum.inr (-1 : Int32)))) (fun _ : Unit => Option.bind (if z5 = 0 then some (1 : Int32) else some 0) (fun v15 => if v15 = 0 then pu (s1.1 + 1) (fun z17 => some (Sum.inl (z17, v15, s1.2.2 + 1))) else pu (s1.1 + 0) (fun z18 => some (Sum.inl (z18, v15, s1.2.2 + 1)))))))
    (fun s => ∃ i c, i ≤ 8 ∧ c ≤ i ∧ (mS y i).1 = nI c ∧ (mS y i).2 = 1 ∧ s.1 = nI c ∧ s.2.2 = nI i ∧ (s.2.1 = 0 ↔ c = i)) (fun r => r = if (mS y 8).2 = 0 then -1 else (mS y 8).1) (fun s => 8 - ix s.2.2) (by
    rintro ⟨a, b, d⟩ ⟨i, c, hi, hc, h1, h2, e1, e2, h3⟩
    dsimp only at e1 e2 h3
    subst e1 e2
    by_cases h8 : i = 8
    · subst h8
      exact Or.inr ⟨nI c, by simp [show (8 : Int32) ≤ nI 8 by decide], by rw [h2, h1]; rfl⟩
    have hi8 : i < 8 := by omega
    have hle := nle hi8 (by decide)
    rw [show nI 8 = 8 by decide] at hle
    have hix : ix (nI i) = i := ix_nI (by omega)
    have hix1 : ix (nI (i + 1)) = i + 1 := ix_nI (by omega)
    have hmu : 8 - ix (nI (i + 1)) < 8 - ix (nI i) := by
      rw [hix, hix1]
      omega
    have hb := lt8_bd y i
    have m0 : (0 : Int32).toInt = 0 := by decide
    have hz : lt8 y i ≤ 0 ↔ lt8 y i = 0 := by
      rw [i32_le, i32_eq, m0]
      omega
    have hce : nI c = nI i ↔ c = i := nI_eq (by omega) (by omega)
    have k0 : ¬ (1 : Int32) = 0 := by decide
    by_cases d1 : 126 < lt8 y i
    · right
      refine ⟨-1, by simp [hle, letter_c hi8, d1, pu], ?_⟩
      rw [mS_0 (i := i + 1) (by omega) (by simp [mS, h2, d1])]
      rfl
    by_cases d2 : lt8 y i = 0
    · left
      refine ⟨(nI c, 1, nI (i + 1)), ?_, ⟨i + 1, c, by omega, by omega, ?_, ?_, rfl, rfl, ?_⟩, hmu⟩
      · by_cases d3 : b = 0
        · simp [hle, letter_c hi8, d1, d2, d3, pu, js, nI_succ]
        · simp [hle, letter_c hi8, d1, d2, d3, pu, js, nI_succ]
      · simp [mS, d2, h1]
      · simp [mS, h2, d2]
      · simp
        omega
    by_cases d3 : c = i
    · left
      have d4 := h3.mpr d3
      refine ⟨(nI (c + 1), 0, nI (i + 1)), ?_, ⟨i + 1, c + 1, by omega, by omega, ?_, ?_, rfl, rfl, ?_⟩, hmu⟩
      · simp [hle, letter_c hi8, d1, d2, d4, pu, js, nI_succ]
      · simp [mS, hz, d2, h1, nI_succ]
      · simp [mS, h2, d1, d2, h1, d3]
      · simp
        omega
    · right
      have d4 := mt h3.mp d3
      refine ⟨-1, by simp [hle, letter_c hi8, d1, d2, d4, pu, js], ?_⟩
      rw [mS_0 (i := i + 1) (by omega) (by simp [mS, h2, d1, d2, h1, hce, d3])]
      rfl) ((0 : Int32), (0 : Int32), (0 : Int32)) ⟨0, 0, by omega, by omega, rfl, rfl, rfl, rfl, by simp⟩
  rw [← q2]
  exact q1
/-- y, shifted step by step -/
def shY (y : Int64) : Nat → Int64
  | 0 => y
  | i + 1 => ((shY y i).toUInt64 >>> ((8 : Int32).toInt64.toUInt64 &&& Int64.toUInt64 63)).toInt64
theorem shY_eq (y : Int64) : ∀ i, i < 8 → shY y i = (y.toUInt64 >>> UInt64.ofNat (8 * i)).toInt64 := by
  intro i
  induction i with
  | zero =>
    intro _
    simp [shY]
  | succ i ih =>
    intro h
    rw [shY, ih (by omega), sh_8, ← sh_sh (show i < 7 by omega)]
    rfl
theorem lt8_shY {y : Int64} {i : Nat} (h : i < 8) : (shY y i &&& 255).toInt32 = lt8 y i := by
  rw [lt8_m, shY_eq y i h]
  rfl
