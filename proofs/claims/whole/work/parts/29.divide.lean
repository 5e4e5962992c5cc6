/-! dividend -/
theorem addI {a b : Int32} (h1 : -2147483648 ≤ a.toInt + b.toInt) (h2 : a.toInt + b.toInt < 2147483648) : (a + b).toInt = a.toInt + b.toInt := by
  rw [Int32.toInt_add, Int.bmod_def]
  omega
theorem addJ {a b : Int64} (h1 : -9223372036854775808 ≤ a.toInt + b.toInt) (h2 : a.toInt + b.toInt < 9223372036854775808) : (a + b).toInt = a.toInt + b.toInt := by
  rw [Int64.toInt_add, Int.bmod_def]
  omega
theorem negI {b : Int32} (h1 : -2147483648 < b.toInt) : (-b).toInt = -b.toInt := by
  have := Int32.toInt_lt b
  rw [Int32.toInt_neg, Int.bmod_def]
  omega
def sI (f : Nat → Int32) : Nat → Int32
  | 0 => 0
  | k + 1 => sI f k + f k
def sJ (f : Nat → Int32) : Nat → Int64
  | 0 => 0
  | k + 1 => sJ f k + (f k).toInt64
def sZ (f : Nat → Int) : Nat → Int
  | 0 => 0
  | k + 1 => sZ f k + f k
theorem sI_Z {f : Nat → Int32} {n : Nat} (hn : n ≤ 600) (h : ∀ k, k < n → -1000000 ≤ (f k).toInt ∧ (f k).toInt ≤ 1000000) : ∀ k, k ≤ n → (sI f k).toInt = sZ (fun i => (f i).toInt) k ∧ -1000000 * (k : Int) ≤ sZ (fun i => (f i).toInt) k ∧ sZ (fun i => (f i).toInt) k ≤ 1000000 * (k : Int) := by
  intro k
  induction k with
  | zero => exact fun _ => ⟨by simp [sI, sZ], by simp [sZ], by simp [sZ]⟩
  | succ k ih =>
    intro hk
    obtain ⟨i1, i2, i3⟩ := ih (by omega)
    have := h k (by omega)
    refine ⟨?_, ?_, ?_⟩
    · rw [sI, sZ, addI (by omega) (by omega), i1]
    · rw [sZ]
      omega
    · rw [sZ]
      omega
theorem sJ_Z {f : Nat → Int32} {n : Nat} (hn : n ≤ 600) (h : ∀ k, k < n → -1000000 ≤ (f k).toInt ∧ (f k).toInt ≤ 1000000) : ∀ k, k ≤ n → (sJ f k).toInt = sZ (fun i => (f i).toInt) k ∧ -1000000 * (k : Int) ≤ sZ (fun i => (f i).toInt) k ∧ sZ (fun i => (f i).toInt) k ≤ 1000000 * (k : Int) := by
  intro k
  induction k with
  | zero => exact fun _ => ⟨by simp [sJ, sZ], by simp [sZ], by simp [sZ]⟩
  | succ k ih =>
    intro hk
    obtain ⟨i1, i2, i3⟩ := ih (by omega)
    have := h k (by omega)
    refine ⟨?_, ?_, ?_⟩
    · rw [sJ, sZ, addJ (by rw [Int32.toInt_toInt64]; omega) (by rw [Int32.toInt_toInt64]; omega), i1, Int32.toInt_toInt64]
    · rw [sZ]
      omega
    · rw [sZ]
      omega
/-- what a holder had, in whole numbers -/
def hz (M : Mem) (y : Int32) (p : Nat) : Nat → Int
  | 0 => (rI M 102 p).toInt
  | k + 1 => hz M y p k + if y < rI M 106 k then 0 else if rI M 104 k = nI p then (rI M 105 k).toInt else if rI M 103 k = nI p then -(rI M 105 k).toInt else 0
theorem hd_hz {M : Mem} {y : Int32} {p n : Nat} (hp : p < 6) (hn : n ≤ 24) (hb : ∀ k, 0 ≤ (rI M 102 k).toInt ∧ (rI M 102 k).toInt ≤ 999) (hv : ∀ k, k < n → 1 ≤ (rI M 105 k).toInt ∧ (rI M 105 k).toInt ≤ 999) : ∀ k, k ≤ n → (hd M (nI p) y k).toInt = hz M y p k ∧ -999 * (k : Int) ≤ hz M y p k ∧ hz M y p k ≤ 999 * (k : Int) + 999 := by
  intro k
  induction k with
  | zero =>
    intro _
    have := hb p
    rw [hd, hz, ix_nI (by omega)]
    exact ⟨rfl, by omega, by omega⟩
  | succ k ih =>
    intro hk
    obtain ⟨i1, i2, i3⟩ := ih (by omega)
    have h5 := hv k (by omega)
    have m0 : (0 : Int32).toInt = 0 := by decide
    rw [hd, hz]
    by_cases g1 : y < rI M 106 k
    · rw [if_pos g1, if_pos g1]
      exact ⟨by omega, by omega, by omega⟩
    · rw [if_neg g1, if_neg g1]
      by_cases g2 : rI M 104 k = nI p
      · rw [if_pos g2, if_pos g2, addI (by omega) (by omega)]
        exact ⟨by omega, by omega, by omega⟩
      · rw [if_neg g2, if_neg g2]
        by_cases g3 : rI M 103 k = nI p
        · rw [if_pos g3, if_pos g3, addI (by rw [negI (by omega)]; omega) (by rw [negI (by omega)]; omega), negI (by omega)]
          exact ⟨by omega, by omega, by omega⟩
        · rw [if_neg g3, if_neg g3, addI (by omega) (by omega)]
          exact ⟨by omega, by omega, by omega⟩
theorem lt6 {p : Nat} (h : p < 6) : p = 0 ∨ p = 1 ∨ p = 2 ∨ p = 3 ∨ p = 4 ∨ p = 5 := by omega
theorem hz_sum {M : Mem} {y : Int32} {n : Nat} (hv : ∀ k, k < n → ∃ p q, p < 6 ∧ q < 6 ∧ p ≠ q ∧ rI M 103 k = nI p ∧ rI M 104 k = nI q) : ∀ k, k ≤ n → sZ (fun p => hz M y p k) 6 = sZ (fun p => (rI M 102 p).toInt) 6 := by
  intro k
  induction k with
  | zero => exact fun _ => rfl
  | succ k ih =>
    intro hk
    rw [← ih (by omega)]
    obtain ⟨u, v, hu, hv, huv, e1, e2⟩ := hv k (by omega)
    simp only [sZ, hz]
    by_cases g1 : y < rI M 106 k
    · simp [g1]
    · simp only [if_neg g1, e1, e2]
      have hd1 : ∀ a b : Nat, a < 6 → b < 6 → (nI a = nI b ↔ a = b) := fun a b h1 h2 => nI_eq (by omega) (by omega)
      simp only [hd1 v 0 hv (by omega), hd1 v 1 hv (by omega), hd1 v 2 hv (by omega), hd1 v 3 hv (by omega), hd1 v 4 hv (by omega), hd1 v 5 hv (by omega), hd1 u 0 hu (by omega), hd1 u 1 hu (by omega), hd1 u 2 hu (by omega), hd1 u 3 hu (by omega), hd1 u 4 hu (by omega), hd1 u 5 hu (by omega)]
      rcases lt6 hv with rfl | rfl | rfl | rfl | rfl | rfl <;> rcases lt6 hu with rfl | rfl | rfl | rfl | rfl | rfl <;> first | exact absurd rfl huv | (simp; omega)
/-- the state of the sharing out behind i holders -/
def dvS (x1 x2 : Int32) (A v : Int64) (f : Nat → Int32) : Nat → Int64 × Int32
  | 0 => (x2.toInt64, 0)
  | i + 1 => ((dvS x1 x2 A v f i).1 - x2.toInt64 * (f i).toInt64 / v, if 0 < lg_cmp (x2.toInt64 * (f i).toInt64 - x2.toInt64 * (f i).toInt64 / v * v) (A - A / v * v) then (dvS x1 x2 A v f i).2 + 1 else if lg_cmp (x2.toInt64 * (f i).toInt64 - x2.toInt64 * (f i).toInt64 / v * v) (A - A / v * v) = 0 then (if x1 ≤ nI i then (dvS x1 x2 A v f i).2 else (dvS x1 x2 A v f i).2 + 1) else (dvS x1 x2 A v f i).2)
def dvR (x1 x2 : Int32) (A v : Int64) (f : Nat → Int32) : Int32 := if 0 ≤ lg_cmp (dvS x1 x2 A v f 6).2.toInt64 (dvS x1 x2 A v f 6).1 then (A / v).toInt32 + 0 else (A / v).toInt32 + 1
theorem bindL {α β : Type} {o : Option α} {v : α} {f : α → Option β} {r : Option β} (h : o = some v) (h2 : f v = r) : Option.bind o f = r := by
  rw [h]
  exact h2
theorem n6 {i : Nat} (h : i < 6) : ¬ (6 : Int32) ≤ nI i := by
  rw [i32_le, nI_toInt (by omega), show (6 : Int32).toInt = 6 by decide]
  omega
theorem op_dividend {Z : Shp} {M : Mem} (hZ : OKZ Z) (hF : Fix M) (hI : IShare M) (x1 x2 x3 : Int32) : ∃ r, fX11_dividend Z M 2 x1 x2 x3 = some r ∧ fX12_dividend Z M 51 x1 x2 x3 = some r := by
  obtain ⟨n, hn, h1, h2, e2, e3, e4, e5, e6, hb, hv, hm⟩ := id hI
  by_cases c1 : fX11_within x1 0 5 = 0
  · exact ⟨-101, by simp [fX11_dividend, c1], by simp [fX12_dividend, fX12_isHolder, in_m1_e, in_0_e, in_0_1, in_0_2, in_0_23, in_0_3, in_0_4, in_0_40, in_0_5, in_0_50, in_0_599, in_0_6, in_0_7, in_0_9, in_0_99, in_0_999, in_0_9999, in_0_99999, in_0_999999, in_1_100, in_1_200, in_1_6, in_1_9, in_1_999, in_10_17, in_10_200, in_48_57, in_6_17, in_e_99, in_e_9999, in_within, c1]⟩
  by_cases c2 : fX11_within x2 0 999999 = 0
  · exact ⟨-102, by simp [fX11_dividend, c1, c2], by simp [fX12_dividend, fX12_isHolder, in_m1_e, in_0_e, in_0_1, in_0_2, in_0_23, in_0_3, in_0_4, in_0_40, in_0_5, in_0_50, in_0_599, in_0_6, in_0_7, in_0_9, in_0_99, in_0_999, in_0_9999, in_0_99999, in_0_999999, in_1_100, in_1_200, in_1_6, in_1_9, in_1_999, in_10_17, in_10_200, in_48_57, in_6_17, in_e_99, in_e_9999, in_within, c1, c2]⟩
  by_cases c3 : fX11_within x3 0 99 = 0
  · exact ⟨-102, by simp [fX11_dividend, c1, c2, c3], by simp [fX12_dividend, fX12_isHolder, fX12_isDay, in_m1_e, in_0_e, in_0_1, in_0_2, in_0_23, in_0_3, in_0_4, in_0_40, in_0_5, in_0_50, in_0_599, in_0_6, in_0_7, in_0_9, in_0_99, in_0_999, in_0_9999, in_0_99999, in_0_999999, in_1_100, in_1_200, in_1_6, in_1_9, in_1_999, in_10_17, in_10_200, in_48_57, in_6_17, in_e_99, in_e_9999, in_within, c1, c2, c3]⟩
  obtain ⟨p, hp, rfl⟩ := wN (n := 5) (by decide) c1
  have hc : ∀ q, q < 6 → fX5_held Z M 39 (nI q) x3 = some (hd M (nI q) x3 n) := fun q hq => had_c hZ hF hn h1 e2 e3 e4 e5 e6 (fun k hk => (hv k hk).1) hm hq x3
  have hm' : ∀ q, q < 6 → fX12_hadOf Z M 51 (nI q) x3 = some (hd M (nI q) x3 n) := fun q hq => had_m hZ hF hn h2 hq x3
  have z1 := fun q (hq : q < 6) => hd_hz (y := x3) hq hn hb (fun k hk => (hv k hk).2.1) n (Nat.le_refl n)
  have q1 : fX5_allShares Z M 39 = some (sI (fun k => rI M 102 k) 6) := by
    unfold fX5_allShares
    refine loop_for (fun i => (sI (fun k => rI M 102 k) i, nI i)) 6 rfl (fun i hi => ?_) ?_
    · have hix : ix (nI i) = i := ix_nI (by omega)
      have a42 : aok Z 42 100 (nI i) := aok_nI (tg_42 hZ) hi (by decide)
      simp [n6 hi, tg_2 hZ, tg_3 hZ, tg_4 hZ, tg_5 hZ, tg_6 hZ, tg_7 hZ, tg_8 hZ, tg_24 hZ, tg_25 hZ, tg_26 hZ, tg_27 hZ, tg_28 hZ, tg_29 hZ, tg_30 hZ, tg_31 hZ, tg_32 hZ, tg_33 hZ, tg_34 hZ, tg_35 hZ, tg_36 hZ, tg_37 hZ, tg_38 hZ, tg_39 hZ, tg_40 hZ, tg_41 hZ, tg_42 hZ, tg_43 hZ, tg_44 hZ, tg_45 hZ, tg_46 hZ, tg_47 hZ, tg_48 hZ, tg_49 hZ, tg_50 hZ, fr_2_0 hF, fr_3_0 hF, fr_3_1 hF, fr_3_2 hF, fr_3_3 hF, fr_3_4 hF, fr_2_1 hF, fr_24_0 hF, fr_24_2 hF, fr_2_2 hF, fr_27_0 hF, fr_27_1 hF, fr_27_2 hF, fr_27_8 hF, fr_2_3 hF, fr_32_0 hF, fr_32_1 hF, fr_32_3 hF, fr_32_4 hF, fr_32_5 hF, fr_32_6 hF, fr_2_4 hF, fr_39_0 hF, fr_39_1 hF, fr_39_2 hF, fr_39_3 hF, fr_39_4 hF, fr_39_5 hF, fr_39_6 hF, fr_2_5 hF, fr_47_0 hF, fr_47_1 hF, fr_47_2 hF, if_pos a42, hix, pu, sI, nI_succ, e2]
    · simp [show (6 : Int32) ≤ nI 6 by decide]
  have q2 : loop (fun s7 : Int64 × Int32 => (if (6 : Int32) ≤ s7.2 then some (Sum.inr s7.1) else (if tg Z 51 = (13, 86) then (Option.bind (fX12_hadOf Z M 51 s7.2 x3) (fun v12 => (pu ((s7.1 + (v12.toInt64))) (fun z14 => some (Sum.inl (z14, (s7.2 + (1 : Int32)))))))) else none))) ((0 : Int64), (0 : Int32)) = some (sJ (fun q => hd M (nI q) x3 n) 6) := by
    refine loop_for (fun i => (sJ (fun q => hd M (nI q) x3 n) i, nI i)) 6 rfl (fun i hi => ?_) ?_
    · simp [n6 hi, tg_51 hZ, hm' i hi, pu, sJ, nI_succ]
    · simp [show (6 : Int32) ≤ nI 6 by decide]
  have s1 := sI_Z (f := fun k => rI M 102 k) (n := 6) (by omega) (fun k _ => by have := hb k; omega) 6 (Nat.le_refl 6)
  have s2 := sJ_Z (f := fun q => hd M (nI q) x3 n) (n := 6) (by omega) (fun k hk => by have := z1 k hk; omega) 6 (Nat.le_refl 6)
  have s3 : sZ (fun q => (hd M (nI q) x3 n).toInt) 6 = sZ (fun q => hz M x3 q n) 6 := by
    simp only [sZ, (z1 0 (by omega)).1, (z1 1 (by omega)).1, (z1 2 (by omega)).1, (z1 3 (by omega)).1, (z1 4 (by omega)).1, (z1 5 (by omega)).1]
  have s4 := hz_sum (y := x3) (fun k hk => (hv k hk).1) n (Nat.le_refl n)
  have s5 : 0 ≤ sZ (fun k => (rI M 102 k).toInt) 6 := by
    simp only [sZ]
    have := hb 0; have := hb 1; have := hb 2; have := hb 3; have := hb 4; have := hb 5
    omega
  obtain ⟨v, ev⟩ : ∃ v, v = sI (fun k => rI M 102 k) 6 := ⟨_, rfl⟩
  have ev2 : sJ (fun q => hd M (nI q) x3 n) 6 = v.toInt64 := by
    rw [i64_eq, Int32.toInt_toInt64, s2.1, s3, s4, ev, s1.1]
  rw [← ev] at q1 s1
  rw [ev2] at q2
  have m0 : (0 : Int32).toInt = 0 := by decide
  have m0j : (0 : Int64).toInt = 0 := by decide
  have hz0 : v.toInt64 = 0 ↔ v = 0 := by
    rw [i64_eq, i32_eq, Int32.toInt_toInt64, m0, m0j]
  by_cases c4 : v = 0
  · refine ⟨-103, ?_, ?_⟩
    · simp [fX11_dividend, c1, c2, c3, tg_2 hZ, tg_3 hZ, tg_4 hZ, tg_5 hZ, tg_6 hZ, tg_7 hZ, tg_8 hZ, tg_24 hZ, tg_25 hZ, tg_26 hZ, tg_27 hZ, tg_28 hZ, tg_29 hZ, tg_30 hZ, tg_31 hZ, tg_32 hZ, tg_33 hZ, tg_34 hZ, tg_35 hZ, tg_36 hZ, tg_37 hZ, tg_38 hZ, tg_39 hZ, tg_40 hZ, tg_41 hZ, tg_42 hZ, tg_43 hZ, tg_44 hZ, tg_45 hZ, tg_46 hZ, tg_47 hZ, tg_48 hZ, tg_49 hZ, tg_50 hZ, fr_2_0 hF, fr_3_0 hF, fr_3_1 hF, fr_3_2 hF, fr_3_3 hF, fr_3_4 hF, fr_2_1 hF, fr_24_0 hF, fr_24_2 hF, fr_2_2 hF, fr_27_0 hF, fr_27_1 hF, fr_27_2 hF, fr_27_8 hF, fr_2_3 hF, fr_32_0 hF, fr_32_1 hF, fr_32_3 hF, fr_32_4 hF, fr_32_5 hF, fr_32_6 hF, fr_2_4 hF, fr_39_0 hF, fr_39_1 hF, fr_39_2 hF, fr_39_3 hF, fr_39_4 hF, fr_39_5 hF, fr_39_6 hF, fr_2_5 hF, fr_47_0 hF, fr_47_1 hF, fr_47_2 hF, q1, c4]
    · unfold fX12_dividend
      rw [q2]
      simp [fX12_isHolder, fX12_isDay, in_m1_e, in_0_e, in_0_1, in_0_2, in_0_23, in_0_3, in_0_4, in_0_40, in_0_5, in_0_50, in_0_599, in_0_6, in_0_7, in_0_9, in_0_99, in_0_999, in_0_9999, in_0_99999, in_0_999999, in_1_100, in_1_200, in_1_6, in_1_9, in_1_999, in_10_17, in_10_200, in_48_57, in_6_17, in_e_99, in_e_9999, in_within, c1, c2, c3, lc_eq, c4]
  have c5 : ¬ v.toInt64 = 0 := fun h => c4 (hz0.mp h)
  have c6 : 0 < v := by
    rw [i32_lt, m0]
    have : v.toInt ≠ 0 := fun h => c4 ((i32_eq _ _).mpr (by rw [h, m0]))
    omega
  obtain ⟨A, eA⟩ : ∃ A, A = x2.toInt64 * (hd M (nI p) x3 n).toInt64 := ⟨_, rfl⟩
  refine ⟨dvR (nI p) x2 A v.toInt64 (fun q => hd M (nI q) x3 n), ?_, ?_⟩
  · have q3 : fX5_partOf Z M 39 (nI p) x2 x3 v = some (dvR (nI p) x2 A v.toInt64 (fun q => hd M (nI q) x3 n)) := by
      unfold fX5_partOf
      rw [if_pos c6, if_pos (tg_39 hZ), hc p (by omega)]
      simp only [Option.bind_some, pu, ← eA]
      refine bindL (loop_for (s0 := (x2.toInt64, (0 : Int32), (0 : Int32))) (fun i => ((dvS (nI p) x2 A v.toInt64 (fun q => hd M (nI q) x3 n) i).1, (dvS (nI p) x2 A v.toInt64 (fun q => hd M (nI q) x3 n) i).2, nI i)) 6 (r := dvS (nI p) x2 A v.toInt64 (fun q => hd M (nI q) x3 n) 6) rfl (fun i hi => ?_) ?_) ?_
      · simp only [if_neg (n6 hi), hc i hi, Option.bind_some, if_pos c5, dvS, nI_succ]
        by_cases d1 : 0 < lg_cmp (x2.toInt64 * (hd M (nI i) x3 n).toInt64 - x2.toInt64 * (hd M (nI i) x3 n).toInt64 / v.toInt64 * v.toInt64) (A - A / v.toInt64 * v.toInt64)
        · simp only [if_pos d1]
        · by_cases d2 : lg_cmp (x2.toInt64 * (hd M (nI i) x3 n).toInt64 - x2.toInt64 * (hd M (nI i) x3 n).toInt64 / v.toInt64 * v.toInt64) (A - A / v.toInt64 * v.toInt64) = 0
          · by_cases d3 : nI p ≤ nI i
            · simp only [if_neg d1, if_pos d2, if_pos d3]
            · simp only [if_neg d1, if_pos d2, if_neg d3]
          · simp only [if_neg d1, if_neg d2]
      · simp [show (6 : Int32) ≤ nI 6 by decide]
      · simp only [if_pos c5, dvR]
        by_cases d : 0 ≤ lg_cmp (dvS (nI p) x2 A v.toInt64 (fun q => hd M (nI q) x3 n) 6).2.toInt64 (dvS (nI p) x2 A v.toInt64 (fun q => hd M (nI q) x3 n) 6).1
        · rw [if_pos d, if_pos d]
        · rw [if_neg d, if_neg d]
    simp [fX11_dividend, c1, c2, c3, tg_2 hZ, tg_3 hZ, tg_4 hZ, tg_5 hZ, tg_6 hZ, tg_7 hZ, tg_8 hZ, tg_24 hZ, tg_25 hZ, tg_26 hZ, tg_27 hZ, tg_28 hZ, tg_29 hZ, tg_30 hZ, tg_31 hZ, tg_32 hZ, tg_33 hZ, tg_34 hZ, tg_35 hZ, tg_36 hZ, tg_37 hZ, tg_38 hZ, tg_39 hZ, tg_40 hZ, tg_41 hZ, tg_42 hZ, tg_43 hZ, tg_44 hZ, tg_45 hZ, tg_46 hZ, tg_47 hZ, tg_48 hZ, tg_49 hZ, tg_50 hZ, fr_2_0 hF, fr_3_0 hF, fr_3_1 hF, fr_3_2 hF, fr_3_3 hF, fr_3_4 hF, fr_2_1 hF, fr_24_0 hF, fr_24_2 hF, fr_2_2 hF, fr_27_0 hF, fr_27_1 hF, fr_27_2 hF, fr_27_8 hF, fr_2_3 hF, fr_32_0 hF, fr_32_1 hF, fr_32_3 hF, fr_32_4 hF, fr_32_5 hF, fr_32_6 hF, fr_2_4 hF, fr_39_0 hF, fr_39_1 hF, fr_39_2 hF, fr_39_3 hF, fr_39_4 hF, fr_39_5 hF, fr_39_6 hF, fr_2_5 hF, fr_47_0 hF, fr_47_1 hF, fr_47_2 hF, q1, c4, q3]
  · unfold fX12_dividend
    rw [q2]
    have d0 : ¬ lg_cmp v.toInt64 0 = 0 := fun h => c5 ((lc_eq _ _).mp h)
    simp only [fX12_isHolder, fX12_isDay, in_m1_e, in_0_e, in_0_1, in_0_2, in_0_23, in_0_3, in_0_4, in_0_40, in_0_5, in_0_50, in_0_599, in_0_6, in_0_7, in_0_9, in_0_99, in_0_999, in_0_9999, in_0_99999, in_0_999999, in_1_100, in_1_200, in_1_6, in_1_9, in_1_999, in_10_17, in_10_200, in_48_57, in_6_17, in_e_99, in_e_9999, in_within, if_neg c1, if_neg c2, if_neg c3, Option.bind_some, if_neg d0, if_pos (tg_51 hZ), pu, hm' p (show p < 6 by omega), ← eA]
    refine bindL (loop_for (s0 := (x2.toInt64, (0 : Int32), (0 : Int32))) (fun i => ((dvS (nI p) x2 A v.toInt64 (fun q => hd M (nI q) x3 n) i).1, (dvS (nI p) x2 A v.toInt64 (fun q => hd M (nI q) x3 n) i).2, nI i)) 6 (r := dvS (nI p) x2 A v.toInt64 (fun q => hd M (nI q) x3 n) 6) rfl (fun i hi => ?_) ?_) ?_
    · simp only [if_neg (n6 hi), hm' i hi, Option.bind_some, if_pos c5, dvS, nI_succ, (fun x => by simp : ∀ x : Int32, x + 0 = x)]
      by_cases d1 : 0 < lg_cmp (x2.toInt64 * (hd M (nI i) x3 n).toInt64 - x2.toInt64 * (hd M (nI i) x3 n).toInt64 / v.toInt64 * v.toInt64) (A - A / v.toInt64 * v.toInt64)
      · simp only [if_pos d1]
      · by_cases d2 : lg_cmp (x2.toInt64 * (hd M (nI i) x3 n).toInt64 - x2.toInt64 * (hd M (nI i) x3 n).toInt64 / v.toInt64 * v.toInt64) (A - A / v.toInt64 * v.toInt64) = 0
        · by_cases d3 : nI p ≤ nI i
          · simp only [if_neg d1, if_pos d2, if_pos d3]
          · simp only [if_neg d1, if_pos d2, if_neg d3]
        · simp only [if_neg d1, if_neg d2]
    · simp [show (6 : Int32) ≤ nI 6 by decide]
    · simp only [if_pos c5, dvR]
      by_cases d : 0 ≤ lg_cmp (dvS (nI p) x2 A v.toInt64 (fun q => hd M (nI q) x3 n) 6).2.toInt64 (dvS (nI p) x2 A v.toInt64 (fun q => hd M (nI q) x3 n) 6).1
      · rw [if_pos d, if_pos d]
      · rw [if_neg d, if_neg d]
