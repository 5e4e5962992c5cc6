/-! failed: helpers -/
theorem mulB {a b A B : Int} (h1 : 0 ≤ a) (h2 : a ≤ A) (h3 : 0 ≤ b) (h4 : b ≤ B) : 0 ≤ a * b ∧ a * b ≤ A * B := ⟨Int.mul_nonneg h1 h3, Int.mul_le_mul h2 h4 h3 (by omega)⟩
theorem mulI {a b : Int32} (h1 : 0 ≤ a.toInt) (h2 : a.toInt ≤ 40000) (h3 : 0 ≤ b.toInt) (h4 : b.toInt ≤ 40000) : (a * b).toInt = a.toInt * b.toInt := by
  have h := mulB h1 h2 h3 h4
  rw [Int32.toInt_mul, Int.bmod_def]
  omega
theorem mulJ {a b : Int64} (h1 : 0 ≤ a.toInt) (h2 : a.toInt ≤ 40000) (h3 : 0 ≤ b.toInt) (h4 : b.toInt ≤ 40000) : (a * b).toInt = a.toInt * b.toInt := by
  have h := mulB h1 h2 h3 h4
  rw [Int64.toInt_mul, Int.bmod_def]
  omega
theorem divB {a b : Int} (h1 : 0 ≤ a) (h3 : 0 < b) : 0 ≤ a / b ∧ a / b ≤ a := ⟨Int.ediv_nonneg h1 (by omega), Int.ediv_le_self b h1⟩
theorem divI {a b : Int32} (h1 : 0 ≤ a.toInt) (h3 : 0 < b.toInt) : (a / b).toInt = a.toInt / b.toInt := by
  have h := divB h1 h3
  have h2 := Int32.toInt_lt a
  rw [Int32.toInt_div, Int.tdiv_eq_ediv_of_nonneg h1, Int.bmod_def]
  omega
theorem divJ {a b : Int64} (h1 : 0 ≤ a.toInt) (h3 : 0 < b.toInt) : (a / b).toInt = a.toInt / b.toInt := by
  have h := divB h1 h3
  have h2 := Int64.toInt_lt a
  rw [Int64.toInt_div, Int.tdiv_eq_ediv_of_nonneg h1, Int.bmod_def]
  omega
/-- a part, as an int and as a long -/
theorem prt {l d a : Int32} (l0 : 0 ≤ l.toInt) (l1 : l.toInt ≤ 40000) (d0 : 0 ≤ d.toInt) (d1 : d.toInt ≤ 9999) (a0 : 0 < a.toInt) : d.toInt64 * l.toInt64 / a.toInt64 = (l * d / a).toInt64 ∧ (l * d / a).toInt = l.toInt * d.toInt / a.toInt ∧ 0 ≤ (l * d / a).toInt ∧ (l * d / a).toInt ≤ 399960000 := by
  have hm := mulI l0 l1 d0 (by omega)
  have hb := mulB l0 l1 d0 d1
  have hmJ : (d.toInt64 * l.toInt64).toInt = d.toInt * l.toInt := by
    rw [mulJ (by rw [Int32.toInt_toInt64]; omega) (by rw [Int32.toInt_toInt64]; omega) (by rw [Int32.toInt_toInt64]; omega) (by rw [Int32.toInt_toInt64]; omega), Int32.toInt_toInt64, Int32.toInt_toInt64]
  have hd : (l * d / a).toInt = l.toInt * d.toInt / a.toInt := by
    rw [divI (by omega) a0, hm]
  have hq := divB hb.1 a0
  refine ⟨?_, hd, by omega, by omega⟩
  rw [i64_eq, Int32.toInt_toInt64, hd, divJ (by rw [hmJ, Int.mul_comm]; omega) (by rw [Int32.toInt_toInt64]; omega), hmJ, Int32.toInt_toInt64, Int.mul_comm]
theorem prt_all {d a : Int32} (d0 : 0 ≤ d.toInt) (d1 : d.toInt ≤ 9999) (a0 : 0 < a.toInt) (a1 : a.toInt ≤ 40000) : a * d / a = d := by
  rw [i32_eq, (prt (by omega) a1 d0 d1 a0).2.1, Int.mul_comm]
  exact Int.mul_ediv_cancel _ (by omega)
theorem subJ {a b : Int32} : a.toInt64 - b.toInt64 = (a - b).toInt64 ↔ (a - b).toInt = a.toInt - b.toInt := by
  rw [i64_eq, Int32.toInt_toInt64, Int64.toInt_sub, Int32.toInt_toInt64, Int32.toInt_toInt64, Int.bmod_def]
  have := Int32.toInt_lt a
  have := Int32.toInt_lt b
  have := Int32.le_toInt a
  have := Int32.le_toInt b
  omega
theorem subI {a b : Int32} (h1 : -2147483648 ≤ a.toInt - b.toInt) (h2 : a.toInt - b.toInt < 2147483648) : (a - b).toInt = a.toInt - b.toInt := by
  rw [Int32.toInt_sub, Int.bmod_def]
  omega
theorem addJI {a b : Int32} (h1 : -2147483648 ≤ a.toInt + b.toInt) (h2 : a.toInt + b.toInt < 2147483648) : a.toInt64 + b.toInt64 = (a + b).toInt64 := by
  rw [i64_eq, Int32.toInt_toInt64, addI h1 h2, addJ (by rw [Int32.toInt_toInt64, Int32.toInt_toInt64]; omega) (by rw [Int32.toInt_toInt64, Int32.toInt_toInt64]; omega), Int32.toInt_toInt64, Int32.toInt_toInt64]
theorem toI32J (a : Int32) : a.toInt64.toInt32 = a := by simp
/-- the debt of a carrier in a rank -/
def Db (M : Mem) (t q : Nat) : Int32 := rI M 101 (3 * q + t)
theorem ixd {q t : Nat} : nI q * 3 + nI t = nI (3 * q + t) ∧ 3 * nI q + nI t = nI (3 * q + t) := by
  constructor
  · rw [show (3 : Int32) = nI 3 from rfl, pk_mul, nI_add, Nat.mul_comm]
  · rw [show (3 : Int32) = nI 3 from rfl, pk_mul, nI_add]
theorem debt_c {Z : Shp} {M : Mem} (hZ : OKZ Z) (hF : Fix M) (hD : IDebt M) {q t : Nat} (hq : q < 4) (ht : t < 3) : fX5_debtOf Z M 39 (nI q) (nI t) = some (Db M t q) := by
  have hix : ix (nI (3 * q + t)) = 3 * q + t := ix_nI (by omega)
  have a41 : aok Z 41 100 (nI (3 * q + t)) := aok_nI (tg_41 hZ) (by omega) (by decide)
  simp [fX5_debtOf, tg_2 hZ, tg_3 hZ, tg_4 hZ, tg_5 hZ, tg_6 hZ, tg_7 hZ, tg_8 hZ, tg_24 hZ, tg_25 hZ, tg_26 hZ, tg_27 hZ, tg_28 hZ, tg_29 hZ, tg_30 hZ, tg_31 hZ, tg_32 hZ, tg_33 hZ, tg_34 hZ, tg_35 hZ, tg_36 hZ, tg_37 hZ, tg_38 hZ, tg_39 hZ, tg_40 hZ, tg_41 hZ, tg_42 hZ, tg_43 hZ, tg_44 hZ, tg_45 hZ, tg_46 hZ, tg_47 hZ, tg_48 hZ, tg_49 hZ, tg_50 hZ, fr_2_0 hF, fr_3_0 hF, fr_3_1 hF, fr_3_2 hF, fr_3_3 hF, fr_3_4 hF, fr_2_1 hF, fr_24_0 hF, fr_24_2 hF, fr_2_2 hF, fr_27_0 hF, fr_27_1 hF, fr_27_2 hF, fr_27_8 hF, fr_2_3 hF, fr_32_0 hF, fr_32_1 hF, fr_32_3 hF, fr_32_4 hF, fr_32_5 hF, fr_32_6 hF, fr_2_4 hF, fr_39_0 hF, fr_39_1 hF, fr_39_2 hF, fr_39_3 hF, fr_39_4 hF, fr_39_5 hF, fr_39_6 hF, fr_2_5 hF, fr_47_0 hF, fr_47_1 hF, fr_47_2 hF, ixd.1, ixd.2, if_pos a41, hix, hD.1, Db]
theorem all_c {Z : Shp} {M : Mem} (hZ : OKZ Z) (hF : Fix M) (hD : IDebt M) {t : Nat} (ht : t < 3) : fX5_allOf Z M 39 (nI t) = some (sI (Db M t) 4) := by
  unfold fX5_allOf
  refine loop_for (fun i => (sI (Db M t) i, nI i)) 4 rfl (fun i hi => ?_) (by simp [show (4 : Int32) ≤ nI 4 by decide])
  have hle := nle hi (by decide)
  rw [show nI 4 = 4 by decide] at hle
  simp [hle, tg_2 hZ, tg_3 hZ, tg_4 hZ, tg_5 hZ, tg_6 hZ, tg_7 hZ, tg_8 hZ, tg_24 hZ, tg_25 hZ, tg_26 hZ, tg_27 hZ, tg_28 hZ, tg_29 hZ, tg_30 hZ, tg_31 hZ, tg_32 hZ, tg_33 hZ, tg_34 hZ, tg_35 hZ, tg_36 hZ, tg_37 hZ, tg_38 hZ, tg_39 hZ, tg_40 hZ, tg_41 hZ, tg_42 hZ, tg_43 hZ, tg_44 hZ, tg_45 hZ, tg_46 hZ, tg_47 hZ, tg_48 hZ, tg_49 hZ, tg_50 hZ, fr_2_0 hF, fr_3_0 hF, fr_3_1 hF, fr_3_2 hF, fr_3_3 hF, fr_3_4 hF, fr_2_1 hF, fr_24_0 hF, fr_24_2 hF, fr_2_2 hF, fr_27_0 hF, fr_27_1 hF, fr_27_2 hF, fr_27_8 hF, fr_2_3 hF, fr_32_0 hF, fr_32_1 hF, fr_32_3 hF, fr_32_4 hF, fr_32_5 hF, fr_32_6 hF, fr_2_4 hF, fr_39_0 hF, fr_39_1 hF, fr_39_2 hF, fr_39_3 hF, fr_39_4 hF, fr_39_5 hF, fr_39_6 hF, fr_2_5 hF, fr_47_0 hF, fr_47_1 hF, fr_47_2 hF, debt_c hZ hF hD hi ht, pu, sI, nI_succ]
/-- the state of a rank's sharing out behind i carriers -/
def fl (M : Mem) (t p : Nat) (l a : Int32) : Nat → Int32 × Int32
  | 0 => (l, 0)
  | i + 1 => ((fl M t p l a i).1 - l * Db M t i / a, if nI p ≤ nI i then (fl M t p l a i).2 + 0 else if Db M t i ≤ 0 then (fl M t p l a i).2 + 0 else (fl M t p l a i).2 + 1)
/-- what the carrier gets in a rank -/
def fpt (M : Mem) (t p : Nat) (l a : Int32) : Int32 := if Db M t p ≤ 0 then 0 else if (fl M t p l a 4).1 ≤ (fl M t p l a 4).2 then l * Db M t p / a + 0 else l * Db M t p / a + 1
theorem part_c {Z : Shp} {M : Mem} (hZ : OKZ Z) (hF : Fix M) (hD : IDebt M) {t p : Nat} (ht : t < 3) (hp : p < 4) {l a : Int32} (ha : 0 < a.toInt) : fX5_partOfRank Z M 39 (nI p) (nI t) l a = some (fpt M t p l a) := by
  have m0 : (0 : Int32).toInt = 0 := by decide
  have h1 : ¬ a ≤ 0 := by
    rw [i32_le, m0]
    omega
  have h2 : ¬ a = 0 := fun h => by rw [h, m0] at ha; omega
  have hd := hD.2 (3 * p + t)
  unfold fX5_partOfRank fpt
  rw [if_neg h1, if_pos (tg_39 hZ), debt_c hZ hF hD hp ht]
  simp only [Option.bind_some]
  by_cases c : Db M t p = 0
  · rw [if_pos c, if_pos (by rw [c, i32_le]; omega)]
  have c2 : ¬ Db M t p ≤ 0 := by
    rw [i32_le, m0]
    intro h
    apply c
    rw [i32_eq, m0]
    have : 0 ≤ (Db M t p).toInt := hd.1
    omega
  rw [if_neg c, if_neg c2]
  refine bindL (loop_for (s0 := (l, (0 : Int32), (0 : Int32))) (fun i => ((fl M t p l a i).1, (fl M t p l a i).2, nI i)) 4 (r := fl M t p l a 4) rfl (fun i hi => ?_) (by simp [show (4 : Int32) ≤ nI 4 by decide])) ?_
  · have hle := nle hi (by decide)
    rw [show nI 4 = 4 by decide] at hle
    simp only [if_neg hle, debt_c hZ hF hD hi ht, Option.bind_some, if_pos h2, pu, fl, nI_succ]
    by_cases d1 : nI p ≤ nI i
    · simp only [if_pos d1]
    · by_cases d2 : Db M t i ≤ 0
      · simp only [if_neg d1, if_pos d2]
      · simp only [if_neg d1, if_neg d2]
  · simp only [if_pos h2]
    by_cases d : (fl M t p l a 4).1 ≤ (fl M t p l a 4).2
    · rw [if_pos d, if_pos d]
    · rw [if_neg d, if_neg d]
theorem fl_bd {M : Mem} (hD : IDebt M) {t p : Nat} {l a : Int32} (l0 : 0 ≤ l.toInt) (l1 : l.toInt ≤ 40000) (ha : 0 < a.toInt) : ∀ i : Nat, i ≤ 4 → (l.toInt - 399960000 * (i : Int) ≤ (fl M t p l a i).1.toInt ∧ (fl M t p l a i).1.toInt ≤ l.toInt) ∧ 0 ≤ (fl M t p l a i).2.toInt ∧ (fl M t p l a i).2.toInt ≤ i := by
  intro i
  induction i with
  | zero => exact fun _ => ⟨⟨by simp [fl], by simp [fl]⟩, by simp [fl], by simp [fl]⟩
  | succ i ih =>
    intro hi
    obtain ⟨⟨i1, i2⟩, i3, i4⟩ := ih (by omega)
    have hd := hD.2 (3 * i + t)
    have hq := (prt l0 l1 hd.1 hd.2 ha).2.2
    have m0 : (0 : Int32).toInt = 0 := by decide
    have m1 : (1 : Int32).toInt = 1 := by decide
    have e0 : ((fl M t p l a i).2 + 0).toInt = (fl M t p l a i).2.toInt := by rw [addI (by omega) (by omega)]; omega
    have e1 : ((fl M t p l a i).2 + 1).toInt = (fl M t p l a i).2.toInt + 1 := by rw [addI (by omega) (by omega)]; omega
    simp only [fl]
    refine ⟨?_, ?_⟩
    · show _ ≤ ((fl M t p l a i).1 - l * rI M 101 (3 * i + t) / a).toInt ∧ ((fl M t p l a i).1 - l * rI M 101 (3 * i + t) / a).toInt ≤ _
      rw [subI (by omega) (by omega)]
      omega
    · by_cases d1 : nI p ≤ nI i
      · rw [if_pos d1]; omega
      · rw [if_neg d1]
        by_cases d2 : Db M t i ≤ 0
        · rw [if_pos d2]; omega
        · rw [if_neg d2]; omega
/-- the inner loop of the reference -/
theorem part_m {Z : Shp} {M : Mem} (hZ : OKZ Z) (hF : Fix M) (hD : IDebt M) {t p : Nat} (ht : t < 3) {l a : Int32} (l0 : 0 ≤ l.toInt) (l1 : l.toInt ≤ 40000) (ha : 0 < a.toInt) : ∀ i, i < 4 → (fl M t p l a i).1.toInt64 - (Db M t i).toInt64 * l.toInt64 / a.toInt64 = (fl M t p l a (i + 1)).1.toInt64 := by
  intro i hi
  have hd := hD.2 (3 * i + t)
  have hq := prt l0 l1 hd.1 hd.2 ha
  have hb := fl_bd hD (t := t) (p := p) l0 l1 ha i (by omega)
  have e : Db M t i = rI M 101 (3 * i + t) := rfl
  rw [e, hq.1]
  simp only [fl]
  rw [e]
  exact subJ.mpr (subI (by omega) (by omega))
theorem fl_all {M : Mem} (hD : IDebt M) {t p : Nat} {a : Int32} (ha : 0 < a.toInt) (a1 : a.toInt ≤ 40000) : ∀ i : Nat, i ≤ 4 → (fl M t p a a i).1.toInt = a.toInt - sZ (fun q => (Db M t q).toInt) i := by
  intro i
  induction i with
  | zero => exact fun _ => by simp [fl, sZ]
  | succ i ih =>
    intro hi
    have i1 := ih (by omega)
    have hb := fl_bd hD (t := t) (p := p) (by omega) a1 ha i (by omega)
    have hd := hD.2 (3 * i + t)
    have e : Db M t i = rI M 101 (3 * i + t) := rfl
    simp only [fl, sZ]
    rw [prt_all (by rw [e]; exact hd.1) (by rw [e]; exact hd.2) ha a1, subI (by rw [e]; omega) (by rw [e]; omega), i1]
    omega
/-- one rank: what is left, what the carrier has -/
def fst1 (M : Mem) (p t : Nat) (s : Int32 × Int32) : Int32 × Int32 := (mxI 0 (s.1 - sI (Db M t) 4), s.2 + if s.1 < sI (Db M t) 4 then fpt M t p s.1 (sI (Db M t) 4) else Db M t p)
def fst3 (M : Mem) (p : Nat) (x : Int32) : Nat → Int32 × Int32
  | 0 => (x, 0)
  | t + 1 => fst1 M p t (fst3 M p x t)
theorem all_bd {M : Mem} (hD : IDebt M) (t : Nat) : (sI (Db M t) 4).toInt = sZ (fun q => (Db M t q).toInt) 4 ∧ 0 ≤ (sI (Db M t) 4).toInt ∧ (sI (Db M t) 4).toInt ≤ 39996 ∧ ∀ q, q < 4 → (Db M t q).toInt ≤ (sI (Db M t) 4).toInt := by
  have h := sI_Z (f := Db M t) (n := 4) (by omega) (fun k _ => by have := hD.2 (3 * k + t); unfold Db; omega) 4 (Nat.le_refl 4)
  have h0 : 0 ≤ (Db M t 0).toInt ∧ (Db M t 0).toInt ≤ 9999 := hD.2 (3 * 0 + t)
  have h1 : 0 ≤ (Db M t 1).toInt ∧ (Db M t 1).toInt ≤ 9999 := hD.2 (3 * 1 + t)
  have h2 : 0 ≤ (Db M t 2).toInt ∧ (Db M t 2).toInt ≤ 9999 := hD.2 (3 * 2 + t)
  have h3 : 0 ≤ (Db M t 3).toInt ∧ (Db M t 3).toInt ≤ 9999 := hD.2 (3 * 3 + t)
  have hs : sZ (fun q => (Db M t q).toInt) 4 = (Db M t 0).toInt + (Db M t 1).toInt + (Db M t 2).toInt + (Db M t 3).toInt := by
    simp only [sZ]
    omega
  refine ⟨h.1, by omega, by omega, fun q hq => ?_⟩
  have hq' : q = 0 ∨ q = 1 ∨ q = 2 ∨ q = 3 := by omega
  rcases hq' with rfl | rfl | rfl | rfl <;> omega
theorem fpt_bd {M : Mem} (hD : IDebt M) {t p : Nat} {l a : Int32} (l0 : 0 ≤ l.toInt) (l1 : l.toInt ≤ 40000) (ha : 0 < a.toInt) : 0 ≤ (fpt M t p l a).toInt ∧ (fpt M t p l a).toInt ≤ 400000000 := by
  have hd := hD.2 (3 * p + t)
  have hq := (prt l0 l1 hd.1 hd.2 ha).2.2
  have e : Db M t p = rI M 101 (3 * p + t) := rfl
  have m0 : (0 : Int32).toInt = 0 := by decide
  have m1 : (1 : Int32).toInt = 1 := by decide
  unfold fpt
  rw [e]
  by_cases c : rI M 101 (3 * p + t) ≤ 0
  · rw [if_pos c]; omega
  · rw [if_neg c]
    by_cases c2 : (fl M t p l a 4).1 ≤ (fl M t p l a 4).2
    · rw [if_pos c2, addI (by omega) (by omega)]; omega
    · rw [if_neg c2, addI (by omega) (by omega)]; omega
theorem fst_bd {M : Mem} (hD : IDebt M) {p : Nat} {x : Int32} (x0 : 0 ≤ x.toInt) (x1 : x.toInt ≤ 99999) : ∀ t : Nat, t ≤ 3 → (0 ≤ (fst3 M p x t).1.toInt ∧ (fst3 M p x t).1.toInt ≤ 99999) ∧ 0 ≤ (fst3 M p x t).2.toInt ∧ (fst3 M p x t).2.toInt ≤ 400000000 * (t : Int) := by
  intro t
  induction t with
  | zero => exact fun _ => ⟨⟨by simpa [fst3] using x0, by simpa [fst3] using x1⟩, by simp [fst3], by simp [fst3]⟩
  | succ t ih =>
    intro ht
    obtain ⟨⟨i1, i2⟩, i3, i4⟩ := ih (by omega)
    have hA := all_bd hD t
    have m0 : (0 : Int32).toInt = 0 := by decide
    have hs := sub_toInt i1 hA.2.1
    have hd : 0 ≤ (Db M t p).toInt ∧ (Db M t p).toInt ≤ 9999 := hD.2 (3 * p + t)
    simp only [fst3, fst1]
    refine ⟨?_, ?_⟩
    · unfold mxI
      by_cases c : 0 < (fst3 M p x t).1 - sI (Db M t) 4
      · rw [if_pos c, hs]
        rw [i32_lt, hs] at c
        omega
      · rw [if_neg c]
        omega
    · by_cases c : (fst3 M p x t).1 < sI (Db M t) 4
      · rw [if_pos c]
        rw [i32_lt] at c
        have hf := fpt_bd hD (t := t) (p := p) (l := (fst3 M p x t).1) (a := sI (Db M t) 4) i1 (by omega) (by omega)
        rw [addI (by omega) (by omega)]
        omega
      · rw [if_neg c, addI (by omega) (by omega)]
        omega
theorem paid_c {Z : Shp} {M : Mem} (hZ : OKZ Z) (hF : Fix M) (hD : IDebt M) {p : Nat} (hp : p < 4) {x : Int32} (x0 : 0 ≤ x.toInt) (x1 : x.toInt ≤ 99999) : fX5_paidTo Z M 39 (nI p) x = some (fst3 M p x 3).2 := by
  unfold fX5_paidTo
  refine loop_for (fun t => ((fst3 M p x t).1, (fst3 M p x t).2, nI t)) 3 rfl (fun t ht => ?_) (by simp [show (3 : Int32) ≤ nI 3 by decide])
  have hle := nle ht (by decide)
  rw [show nI 3 = 3 by decide] at hle
  have hb := fst_bd hD (p := p) x0 x1 t (by omega)
  have hA := all_bd hD t
  simp only [if_neg hle, if_pos (tg_39 hZ), all_c hZ hF hD ht, Option.bind_some, fst3, fst1, pu, nI_succ]
  by_cases c : (fst3 M p x t).1 < sI (Db M t) 4
  · have c2 := (i32_lt _ _).mp c
    simp only [if_pos c, part_c hZ hF hD ht hp (show 0 < (sI (Db M t) 4).toInt by omega), Option.bind_some]
  · simp only [if_neg c, debt_c hZ hF hD hp ht, Option.bind_some]
theorem op_failed {Z : Shp} {M : Mem} (hZ : OKZ Z) (hF : Fix M) (hD : IDebt M) (x1 x2 : Int32) : ∃ r, fX11_failed Z M 2 x1 x2 = some r ∧ fX12_failed Z M 51 x1 x2 = some r := by
  by_cases c1 : fX11_within x1 0 3 = 0
  · exact ⟨-101, by simp [fX11_failed, c1], by simp [fX12_failed, fX12_isCarrier, in_m1_e, in_0_e, in_0_1, in_0_2, in_0_23, in_0_3, in_0_4, in_0_40, in_0_5, in_0_50, in_0_599, in_0_6, in_0_7, in_0_9, in_0_99, in_0_999, in_0_9999, in_0_99999, in_0_999999, in_1_100, in_1_200, in_1_6, in_1_9, in_1_999, in_10_17, in_10_200, in_48_57, in_6_17, in_e_99, in_e_9999, in_within, c1]⟩
  by_cases c2 : fX11_within x2 0 99999 = 0
  · exact ⟨-102, by simp [fX11_failed, c1, c2], by simp [fX12_failed, fX12_isCarrier, in_m1_e, in_0_e, in_0_1, in_0_2, in_0_23, in_0_3, in_0_4, in_0_40, in_0_5, in_0_50, in_0_599, in_0_6, in_0_7, in_0_9, in_0_99, in_0_999, in_0_9999, in_0_99999, in_0_999999, in_1_100, in_1_200, in_1_6, in_1_9, in_1_999, in_10_17, in_10_200, in_48_57, in_6_17, in_e_99, in_e_9999, in_within, c1, c2]⟩
  obtain ⟨p, hp, rfl⟩ := wN (n := 3) (by decide) c1
  have r2 := w_rng c2
  have m0 : (0 : Int32).toInt = 0 := by decide
  have m0j : (0 : Int64).toInt = 0 := by decide
  have m9 : (99999 : Int32).toInt = 99999 := by decide
  have m1 : (1 : Int32).toInt = 1 := by decide
  refine ⟨(fst3 M p x2 3).2, ?_, ?_⟩
  · simp [fX11_failed, c1, c2, tg_2 hZ, tg_3 hZ, tg_4 hZ, tg_5 hZ, tg_6 hZ, tg_7 hZ, tg_8 hZ, tg_24 hZ, tg_25 hZ, tg_26 hZ, tg_27 hZ, tg_28 hZ, tg_29 hZ, tg_30 hZ, tg_31 hZ, tg_32 hZ, tg_33 hZ, tg_34 hZ, tg_35 hZ, tg_36 hZ, tg_37 hZ, tg_38 hZ, tg_39 hZ, tg_40 hZ, tg_41 hZ, tg_42 hZ, tg_43 hZ, tg_44 hZ, tg_45 hZ, tg_46 hZ, tg_47 hZ, tg_48 hZ, tg_49 hZ, tg_50 hZ, fr_2_0 hF, fr_3_0 hF, fr_3_1 hF, fr_3_2 hF, fr_3_3 hF, fr_3_4 hF, fr_2_1 hF, fr_24_0 hF, fr_24_2 hF, fr_2_2 hF, fr_27_0 hF, fr_27_1 hF, fr_27_2 hF, fr_27_8 hF, fr_2_3 hF, fr_32_0 hF, fr_32_1 hF, fr_32_3 hF, fr_32_4 hF, fr_32_5 hF, fr_32_6 hF, fr_2_4 hF, fr_39_0 hF, fr_39_1 hF, fr_39_2 hF, fr_39_3 hF, fr_39_4 hF, fr_39_5 hF, fr_39_6 hF, fr_2_5 hF, fr_47_0 hF, fr_47_1 hF, fr_47_2 hF, paid_c hZ hF hD (show p < 4 by omega) (show 0 ≤ x2.toInt by omega) (by omega)]
  · unfold fX12_failed fX12_isCarrier
    rw [in_0_3, if_neg c1, in_0_99999, if_neg c2]
    simp only [pu]
    refine loop_for (fun t => ((fst3 M p x2 t).1.toInt64, (fst3 M p x2 t).2.toInt64, nI t)) 3 rfl (fun t ht => ?_) (by simp [show (3 : Int32) ≤ nI 3 by decide])
    have hle := nle ht (by decide)
    rw [show nI 3 = 3 by decide] at hle
    have hb := fst_bd hD (p := p) (show 0 ≤ x2.toInt by omega) (show x2.toInt ≤ 99999 by omega) t (by omega)
    have hA := all_bd hD t
    have hdp : 0 ≤ (Db M t p).toInt ∧ (Db M t p).toInt ≤ 9999 := hD.2 (3 * p + t)
    obtain ⟨A, eA⟩ : ∃ A, A = sI (Db M t) 4 := ⟨_, rfl⟩
    obtain ⟨l, el⟩ : ∃ l, l = (fst3 M p x2 t).1 := ⟨_, rfl⟩
    obtain ⟨d, ed⟩ : ∃ d, d = (fst3 M p x2 t).2 := ⟨_, rfl⟩
    have hJ : sJ (Db M t) 4 = A.toInt64 := by
      have h := sJ_Z (f := Db M t) (n := 4) (by omega) (fun k _ => by have := hD.2 (3 * k + t); unfold Db; omega) 4 (Nat.le_refl 4)
      rw [i64_eq, Int32.toInt_toInt64, h.1, eA, hA.1]
    have hAd := hA.2.2.2 p (by omega)
    rw [← eA] at hA hAd
    rw [← el, ← ed] at hb
    have hs := sub_toInt hb.1.1 hA.2.1
    dsimp only
    rw [if_neg hle]
    refine bindL (loop_for (s0 := ((0 : Int64), (0 : Int32))) (fun i => (sJ (Db M t) i, nI i)) 4 (r := A.toInt64) rfl (fun i hi => ?_) (by simp [show (4 : Int32) ≤ nI 4 by decide, hJ])) ?_
    · have hle4 := nle hi (by decide)
      rw [show nI 4 = 4 by decide] at hle4
      have hix : ix (nI (3 * i + t)) = 3 * i + t := ix_nI (by omega)
      have a101 : aok Z 101 100 (nI (3 * i + t)) := aok_nI (tg_101 hZ) (by omega) (by decide)
      simp [hle4, tg_51 hZ, tg_52 hZ, tg_53 hZ, tg_54 hZ, tg_55 hZ, tg_56 hZ, tg_57 hZ, tg_58 hZ, tg_59 hZ, tg_60 hZ, tg_61 hZ, tg_62 hZ, tg_63 hZ, tg_64 hZ, tg_65 hZ, tg_66 hZ, tg_67 hZ, tg_68 hZ, tg_69 hZ, tg_70 hZ, tg_71 hZ, tg_72 hZ, tg_73 hZ, tg_74 hZ, tg_75 hZ, tg_76 hZ, tg_77 hZ, tg_78 hZ, tg_79 hZ, tg_80 hZ, tg_81 hZ, tg_82 hZ, tg_83 hZ, tg_84 hZ, tg_85 hZ, tg_86 hZ, tg_87 hZ, tg_88 hZ, tg_89 hZ, tg_90 hZ, tg_91 hZ, tg_92 hZ, tg_93 hZ, tg_94 hZ, tg_95 hZ, tg_96 hZ, tg_97 hZ, tg_98 hZ, tg_99 hZ, tg_100 hZ, tg_101 hZ, tg_102 hZ, tg_103 hZ, tg_104 hZ, tg_105 hZ, tg_106 hZ, tg_107 hZ, tg_108 hZ, tg_109 hZ, fr_51_0 hF, fr_51_1 hF, fr_51_2 hF, fr_51_4 hF, fr_51_5 hF, fr_51_6 hF, fr_51_7 hF, fr_51_8 hF, fr_51_9 hF, fr_51_10 hF, fr_51_16 hF, fr_51_17 hF, fr_51_18 hF, fr_51_19 hF, fr_51_20 hF, fr_51_22 hF, fr_51_23 hF, fr_51_24 hF, fr_51_25 hF, fr_51_26 hF, fr_51_27 hF, fr_51_28 hF, fr_51_29 hF, fr_51_30 hF, fr_51_31 hF, fr_51_32 hF, fr_51_33 hF, fr_51_36 hF, fr_51_37 hF, fr_51_38 hF, fr_51_39 hF, fr_51_40 hF, fr_51_41 hF, fr_51_42 hF, fr_51_51 hF, fr_51_52 hF, fr_51_54 hF, fr_51_56 hF, fr_51_58 hF, fr_51_59 hF, fr_51_60 hF, fr_51_62 hF, fr_51_63 hF, fr_51_67 hF, fr_51_68 hF, fr_51_69 hF, fr_51_70 hF, fr_51_71 hF, fr_51_72 hF, fr_51_73 hF, fr_51_74 hF, fr_51_76 hF, fr_51_77 hF, fr_51_78 hF, fr_51_79 hF, fr_51_82 hF, fr_51_83 hF, fr_51_84 hF, ixd.2, if_pos a101, hix, sJ, Db, nI_succ]
    have hixp : ix (nI (3 * p + t)) = 3 * p + t := ix_nI (by omega)
    have a101p : aok Z 101 100 (nI (3 * p + t)) := aok_nI (tg_101 hZ) (by omega) (by decide)
    rw [← el, ← ed]
    have hend : fst3 M p x2 (t + 1) = (mxI 0 (l - A), d + if l < A then fpt M t p l A else Db M t p) := by
      rw [fst3, fst1, ← el, ← ed, ← eA]
    rw [hend, nI_succ]
    by_cases cA : 0 < A.toInt
    case neg =>
      have eA0 : A = 0 := by rw [i32_eq, m0]; omega
      have eD0 : Db M t p = 0 := by rw [i32_eq, m0]; omega
      subst eA0
      have k1 : 0 ≤ lg_cmp l.toInt64 (0 : Int32).toInt64 := by
        rw [lc_ge, i64_le, Int32.toInt_toInt64, Int32.toInt_toInt64]
        omega
      have k2 : lg_cmp (0 : Int32).toInt64 0 ≤ 0 := by decide
      have k3 : mxI 0 (l - 0) = l := by
        rw [i32_eq]
        unfold mxI
        by_cases c : 0 < l - 0
        · rw [if_pos c, hs]; omega
        · rw [if_neg c]
          rw [i32_lt, hs] at c
          omega
      have k4 : ¬ l < 0 := by rw [i32_lt]; omega
      have k5 : mxI 0 l = l := by simpa using k3
      have k6 : lg_cmp (0 : Int64) 0 ≤ 0 := by decide
      rw [if_pos k1]
      simp only [Option.bind_some]
      refine bindL (v := ((0 : Int32).toInt64, (0 : Int32))) ?_ ?_
      · exact loop_done (by simp [k6])
      · simp [k6, k5, k4, eD0]
    have nA : ¬ A.toInt64 = 0 := by
      rw [i64_eq, Int32.toInt_toInt64, m0j]
      omega
    have k2 : ¬ lg_cmp A.toInt64 0 ≤ 0 := by
      intro h
      have h1 : ¬ 0 < lg_cmp A.toInt64 0 := by
        rw [i32_le] at h
        rw [i32_lt]
        omega
      rw [lc_gt, i64_lt, Int32.toInt_toInt64, m0j] at h1
      omega
    obtain ⟨m, em1, em2, em3, em4, em5⟩ : ∃ m : Int32, (if 0 ≤ lg_cmp l.toInt64 A.toInt64 then some A.toInt64 else some l.toInt64) = some m.toInt64 ∧ 0 ≤ m.toInt ∧ m.toInt ≤ 40000 ∧ l.toInt64 - m.toInt64 = (mxI 0 (l - A)).toInt64 ∧ ((l < A ∧ m = l) ∨ (¬ l < A ∧ m = A)) := by
      by_cases c : l < A
      · have c' := (i32_lt _ _).mp c
        refine ⟨l, ?_, by omega, by omega, ?_, Or.inl ⟨c, rfl⟩⟩
        · rw [if_neg]
          rw [lc_ge, i64_le, Int32.toInt_toInt64, Int32.toInt_toInt64]
          omega
        · rw [subJ.mpr (sub_toInt hb.1.1 hb.1.1), i64_eq, Int32.toInt_toInt64, Int32.toInt_toInt64, sub_toInt hb.1.1 hb.1.1]
          unfold mxI
          rw [if_neg (by rw [i32_lt, hs]; omega)]
          omega
      · have c' := mt (i32_lt _ _).mpr c
        refine ⟨A, ?_, by omega, by omega, ?_, Or.inr ⟨c, rfl⟩⟩
        · rw [if_pos]
          rw [lc_ge, i64_le, Int32.toInt_toInt64, Int32.toInt_toInt64]
          omega
        · rw [subJ.mpr hs, i64_eq, Int32.toInt_toInt64, Int32.toInt_toInt64, hs]
          unfold mxI
          by_cases c2 : 0 < l - A
          · rw [if_pos c2, hs]
          · rw [if_neg c2]
            rw [i32_lt, hs] at c2
            omega
    rw [em1]
    simp only [Option.bind_some]
    refine bindL (loop_for (s0 := (m.toInt64, (0 : Int32), (0 : Int32))) (fun i => ((fl M t p m A i).1.toInt64, (fl M t p m A i).2, nI i)) 4 (r := ((fl M t p m A 4).1.toInt64, (fl M t p m A 4).2)) rfl (fun i hi => ?_) (by simp [show (4 : Int32) ≤ nI 4 by decide])) ?_
    · have hle4 := nle hi (by decide)
      rw [show nI 4 = 4 by decide] at hle4
      have hix : ix (nI (3 * i + t)) = 3 * i + t := ix_nI (by omega)
      have a101 : aok Z 101 100 (nI (3 * i + t)) := aok_nI (tg_101 hZ) (by omega) (by decide)
      have hpm := part_m (p := p) hZ hF hD ht em2 em3 cA i hi
      have eD : Db M t i = rI M 101 (3 * i + t) := rfl
      rw [eD] at hpm
      simp only [if_neg hle4, if_neg k2, if_pos (tg_51 hZ), fr_51_73 hF, ixd.2, if_pos a101, if_pos nA, hix, hpm, nI_succ]
      simp only [fl, eD]
      by_cases d1 : nI p ≤ nI i
      · simp only [if_pos d1]
      · by_cases d2 : rI M 101 (3 * i + t) ≤ 0
        · simp only [if_neg d1, if_pos d2]
        · simp only [if_neg d1, if_neg d2]
    · have eDp : Db M t p = rI M 101 (3 * p + t) := rfl
      have hq := prt em2 em3 hdp.1 hdp.2 cA
      have hfb := fl_bd hD (t := t) (p := p) em2 em3 cA 4 (by omega)
      rw [eDp] at hq hdp
      simp only [if_neg k2, if_pos (tg_51 hZ), fr_51_73 hF, ixd.2, if_pos a101p, if_pos nA, hixp, hq.1, em4]
      have z0 : (0 : Int64) = (0 : Int32).toInt64 := by decide
      have z1 : (1 : Int64) = (1 : Int32).toInt64 := by decide
      have hcmp : 0 ≤ lg_cmp (fl M t p m A 4).2.toInt64 (fl M t p m A 4).1.toInt64 ↔ (fl M t p m A 4).1 ≤ (fl M t p m A 4).2 := by
        rw [lc_ge, i64_le, Int32.toInt_toInt64, Int32.toInt_toInt64, i32_le]
      have q0 : (m * rI M 101 (3 * p + t) / A).toInt64 + 0 = (m * rI M 101 (3 * p + t) / A + 0).toInt64 := by
        rw [z0]
        exact addJI (by omega) (by omega)
      have q1 : (m * rI M 101 (3 * p + t) / A).toInt64 + 1 = (m * rI M 101 (3 * p + t) / A + 1).toInt64 := by
        rw [z1]
        exact addJI (by omega) (by omega)
      have e0 : (m * rI M 101 (3 * p + t) / A + 0).toInt = (m * rI M 101 (3 * p + t) / A).toInt := by rw [addI (by omega) (by omega)]; omega
      have e1 : (m * rI M 101 (3 * p + t) / A + 1).toInt = (m * rI M 101 (3 * p + t) / A).toInt + 1 := by rw [addI (by omega) (by omega)]; omega
      have key : ∀ v w : Int32, v = w → -1000 ≤ v.toInt → v.toInt ≤ 400000000 → d.toInt64 + v.toInt64 = (d + w).toInt64 := by
        rintro v w rfl h1 h2
        exact addJI (by omega) (by omega)
      rcases em5 with ⟨cl, rfl⟩ | ⟨cl, rfl⟩
      · rw [if_pos cl]
        unfold fpt
        rw [eDp]
        by_cases d1 : rI M 101 (3 * p + t) ≤ 0
        · have d0 : rI M 101 (3 * p + t) = 0 := by
            rw [i32_le] at d1
            rw [i32_eq]
            omega
          have e2 : (m * rI M 101 (3 * p + t) / A).toInt = 0 := by
            rw [hq.2.1, d0, m0]
            simp
          rw [if_pos d1, if_pos d1, q0, key _ 0 (by rw [i32_eq]; omega) (by omega) (by omega)]
        · rw [if_neg d1, if_neg d1]
          by_cases d2 : (fl M t p m A 4).1 ≤ (fl M t p m A 4).2
          · rw [if_pos d2, if_pos (hcmp.mpr d2), q0, key _ _ rfl (by omega) (by omega)]
          · rw [if_neg d2, if_neg (fun h => d2 (hcmp.mp h)), q1, key _ _ rfl (by omega) (by omega)]
      · rw [if_neg cl]
        have hpa := prt_all hdp.1 hdp.2 cA (by omega)
        have hfa := fl_all hD (t := t) (p := p) cA (by omega) 4 (Nat.le_refl 4)
        have d2 : (fl M t p m m 4).1 ≤ (fl M t p m m 4).2 := by
          rw [i32_le, hfa]
          have := hA.1
          omega
        rw [eDp]
        by_cases d1 : rI M 101 (3 * p + t) ≤ 0
        · rw [if_pos d1, q0, key _ (rI M 101 (3 * p + t)) (by rw [hpa]; simp) (by omega) (by omega)]
        · rw [if_neg d1, if_pos (hcmp.mpr d2), q0, key _ (rI M 101 (3 * p + t)) (by rw [hpa]; simp) (by omega) (by omega)]
