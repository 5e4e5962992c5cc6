/-! failed: helpers -/
theorem mulB {a b A B : Int} (h1 : 0 ≤ a) (h2 : a ≤ A) (h3 : 0 ≤ b) (h4 : b ≤ B) : 0 ≤ a * b ∧ a * b ≤ A * B := ⟨Int.mul_nonneg h1 h3, Int.mul_le_mul h2 h4 h3 (by omega)⟩
theorem mulI {a b : Int32} (h1 : 0 ≤ a.toInt) (h2 : a.toInt ≤ 40000) (h3 : 0 ≤ b.toInt) (h4 : b.toInt ≤ 40000) : (a * b).toInt = a.toInt * b.toInt := by
  have h := mulB h1 h2 h3 h4
  rw [Int32.toInt_mul, Int.bmod_def]
  omega
theorem mulJ {a b : Int64} (h1 : 0 ≤ a.toInt) (h2 : a.toInt ≤ 40000) (h3 : 0 ≤ b.toInt) (h4 : b.toInt ≤ 40000) : (a * b).toInt = a.toInt * b.toInt := by
  have h := mulB h1 h2 h3 h4
  rw [Int64.toInt_mul, Int.bmod_def]
  omega
theorem divB {a b : Int} (h1 : 0 ≤ a) (h3 : 0 < b) : 0 ≤ a / b ∧ a / b ≤ a := ⟨Int.ediv_nonneg h1 (by omega), Int.ediv_le_self b h1⟩
theorem divI {a b : Int32} (h1 : 0 ≤ a.toInt) (h3 : 0 < b.toInt) : (a / b).toInt = a.toInt / b.toInt := by
  have h := divB h1 h3
  have h2 := Int32.toInt_lt a
  rw [Int32.toInt_div, Int.tdiv_eq_ediv_of_nonneg h1, Int.bmod_def]
  omega
theorem divJ {a b : Int64} (h1 : 0 ≤ a.toInt) (h3 : 0 < b.toInt) : (a / b).toInt = a.toInt / b.toInt := by
  have h := divB h1 h3
  have h2 := Int64.toInt_lt a
  rw [Int64.toInt_div, Int.tdiv_eq_ediv_of_nonneg h1, Int.bmod_def]
  omega
/-- a part, as an int and as a long -/
theorem prt {l d a : Int32} (l0 : 0 ≤ l.toInt) (l1 : l.toInt ≤ 40000) (d0 : 0 ≤ d.toInt) (d1 : d.toInt ≤ 9999) (a0 : 0 < a.toInt) : d.toInt64 * l.toInt64 / a.toInt64 = (l * d / a).toInt64 ∧ (l * d / a).toInt = l.toInt * d.toInt / a.toInt ∧ 0 ≤ (l * d / a).toInt ∧ (l * d / a).toInt ≤ 399960000 := by
  have hm := mulI l0 l1 d0 (by omega)
  have hb := mulB l0 l1 d0 d1
  have hmJ : (d.toInt64 * l.toInt64).toInt = d.toInt * l.toInt := by
    rw [mulJ (by rw [Int32.toInt_toInt64]; omega) (by rw [Int32.toInt_toInt64]; omega) (by rw [Int32.toInt_toInt64]; omega) (by rw [Int32.toInt_toInt64]; omega), Int32.toInt_toInt64, Int32.toInt_toInt64]
  have hd : (l * d / a).toInt = l.toInt * d.toInt / a.toInt := by
    rw [divI (by omega) a0, hm]
  have hq := divB hb.1 a0
  refine ⟨?_, hd, by omega, by omega⟩
  rw [i64_eq, Int32.toInt_toInt64, hd, divJ (by rw [hmJ, Int.mul_comm]; omega) (by rw [Int32.toInt_toInt64]; omega), hmJ, Int32.toInt_toInt64, Int.mul_comm]
theorem prt_all {d a : Int32} (d0 : 0 ≤ d.toInt) (d1 : d.toInt ≤ 9999) (a0 : 0 < a.toInt) (a1 : a.toInt ≤ 40000) : a * d / a = d := by
  rw [i32_eq, (prt (by omega) a1 d0 d1 a0).2.1, Int.mul_comm]
  exact Int.mul_ediv_cancel _ (by omega)
theorem subJ {a b : Int32} : a.toInt64 - b.toInt64 = (a - b).toInt64 ↔ (a - b).toInt = a.toInt - b.toInt := by
  rw [i64_eq, Int32.toInt_toInt64, Int64.toInt_sub, Int32.toInt_toInt64, Int32.toInt_toInt64, Int.bmod_def]
  have := Int32.toInt_lt a
  have := Int32.toInt_lt b
  have := Int32.le_toInt a
  have := Int32.le_toInt b
  omega
theorem subI {a b : Int32} (h1 : -2147483648 ≤ a.toInt - b.toInt) (h2 : a.toInt - b.toInt < 2147483648) : (a - b).toInt = a.toInt - b.toInt := by
  rw [Int32.toInt_sub, Int.bmod_def]
  omega
theorem addJI {a b : Int32} (h1 : -2147483648 ≤ a.toInt + b.toInt) (h2 : a.toInt + b.toInt < 2147483648) : a.toInt64 + b.toInt64 = (a + b).toInt64 := by
  rw [i64_eq, Int32.toInt_toInt64, addI h1 h2, addJ (by rw [Int32.toInt_toInt64, Int32.toInt_toInt64]; omega) (by rw [Int32.toInt_toInt64, Int32.toInt_toInt64]; omega), Int32.toInt_toInt64, Int32.toInt_toInt64]
theorem toI32J (a : Int32) : a.toInt64.toInt32 = a := by simp
/-- the debt of a carrier in a rank -/
def Db (M : Mem) (t q : Nat) : Int32 := rI M 101 (3 * q + t)
theorem ixd {q t : Nat} : nI q * 3 + nI t = nI (3 * q + t) ∧ 3 * nI q + nI t = nI (3 * q + t) := by
  constructor
  · rw [show (3 : Int32) = nI 3 from rfl, pk_mul, nI_add, Nat.mul_comm]
  · rw [show (3 : Int32) = nI 3 from rfl, pk_mul, nI_add]
theorem debt_c {Z : Shp} {M : Mem} (hZ : OKZ Z) (hF : Fix M) (hD : IDebt M) {q t : Nat} (hq : q < 4) (ht : t < 3) : fX5_debtOf Z M 39 (nI q) (nI t) = some (Db M t q) := by
  have hix : ix (nI (3 * q + t)) = 3 * q + t := ix_nI (by omega)
  have a41 : aok Z 41 100 (nI (3 * q + t)) := aok_nI (tg_41 hZ) (by omega) (by decide)
  simp [fX5_debtOf, tg_2 hZ, tg_3 hZ, tg_4 hZ, tg_5 hZ, tg_6 hZ, tg_7 hZ, tg_8 hZ, tg_24 hZ, tg_25 hZ, tg_26 hZ, tg_27 hZ, tg_28 hZ, tg_29 hZ, tg_30 hZ, tg_31 hZ, tg_32 hZ, tg_33 hZ, tg_34 hZ, tg_35 hZ, tg_36 hZ, tg_37 hZ, tg_38 hZ, tg_39 hZ, tg_40 hZ, tg_41 hZ, tg_42 hZ, tg_43 hZ, tg_44 hZ, tg_45 hZ, tg_46 hZ, tg_47 hZ, tg_48 hZ, tg_49 hZ, tg_50 hZ, fr_2_0 hF, fr_3_0 hF, fr_3_1 hF, fr_3_2 hF, fr_3_3 hF, fr_3_4 hF, fr_2_1 hF, fr_24_0 hF, fr_24_2 hF, fr_2_2 hF, fr_27_0 hF, fr_27_1 hF, fr_27_2 hF, fr_27_8 hF, fr_2_3 hF, fr_32_0 hF, fr_32_1 hF, fr_32_3 hF, fr_32_4 hF, fr_32_5 hF, fr_32_6 hF, fr_2_4 hF, fr_39_0 hF, fr_39_1 hF, fr_39_2 hF, fr_39_3 hF, fr_39_4 hF, fr_39_5 hF, fr_39_6 hF, fr_2_5 hF, fr_47_0 hF, fr_47_1 hF, fr_47_2 hF, ixd.1, ixd.2, if_pos a41, hix, hD.1, Db]
theorem all_c {Z : Shp} {M : Mem} (hZ : OKZ Z) (hF : Fix M) (hD : IDebt M) {t : Nat} (ht : t < 3) : fX5_allOf Z M 39 (nI t) = some (sI (Db M t) 4) := by
  unfold fX5_allOf
  refine loop_for (fun i => (sI (Db M t) i, nI i)) 4 rfl (fun i hi => ?_) (by simp [show (4 : Int32) ≤ nI 4 by decide])
  have hle := nle hi (by decide)
  rw [show nI 4 = 4 by decide] at hle
  simp [hle, tg_2 hZ, tg_3 hZ, tg_4 hZ, tg_5 hZ, tg_6 hZ, tg_7 hZ, tg_8 hZ, tg_24 hZ, tg_25 hZ, tg_26 hZ, tg_27 hZ, tg_28 hZ, tg_29 hZ, tg_30 hZ, tg_31 hZ, tg_32 hZ, tg_33 hZ, tg_34 hZ, tg_35 hZ, tg_36 hZ, tg_37 hZ, tg_38 hZ, tg_39 hZ, tg_40 hZ, tg_41 hZ, tg_42 hZ, tg_43 hZ, tg_44 hZ, tg_45 hZ, tg_46 hZ, tg_47 hZ, tg_48 hZ, tg_49 hZ, tg_50 hZ, fr_2_0 hF, fr_3_0 hF, fr_3_1 hF, fr_3_2 hF, fr_3_3 hF, fr_3_4 hF, fr_2_1 hF, fr_24_0 hF, fr_24_2 hF, fr_2_2 hF, fr_27_0 hF, fr_27_1 hF, fr_27_2 hF, fr_27_8 hF, fr_2_3 hF, fr_32_0 hF, fr_32_1 hF, fr_32_3 hF, fr_32_4 hF, fr_32_5 hF, fr_32_6 hF, fr_2_4 hF, fr_39_0 hF, fr_39_1 hF, fr_39_2 hF, fr_39_3 hF, fr_39_4 hF, fr_39_5 hF, fr_39_6 hF, fr_2_5 hF, fr_47_0 hF, fr_47_1 hF, fr_47_2 hF, debt_c hZ hF hD hi ht, pu, sI, nI_succ]
/-- the state of a rank's sharing out behind i carriers -/
def fl (M : Mem) (t p : Nat) (l a : Int32) : Nat → Int32 × Int32
  | 0 => (l, 0)
  | i + 1 => ((fl M t p l a i).1 - l * Db M t i / a, if nI p ≤ nI i then (fl M t p l a i).2 + 0 else if Db M t i ≤ 0 then (fl M t p l a i).2 + 0 else (fl M t p l a i).2 + 1)
/-- what the carrier gets in a rank -/
def fpt (M : Mem) (t p : Nat) (l a : Int32) : Int32 := if Db M t p ≤ 0 then 0 else if (fl M t p l a 4).1 ≤ (fl M t p l a 4).2 then l * Db M t p / a + 0 else l * Db M t p / a + 1
theorem part_c {Z : Shp} {M : Mem} (hZ : OKZ Z) (hF : Fix M) (hD : IDebt M) {t p : Nat} (ht : t < 3) (hp : p < 4) {l a : Int32} (ha : 0 < a.toInt) : fX5_partOfRank Z M 39 (nI p) (nI t) l a = some (fpt M t p l a) := by
  have m0 : (0 : Int32).toInt = 0 := by decide
  have h1 : ¬ a ≤ 0 := by
    rw [i32_le, m0]
    omega
  have h2 : ¬ a = 0 := fun h => by rw [h, m0] at ha; omega
  have hd := hD.2 (3 * p + t)
  unfold fX5_partOfRank fpt
  rw [if_neg h1, if_pos (tg_39 hZ), debt_c hZ hF hD hp ht]
  simp only [Option.bind_some]
  by_cases c : Db M t p = 0
  · rw [if_pos c, if_pos (by rw [c, i32_le]; omega)]
  have c2 : ¬ Db M t p ≤ 0 := by
    rw [i32_le, m0]
    intro h
    apply c
    rw [i32_eq, m0]
    have : 0 ≤ (Db M t p).toInt := hd.1
    omega
  rw [if_neg c, if_neg c2]
  refine bindL (loop_for (s0 := (l, (0 : Int32), (0 : Int32))) (fun i => ((fl M t p l a i).1, (fl M t p l a i).2, nI i)) 4 (r := fl M t p l a 4) rfl (fun i hi => ?_) (by simp [show (4 : Int32) ≤ nI 4 by decide])) ?_
  · have hle := nle hi (by decide)
    rw [show nI 4 = 4 by decide] at hle
    simp only [if_neg hle, debt_c hZ hF hD hi ht, Option.bind_some, if_pos h2, pu, fl, nI_succ]
    by_cases d1 : nI p ≤ nI i
    · simp only [if_pos d1]
    · by_cases d2 : Db M t i ≤ 0
      · simp only [if_neg d1, if_pos d2]
      · simp only [if_neg d1, if_neg d2]
  · simp only [if_pos h2]
    by_cases d : (fl M t p l a 4).1 ≤ (fl M t p l a 4).2
    · rw [if_pos d, if_pos d]
    · rw [if_neg d, if_neg d]
theorem fl_bd {M : Mem} (hD : IDebt M) {t p : Nat} {l a : Int32} (l0 : 0 ≤ l.toInt) (l1 : l.toInt ≤ 40000) (ha : 0 < a.toInt) : ∀ i : Nat, i ≤ 4 → (l.toInt - 399960000 * (i : Int) ≤ (fl M t p l a i).1.toInt ∧ (fl M t p l a i).1.toInt ≤ l.toInt) ∧ 0 ≤ (fl M t p l a i).2.toInt ∧ (fl M t p l a i).2.toInt ≤ i := by
  intro i
  induction i with
  | zero => exact fun _ => ⟨⟨by simp [fl], by simp [fl]⟩, by simp [fl], by simp [fl]⟩
  | succ i ih =>
    intro hi
    obtain ⟨⟨i1, i2⟩, i3, i4⟩ := ih (by omega)
    have hd := hD.2 (3 * i + t)
    have hq := (prt l0 l1 hd.1 hd.2 ha).2.2
    have m0 : (0 : Int32).toInt = 0 := by decide
    have m1 : (1 : Int32).toInt = 1 := by decide
    have e0 : ((fl M t p l a i).2 + 0).toInt = (fl M t p l a i).2.toInt := by rw [addI (by omega) (by omega)]; omega
    have e1 : ((fl M t p l a i).2 + 1).toInt = (fl M t p l a i).2.toInt + 1 := by rw [addI (by omega) (by omega)]; omega
    simp only [fl]
    refine ⟨?_, ?_⟩
    · show _ ≤ ((fl M t p l a i).1 - l * rI M 101 (3 * i + t) / a).toInt ∧ ((fl M t p l a i).1 - l * rI M 101 (3 * i + t) / a).toInt ≤ _
      rw [subI (by omega) (by omega)]
      omega
    · by_cases d1 : nI p ≤ nI i
      · rw [if_pos d1]; omega
      · rw [if_neg d1]
        by_cases d2 : Db M t i ≤ 0
        · rw [if_pos d2]; omega
        · rw [if_neg d2]; omega
/-- the inner loop of the reference -/
theorem part_m {Z : Shp} {M : Mem} (hZ : OKZ Z) (hF : Fix M) (hD : IDebt M) {t p : Nat} (ht : t < 3) {l a : Int32} (l0 : 0 ≤ l.toInt) (l1 : l.toInt ≤ 40000) (ha : 0 < a.toInt) : ∀ i, i < 4 → (fl M t p l a i).1.toInt64 - (Db M t i).toInt64 * l.toInt64 / a.toInt64 = (fl M t p l a (i + 1)).1.toInt64 := by
  intro i hi
  have hd := hD.2 (3 * i + t)
  have hq := prt l0 l1 hd.1 hd.2 ha
  have hb := fl_bd hD (t := t) (p := p) l0 l1 ha i (by omega)
  have e : Db M t i = rI M 101 (3 * i + t) := rfl
  rw [e, hq.1]
  simp only [fl]
  rw [e]
  exact subJ.mpr (subI (by omega) (by omega))
theorem fl_all {M : Mem} (hD : IDebt M) {t p : Nat} {a : Int32} (ha : 0 < a.toInt) (a1 : a.toInt ≤ 40000) : ∀ i : Nat, i ≤ 4 → (fl M t p a a i).1.toInt = a.toInt - sZ (fun q => (Db M t q).toInt) i := by
  intro i
  induction i with
  | zero => exact fun _ => by simp [fl, sZ]
  | succ i ih =>
    intro hi
    have i1 := ih (by omega)
    have hb := fl_bd hD (t := t) (p := p) (by omega) a1 ha i (by omega)
    have hd := hD.2 (3 * i + t)
    have e : Db M t i = rI M 101 (3 * i + t) := rfl
    simp only [fl, sZ]
    rw [prt_all (by rw [e]; exact hd.1) (by rw [e]; exact hd.2) ha a1, subI (by rw [e]; omega) (by rw [e]; omega), i1]
    omega
/-- one rank: what is left, what the carrier has -/
def fst1 (M : Mem) (p t : Nat) (s : Int32 × Int32) : Int32 × Int32 := (mxI 0 (s.1 - sI (Db M t) 4), s.2 + if s.1 < sI (Db M t) 4 then fpt M t p s.1 (sI (Db M t) 4) else Db M t p)
def fst3 (M : Mem) (p : Nat) (x : Int32) : Nat → Int32 × Int32
  | 0 => (x, 0)
  | t + 1 => fst1 M p t (fst3 M p x t)
theorem all_bd {M : Mem} (hD : IDebt M) (t : Nat) : (sI (Db M t) 4).toInt = sZ (fun q => (Db M t q).toInt) 4 ∧ 0 ≤ (sI (Db M t) 4).toInt ∧ (sI (Db M t) 4).toInt ≤ 39996 ∧ ∀ q, q < 4 → (Db M t q).toInt ≤ (sI (Db M t) 4).toInt := by
  have h := sI_Z (f := Db M t) (n := 4) (by omega) (fun k _ => by have := hD.2 (3 * k + t); unfold Db; omega) 4 (Nat.le_refl 4)
  have h0 : 0 ≤ (Db M t 0).toInt ∧ (Db M t 0).toInt ≤ 9999 := hD.2 (3 * 0 + t)
  have h1 : 0 ≤ (Db M t 1).toInt ∧ (Db M t 1).toInt ≤ 9999 := hD.2 (3 * 1 + t)
  have h2 : 0 ≤ (Db M t 2).toInt ∧ (Db M t 2).toInt ≤ 9999 := hD.2 (3 * 2 + t)
  have h3 : 0 ≤ (Db M t 3).toInt ∧ (Db M t 3).toInt ≤ 9999 := hD.2 (3 * 3 + t)
  have hs : sZ (fun q => (Db M t q).toInt) 4 = (Db M t 0).toInt + (Db M t 1).toInt + (Db M t 2).toInt + (Db M t 3).toInt := by
    simp only [sZ]
    omega
  refine ⟨h.1, by omega, by omega, fun q hq => ?_⟩
  have hq' : q = 0 ∨ q = 1 ∨ q = 2 ∨ q = 3 := by omega
  rcases hq' with rfl | rfl | rfl | rfl <;> omega
theorem fpt_bd {M : Mem} (hD : IDebt M) {t p : Nat} {l a : Int32} (l0 : 0 ≤ l.toInt) (l1 : l.toInt ≤ 40000) (ha : 0 < a.toInt) : 0 ≤ (fpt M t p l a).toInt ∧ (fpt M t p l a).toInt ≤ 400000000 := by
  have hd := hD.2 (3 * p + t)
  have hq := (prt l0 l1 hd.1 hd.2 ha).2.2
  have e : Db M t p = rI M 101 (3 * p + t) := rfl
  have m0 : (0 : Int32).toInt = 0 := by decide
  have m1 : (1 : Int32).toInt = 1 := by decide
  unfold fpt
  rw [e]
  by_cases c : rI M 101 (3 * p + t) ≤ 0
  · rw [if_pos c]; omega
  · rw [if_neg c]
    by_cases c2 : (fl M t p l a 4).1 ≤ (fl M t p l a 4).2
    · rw [if_pos c2, addI (by omega) (by omega)]; omega
    · rw [if_neg c2, addI (by omega) (by omega)]; omega
theorem fst_bd {M : Mem} (hD : IDebt M) {p : Nat} {x : Int32} (x0 : 0 ≤ x.toInt) (x1 : x.toInt ≤ 99999) : ∀ t : Nat, t ≤ 3 → (0 ≤ (fst3 M p x t).1.toInt ∧ (fst3 M p x t).1.toInt ≤ 99999) ∧ 0 ≤ (fst3 M p x t).2.toInt ∧ (fst3 M p x t).2.toInt ≤ 400000000 * (t : Int) := by
  intro t
  induction t with
  | zero => exact fun _ => ⟨⟨by simpa [fst3] using x0, by simpa [fst3] using x1⟩, by simp [fst3], by simp [fst3]⟩
  | succ t ih =>
    intro ht
    obtain ⟨⟨i1, i2⟩, i3, i4⟩ := ih (by omega)
    have hA := all_bd hD t
    have m0 : (0 : Int32).toInt = 0 := by decide
    have hs := sub_toInt i1 hA.2.1
    have hd : 0 ≤ (Db M t p).toInt ∧ (Db M t p).toInt ≤ 9999 := hD.2 (3 * p + t)
    simp only [fst3, fst1]
    refine ⟨?_, ?_⟩
    · unfold mxI
      by_cases c : 0 < (fst3 M p x t).1 - sI (Db M t) 4
      · rw [if_pos c, hs]
        rw [i32_lt, hs] at c
        omega
      · rw [if_neg c]
        omega
    · by_cases c : (fst3 M p x t).1 < sI (Db M t) 4
      · rw [if_pos c]
        rw [i32_lt] at c
        have hf := fpt_bd hD (t := t) (p := p) (l := (fst3 M p x t).1) (a := sI (Db M t) 4) i1 (by omega) (by omega)
        rw [addI (by omega) (by omega)]
        omega
      · rw [if_neg c, addI (by omega) (by omega)]
        omega
