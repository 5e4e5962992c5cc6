/-! an hour: a boat goes -/
theorem draws_sim {Z : Shp} {C D : Mem} (hZ : OKZ Z) (hFD : Fix D) {i : Nat} (hi : i < 7) (hL : R2 C D) {u : Int32} (hu : u = 0 ∨ u = 1) : ∃ d : Int32, fX4_draws Z C (17 + i) u = some d ∧ fX12_needs Z D 51 (nI i) u = some d ∧ (rI D 58 i = 0 → d.toInt = (rI D 55 i).toInt - (rI D 59 i).toInt) ∧ (¬ rI D 58 i = 0 → u = 1 → d.toInt = (rI D 55 i).toInt - ((rI D 59 i).toInt + (kps D i).toInt)) := by
  have hkc := keep_c hZ hL hi
  obtain ⟨k1, k2, k3, k4⟩ := kps_bd hL hi
  obtain ⟨l0, l1, l2, l3, l4, l6, c1, c2, c3, c4, c5, c6⟩ := hL i hi
  have hix : ix (nI i) = i := ix_nI (by omega)
  have a56 : aok Z 56 101 (nI i) := aok_nI (tg_56 hZ) (by omega) (by decide)
  have a59 : aok Z 59 100 (nI i) := aok_nI (tg_59 hZ) (by omega) (by decide)
  have a55 : aok Z 55 100 (nI i) := aok_nI (tg_55 hZ) (by omega) (by decide)
  have a58 : aok Z 58 101 (nI i) := aok_nI (tg_58 hZ) (by omega) (by decide)
  have m0 : (0 : Int32).toInt = 0 := by decide
  have hle : fX12_least (rI D 59 i) (rI D 55 i) = rI D 59 i := by
    unfold fX12_least
    rw [if_neg]
    rw [i32_le]
    omega
  have hsb := subI (a := rI D 55 i) (b := rI D 59 i) (by omega) (by omega)
  have k0 : ¬ (1 : Int32) = 0 := by decide
  by_cases f : rI D 58 i = 0
  · refine ⟨rI D 55 i - rI D 59 i, ?_, ?_, fun _ => hsb, fun h => absurd f h⟩
    · simp [fX4_draws, tg_l hZ hi, l3, f, l0, l4]
    · rcases hu with rfl | rfl
      · simp [fX12_needs, js, tg_51 hZ, fr_51_7 hFD, fr_51_8 hFD, fr_51_4 hFD, if_pos a58, if_pos a59, if_pos a55, hix, f, hle]
      · simp [fX12_needs, js, tg_51 hZ, fr_51_7 hFD, fr_51_8 hFD, fr_51_4 hFD, if_pos a58, if_pos a59, if_pos a55, hix, f, hle]
  · rcases hu with rfl | rfl
    · refine ⟨0, ?_, ?_, fun h => absurd h f, fun _ h => absurd h (by decide)⟩
      · simp [fX4_draws, tg_l hZ hi, l3, f]
      · simp [fX12_needs, js, tg_51 hZ, fr_51_7 hFD, if_pos a58, hix, f]
    · have hs2 := subI (a := rI D 55 i - rI D 59 i) (b := kps D i) (by omega) (by omega)
      refine ⟨rI D 55 i - rI D 59 i - kps D i, ?_, ?_, fun h => absurd h f, fun _ _ => by rw [hs2, hsb]; omega⟩
      · simp [fX4_draws, tg_l hZ hi, l3, f, hkc, l0, l4]
      · by_cases q : rI D 56 i = 0
        · have e : rI D 55 i - rI D 59 i - kps D i = rI D 55 i - rI D 59 i := by
            rw [k3 q]
            simp
          rw [e]
          simp [fX12_needs, js, tg_51 hZ, fr_51_7 hFD, fr_51_8 hFD, fr_51_4 hFD, fr_51_5 hFD, if_pos a58, if_pos a59, if_pos a55, if_pos a56, hix, f, q, hle]
        · have hh := half_bd (a := rI D 55 i) (by omega)
          have hl2 : fX12_least (rI D 55 i / 2) (rI D 55 i) = rI D 55 i / 2 := by
            unfold fX12_least
            rw [if_neg]
            rw [i32_le]
            omega
          have e : rI D 55 i - rI D 59 i - kps D i = rI D 55 i - rI D 55 i / 2 := by
            have h4 := k4 q
            rw [i32_eq, hs2, hsb, subI (by omega) (by omega)]
            omega
          rw [e]
          simp [fX12_needs, js, tg_51 hZ, fr_51_7 hFD, fr_51_4 hFD, fr_51_5 hFD, if_pos a58, if_pos a55, if_pos a56, hix, f, q, hl2]
theorem R2.cg {C D C1 D1 : Mem} (h : R2 C D) (hC : ∀ a k, 17 ≤ a → a ≤ 23 → k ≠ 5 → rI C1 a k = rI C a k) (hD : ∀ a k, 55 ≤ a → a ≤ 61 → a ≠ 60 → rI D1 a k = rI D a k) : R2 C1 D1 := by
  intro l hl
  have := h l hl
  rw [hC _ 0 (by omega) (by omega) (by omega), hC _ 1 (by omega) (by omega) (by omega), hC _ 2 (by omega) (by omega) (by omega), hC _ 3 (by omega) (by omega) (by omega), hC _ 4 (by omega) (by omega) (by omega), hC _ 6 (by omega) (by omega) (by omega), hD 55 _ (by omega) (by omega) (by omega), hD 56 _ (by omega) (by omega) (by omega), hD 57 _ (by omega) (by omega) (by omega), hD 58 _ (by omega) (by omega) (by omega), hD 59 _ (by omega) (by omega) (by omega), hD 61 _ (by omega) (by omega) (by omega)]
  exact this
theorem let_sim {Z : Shp} {C D : Mem} (hZ : OKZ Z) (hFC : Fix C) (hFD : Fix D) {i s : Nat} (hi : i < 7) (hs : s ≤ 6) (h3 : rI D 51 3 = nI s) (h1 : R1 C D) (hL : R2 C D) {u d : Int32} (hu : u = 0 ∨ u = 1) (hd1 : rI D 58 i = 0 → d.toInt = (rI D 55 i).toInt - (rI D 59 i).toInt) (hd2 : ¬ rI D 58 i = 0 → u = 1 → d.toInt = (rI D 55 i).toInt - ((rI D 59 i).toInt + (kps D i).toInt)) (hw : d.toInt ≤ (rI D 52 (upp s i)).toInt) : ∃ v C1 D1, fX4_letThrough Z C (17 + i) u (9 + upp s i) (9 + low s i) = some (v, C1) ∧ (if u = 0 then (if aok Z 58 101 (nI i) then (if rI D 58 i = 0 then (Option.bind (fX12_fill Z D 51 (nI i)) (fun v28 => (Option.bind (fX12_empty Z v28 51 (nI i)) (fun v30 => some v30)))) else (Option.bind (fX12_empty Z D 51 (nI i)) (fun v32 => some v32))) else none) else (if aok Z 58 101 (nI i) then (if rI D 58 i = 0 then (Option.bind (fX12_fill Z D 51 (nI i)) (fun v36 => some v36)) else (Option.bind (fX12_empty Z D 51 (nI i)) (fun v38 => (Option.bind (fX12_fill Z v38 51 (nI i)) (fun v40 => some v40))))) else none)) = some D1 ∧ R1 C1 D1 ∧ R2 C1 D1 ∧ Wr Z FcL [] [] C C1 ∧ Wr Z FmL [] [] D D1 ∧ (∀ a k, rJ C1 a k = rJ C a k) ∧ rJ D1 51 14 = rJ D 51 14 + v.toInt64 ∧ rJ D1 51 12 = rJ D 51 12 ∧ rJ D1 51 13 = rJ D 51 13 ∧ (∀ l, rI C1 (17 + l) 5 = if l = i then rI C (17 + i) 5 + 1 else rI C (17 + l) 5) := by
  have a58 : aok Z 58 101 (nI i) := aok_nI (tg_58 hZ) (by omega) (by decide)
  obtain ⟨C0, eC0⟩ : ∃ C0, C0 = wI C (17 + i) 5 (rI C (17 + i) 5 + 1) := ⟨_, rfl⟩
  have w0 : Wr Z FcL [] [] C C0 := by
    rw [eC0]
    exact Wr.rf.sI (Or.inl (mem_ll hi))
  have hFC0 : Fix C0 := w0.fix hFC (by decide)
  have h10 : R1 C0 D := h1.cg (fun a k x1 x2 => by rw [eC0, rI_wI, if_neg (by omega)]) (fun _ _ _ _ => rfl)
  have hL0 : R2 C0 D := hL.cg (fun a k x1 x2 x3 => by rw [eC0, rI_wI, if_neg (by omega)]) (fun _ _ _ _ _ => rfl)
  have j0 : ∀ a k, rJ C0 a k = rJ C a k := fun a k => by rw [eC0, rJ_wI]
  have p0 : ∀ l, rI C0 (17 + l) 5 = if l = i then rI C (17 + i) 5 + 1 else rI C (17 + l) 5 := by
    intro l
    rw [eC0, rI_wI]
    by_cases c : l = i
    · subst c
      rw [if_pos ⟨rfl, rfl⟩, if_pos rfl]
    · rw [if_neg (by omega), if_neg c]
  have f3 : rI C0 (17 + i) 3 = rI D 58 i := (hL0 i hi).2.2.2.1
  have hdL : dis FmL [(51, some 3), (55, none)] = true := by decide
  have k0 : ¬ (1 : Int32) = 0 := by decide
  have z64 : ∀ x : Int64, x + (0 : Int32).toInt64 = x := fun x => by simp
  rcases hu with rfl | rfl
  · by_cases f : rI D 58 i = 0
    · obtain ⟨C1, D1, g1, g2, g3, g4, g5, g6, g7, g8, g9⟩ := fill_sim hZ hFC0 hFD hi hs h3 h10 hL0 (by rw [← hd1 f]; exact hw)
      have hFC1 : Fix C1 := g5.fix hFC0 (by decide)
      have hFD1 : Fix D1 := g6.fix hFD (by decide)
      obtain ⟨v, C2, D2, k1, k2, k3, k4, k5, k6, k7, k8, k9, k10, k11, k12, k13⟩ := drain_sim hZ hFC1 hFD1 hi hs (by rw [g6.at hdL (a := 51) (k := 3) (by simp) (by omega), h3]) g3 g4
      refine ⟨v, C2, D2, ?_, ?_, k3, k4, (w0.tr g5).tr k5, g6.tr k6, fun a k => by rw [k7, g7, j0], by rw [k8, g8], by rw [k9, g8], by rw [k10, g8], fun l => by rw [k13, g9, p0]⟩
      · unfold fX4_letThrough
        simp only [if_pos (tg_l hZ hi), pu, ← eC0, if_true, f3, f, g1, Option.bind_some, k1]
      · rw [if_pos rfl, if_pos a58, if_pos f, g2, Option.bind_some, k2]
        rfl
    · obtain ⟨v, C2, D2, k1, k2, k3, k4, k5, k6, k7, k8, k9, k10, k11, k12, k13⟩ := drain_sim hZ hFC0 hFD hi hs h3 h10 hL0
      refine ⟨v, C2, D2, ?_, ?_, k3, k4, w0.tr k5, k6, fun a k => by rw [k7, j0], k8, k9, k10, fun l => by rw [k13, p0]⟩
      · unfold fX4_letThrough
        simp only [if_pos (tg_l hZ hi), pu, ← eC0, if_true, f3, if_neg f, Option.bind_some, k1]
      · rw [if_pos rfl, if_pos a58, if_neg f, k2]
        rfl
  · by_cases f : rI D 58 i = 0
    · obtain ⟨C1, D1, g1, g2, g3, g4, g5, g6, g7, g8, g9⟩ := fill_sim hZ hFC0 hFD hi hs h3 h10 hL0 (by rw [← hd1 f]; exact hw)
      refine ⟨0, C1, D1, ?_, ?_, g3, g4, w0.tr g5, g6, fun a k => by rw [g7, j0], by rw [g8, z64], by rw [g8], by rw [g8], fun l => by rw [g9, p0]⟩
      · unfold fX4_letThrough
        simp only [if_pos (tg_l hZ hi), pu, ← eC0, if_neg k0, f3, f, if_true, g1, Option.bind_some]
      · rw [if_neg k0, if_pos a58, if_pos f, g2]
        rfl
    · obtain ⟨v, C1, D1, k1, k2, k3, k4, k5, k6, k7, k8, k9, k10, k11, k12, k13⟩ := drain_sim hZ hFC0 hFD hi hs h3 h10 hL0
      have hFC1 : Fix C1 := k5.fix hFC0 (by decide)
      have hFD1 : Fix D1 := k6.fix hFD (by decide)
      have hkp := kps_bd hL hi
      obtain ⟨-, -, -, -, -, -, c1, -, -, -, c5, -⟩ := hL i hi
      have e55 := k6.row hdL (a := 55) (by simp) (by omega) i
      obtain ⟨C2, D2, g1, g2, g3, g4, g5, g6, g7, g8, g9⟩ := fill_sim hZ hFC1 hFD1 hi hs (by rw [k6.at hdL (a := 51) (k := 3) (by simp) (by omega), h3]) k3 k4 (by
        have := hd2 f rfl
        rw [e55, k12, k11, addI (by omega) (by omega)]
        omega)
      refine ⟨v, C2, D2, ?_, ?_, g3, g4, (w0.tr k5).tr g5, k6.tr g6, fun a k => by rw [g7, k7, j0], by rw [g8, k8], by rw [g8, k9], by rw [g8, k10], fun l => by rw [g9, k13, p0]⟩
      · unfold fX4_letThrough
        simp only [if_pos (tg_l hZ hi), pu, ← eC0, if_neg k0, f3, if_neg f, k1, Option.bind_some, g1]
      · rw [if_neg k0, if_pos a58, if_neg f, k2, Option.bind_some, g2]
        rfl
def R6 (C D : Mem) : Prop := ∀ l, l < 7 → rI C (17 + l) 5 = rI D 60 l
def RW (D : Mem) (h n : Nat) : Prop := ∀ b, b < n → (rI D 76 b = 0 ∨ rI D 76 b = 1) ∧ (rI D 77 b = 0 ∨ rI D 77 b = 1) ∧ (rdy D h b ↔ (rI D 77 b = 1 ∧ rI D 76 b = 0))
abbrev FcG : List (Nat × Option Nat) := [(9, none), (10, none), (11, none), (12, none), (13, none), (14, none), (15, none), (16, none), (17, none), (18, none), (19, none), (20, none), (21, none), (22, none), (23, none), (3, some 10)]
abbrev FmG : List (Nat × Option Nat) := [(52, none), (58, none), (59, none), (60, none), (61, none), (73, none), (74, none), (76, none), (51, some 14)]
def HL (Z : Shp) (n h : Nat) (C D : Mem) : Prop := R1 C D ∧ R0 C D ∧ R2 C D ∧ R6 C D ∧ R5 Z n C D ∧ RW D h n
theorem go_sim {Z : Shp} {C D : Mem} (hZ : OKZ Z) (hFC : Fix C) (hFD : Fix D) {n h i s : Nat} (hn : n ≤ 12) (hh : h ≤ 600) (hi : i < 7) (hs : s ≤ 6) (hH : HL Z n h C D) (hh1 : rI C 3 8 = nI h) (hh2 : rI D 51 11 = nI h) (hs1 : rI C 3 7 = nI s) (hs2 : rI D 51 3 = nI s) : ∃ r C1 D1, fX3_workLock Z C 3 (nI i) = some (r, C1) ∧ fX12_goThrough Z D 51 (nI i) = some (r, D1) ∧ (r = 0 ∨ r = 1) ∧ HL Z n h C1 D1 ∧ Wr Z FcG [2] [] C C1 ∧ Wr Z FmG [] [] D D1 ∧ rJ D1 51 13 = rJ D 51 13 := by
  obtain ⟨h1, h0, hL, h6, h5, hW⟩ := id hH
  have hixi : ix (nI i) = i := ix_nI (by omega)
  rcases chosen_sim hZ hFC hFD hn hh hi hs hL h5 hh1 hh2 hs1 hs2 with ⟨q1, q2⟩ | ⟨k, hk, q1, q2, hw⟩
  · exact ⟨0, C, D, by simp [fX3_workLock, tg_3 hZ, q1], by simp [fX12_goThrough, tg_51 hZ, q2], Or.inl rfl, hH, Wr.rf, Wr.rf, rfl⟩
  obtain ⟨n1, n2, n3, n4⟩ := id h5
  have hB := n3 k hk
  obtain ⟨u, u1, u2, u3⟩ := up_sim hZ hFD (show k < 12 by omega) hi hs hB hs2 hw
  have hu : u = 0 ∨ u = 1 := by
    rcases u3 with ⟨h, -⟩ | ⟨h, -⟩
    · exact Or.inl h
    · exact Or.inr h
  obtain ⟨d, d1, d2, d3, d4⟩ := draws_sim hZ hFD hi hL hu
  obtain ⟨-, q, g, x1, x2, x3, x4, x5⟩ := id hw
  obtain ⟨⟨B1, B2⟩, e0, e1, e2, e3, e4, e5, e6, e7, e8, e9, ⟨f, g', q', b1, b2', b3, b4, b5, b6, b7, b8⟩, bl, bp, brest⟩ := id hB
  have hqq : q' = q := (nI_eq (by omega) (by omega)).mp (b7.symm.trans x1)
  have hgg : g' = g := (nI_eq (by omega) (by omega)).mp (b6.symm.trans x2)
  subst hqq hgg
  obtain ⟨B, eB⟩ : ∃ B, B = rR C 8 k := ⟨_, rfl⟩
  rw [← eB] at q1 u1 B1 B2 e0 e1 e2 e3 e4 e5 e6 e7 e8 e9
  have hB0 : ¬ B = 0 := by omega
  have hkm : ¬ nI k = -1 := nm1 (by omega)
  have hix : ix (nI k) = k := ix_nI (by omega)
  -- where it goes
  obtain ⟨t, ht7, htq, htg, htU, htL⟩ : ∃ t, t ≤ 7 ∧ ((q' = i ∧ t = i + 1) ∨ (q' = i + 1 ∧ t = i)) ∧ (fX1_nextPlace Z C B = some (nI t)) ∧ (if u = 0 then q' else t) = upp s i ∧ (if u = 0 then t else q') = low s i := by
    have hU : upp s i = i ∨ upp s i = i + 1 := by
      unfold upp
      split <;> omega
    have hUL : (upp s i = i ∧ low s i = i + 1) ∨ (upp s i = i + 1 ∧ low s i = i) := by
      unfold upp low
      split <;> omega
    have equ : nI q' = nI (upp s i) ↔ q' = upp s i := nI_eq (by omega) (by omega)
    have legq : nI g' ≤ nI q' ↔ g' ≤ q' := nI_leI (by omega) (by omega)
    rw [x1] at u3
    rcases x5 with ⟨o1, o2⟩ | ⟨o1, o2⟩
    · refine ⟨i + 1, by omega, Or.inl ⟨o1, rfl⟩, ?_, ?_, ?_⟩
      · have := mt legq.mp (show ¬ g' ≤ q' by omega)
        simp only [fX1_nextPlace, if_pos B2, e0, e6, x1, x2, if_neg this, nI_1]
        rw [o1]
      · rcases u3 with ⟨rfl, v⟩ | ⟨rfl, v⟩
        · rw [if_pos rfl]; exact equ.mp v
        · rw [if_neg (by decide)]
          have := mt equ.mpr v
          omega
      · rcases u3 with ⟨rfl, v⟩ | ⟨rfl, v⟩
        · rw [if_pos rfl]
          have := equ.mp v
          omega
        · rw [if_neg (by decide)]
          have := mt equ.mpr v
          omega
    · refine ⟨i, by omega, Or.inr ⟨o1, rfl⟩, ?_, ?_, ?_⟩
      · have := legq.mpr (show g' ≤ q' by omega)
        simp only [fX1_nextPlace, if_pos B2, e0, e6, x1, x2, if_pos this]
        rw [o1, nI_pred]
      · rcases u3 with ⟨rfl, v⟩ | ⟨rfl, v⟩
        · rw [if_pos rfl]; exact equ.mp v
        · rw [if_neg (by decide)]
          have := mt equ.mpr v
          omega
      · rcases u3 with ⟨rfl, v⟩ | ⟨rfl, v⟩
        · rw [if_pos rfl]
          have := equ.mp v
          omega
        · rw [if_neg (by decide)]
          have := mt equ.mpr v
          omega
  have hU8 : upp s i < 8 := by
    unfold upp
    split <;> omega
  have hixt : ix (nI t) = t := ix_nI (by omega)
  have hixq : ix (nI q') = q' := ix_nI (by omega)
  have hixU : ix (nI (upp s i)) = upp s i := ix_nI (by omega)
  have a4t : aok Z 4 110 (nI t) := aok_nI (tg_4 hZ) (by omega) (by decide)
  have a4q : aok Z 4 110 (nI q') := aok_nI (tg_4 hZ) (by omega) (by decide)
  have a5 : aok Z 5 111 (nI i) := aok_nI (tg_5 hZ) (by omega) (by decide)
  have a73 : aok Z 73 100 (nI k) := aok_nI (tg_73 hZ) (by omega) (by decide)
  have a74 : aok Z 74 100 (nI k) := aok_nI (tg_74 hZ) (by omega) (by decide)
  have a76 : aok Z 76 101 (nI k) := aok_nI (tg_76 hZ) (by omega) (by decide)
  have a70 : aok Z 70 100 (nI k) := aok_nI (tg_70 hZ) (by omega) (by decide)
  have a69 : aok Z 69 100 (nI k) := aok_nI (tg_69 hZ) (by omega) (by decide)
  have a68 : aok Z 68 100 (nI k) := aok_nI (tg_68 hZ) (by omega) (by decide)
  have a60 : aok Z 60 100 (nI i) := aok_nI (tg_60 hZ) (by omega) (by decide)
  have a52U : aok Z 52 100 (nI (upp s i)) := aok_nI (tg_52 hZ) (by omega) (by decide)
  have a52t : aok Z 52 100 (nI t) := aok_nI (tg_52 hZ) (by omega) (by decide)
  have a54t : aok Z 54 100 (nI t) := aok_nI (tg_54 hZ) (by omega) (by decide)
  obtain ⟨pU0, -⟩ := h1 (upp s i) hU8
  obtain ⟨pt0, pt1, pt2, -⟩ := h1 t (by omega)
  have hv17 : (if u = 0 then some (9 + q') else some (9 + t)) = some (9 + upp s i) := by
    rw [← htU]
    split <;> rfl
  have hv29 : (if u = 0 then some (9 + t) else some (9 + q')) = some (9 + low s i) := by
    rw [← htL]
    split <;> rfl
  have hv11 : (if nI q' = nI i then some (nI i + 1) else some (nI i)) = some (nI t) := by
    rcases htq with ⟨o1, o2⟩ | ⟨o1, o2⟩
    · rw [o1, if_pos rfl, o2, nI_1]
    · rw [if_neg, o2]
      intro e
      have := (nI_eq (a := q') (b := i) (by omega) (by omega)).mp e
      omega
  have hup := upper_m hZ hs hi hs2
  -- the two programs, as far as the tests
  have hcls : ∀ o, (if rI D 52 (upp s i) < d then some ((0 : Int32), C) else (if rI D 54 t + 5 * rI D 69 k ≤ rI D 52 t then (Option.bind (fX4_letThrough Z C (17 + i) u (9 + upp s i) (9 + low s i)) (fun v30 => pu (wJ v30.2 3 10 (rJ C 3 10 + v30.1.toInt64)) (fun M32 => Option.bind (fX1_nextPlace Z M32 B) (fun v33 => Option.bind (fX1_comeInto Z M32 B v33 (rI M32 3 8)) (fun v35 => some ((1 : Int32), v35)))))) else some (0, C))) = o → fX3_workLock Z C 3 (nI i) = o := by
    intro o ho
    unfold fX3_workLock
    rw [if_pos (tg_3 hZ), q1, Option.bind_some, if_neg hB0, if_pos B2, hs1, u1, Option.bind_some, htg, Option.bind_some, fr_3_0 hFC, if_pos a4t, hixt, fr_p hFC (by omega), pu, e6, x1, if_pos a4q, hixq, fr_p hFC (by omega), pu, hv17, Option.bind_some, if_pos (tg_p hZ hU8), fr_3_1 hFC, if_pos a5, hixi, fr_l hFC hi, if_pos (tg_l hZ hi), d1, Option.bind_some, pU0, if_pos (tg_p hZ (show t < 8 by omega)), pt2, e1, pt0, hv29, Option.bind_some]
    exact ho
  have hmod : ∀ o, (if rI D 52 (upp s i) < d then some ((0 : Int32), D) else (if rI D 54 t + 5 * rI D 69 k ≤ rI D 52 t then (Option.bind (if u = 0 then (if aok Z 58 101 (nI i) then (if rI D 58 i = 0 then (Option.bind (fX12_fill Z D 51 (nI i)) (fun v28 => (Option.bind (fX12_empty Z v28 51 (nI i)) (fun v30 => some v30)))) else (Option.bind (fX12_empty Z D 51 (nI i)) (fun v32 => some v32))) else none) else (if aok Z 58 101 (nI i) then (if rI D 58 i = 0 then (Option.bind (fX12_fill Z D 51 (nI i)) (fun v36 => some v36)) else (Option.bind (fX12_empty Z D 51 (nI i)) (fun v38 => (Option.bind (fX12_fill Z v38 51 (nI i)) (fun v40 => some v40))))) else none)) (fun v25 : Mem => (if aok Z (rR v25 51 28) 100 (nI k) then (pu (wI v25 (rR v25 51 28) (ix (nI k)) (nI t)) (fun M43 => (if aok Z (rR M43 51 23) 100 (nI k) then (Option.bind (if nI t = (rI M43 (rR M43 51 23) (ix (nI k))) then some (-1 : Int32) else (if aok Z (rR M43 51 25) 100 (nI k) then some ((rI M43 51 11) + (rI M43 (rR M43 51 25) (ix (nI k)))) else none)) (fun v48 : Int32 => (if aok Z (rR M43 51 29) 100 (nI k) then (pu (wI M43 (rR M43 51 29) (ix (nI k)) v48) (fun M51 => (if aok Z (rR M51 51 31) 101 (nI k) then (pu (wI M51 (rR M51 51 31) (ix (nI k)) (1 : Int32)) (fun M53 => (if aok Z (rR M53 51 9) 100 (nI i) then (pu (wI M53 (rR M53 51 9) (ix (nI i)) ((rI M53 (rR M53 51 9) (ix (nI i))) + (1 : Int32))) (fun M55 => some ((1 : Int32), M55))) else none))) else none))) else none))) else none))) else none))) else some (0, D))) = o → fX12_goThrough Z D 51 (nI i) = o := by
    intro o ho
    unfold fX12_goThrough
    rw [if_pos (tg_51 hZ), q2, Option.bind_some, if_neg hkm, u2, Option.bind_some, fr_51_28 hFD, if_pos a73, hix, x1, hv11, Option.bind_some, hup, Option.bind_some, fr_51_0 hFD, if_pos a52U, d2, Option.bind_some, hixU, if_pos a52t, fr_51_2 hFD, if_pos a54t, fr_51_24 hFD, if_pos a69, hixt, fr_51_7 hFD, hixi]
    rw [hix, hixi] at ho
    exact ho
  by_cases y1 : rI D 52 (upp s i) < d
  · exact ⟨0, C, D, hcls _ (by rw [if_pos y1]), hmod _ (by rw [if_pos y1]), Or.inl rfl, hH, Wr.rf, Wr.rf, rfl⟩
  by_cases y2 : rI D 54 t + 5 * rI D 69 k ≤ rI D 52 t
  case neg => exact ⟨0, C, D, hcls _ (by rw [if_neg y1, if_neg y2]), hmod _ (by rw [if_neg y1, if_neg y2]), Or.inl rfl, hH, Wr.rf, Wr.rf, rfl⟩
  obtain ⟨v, C2, D2, g1, g2, g3, g4, g5, g6, g7, g8, g9, g10, g11⟩ := let_sim hZ hFC hFD hi hs hs2 h1 hL hu d3 d4 (by rw [i32_lt] at y1; omega)
  have hFD2 : Fix D2 := g6.fix hFD (by decide)
  have cB : ∀ b j, 110 ≤ b → rI C2 b j = rI C b j := fun b j hb => g5.dyn (by decide) hb (by simp) j
  have cR : ∀ a j, rR C2 a j = rR C a j := fun a j => g5.2 a j (by simp) (by simp)
  have hdC : dis FcL [(3, none)] = true := by decide
  have c3 : ∀ j, rI C2 3 j = rI C 3 j := fun j => g5.row hdC (a := 3) (by simp) (by omega) j
  have hdD : dis FmL [(51, some 11), (51, some 3), (51, some 21), (60, none), (67, none), (68, none), (69, none), (70, none), (71, none), (72, none), (73, none), (74, none), (75, none), (76, none), (77, none), (100, none)] = true := by decide
  have dr : ∀ a, (a = 60 ∨ (67 ≤ a ∧ a ≤ 77) ∨ a = 100) → ∀ j, rI D2 a j = rI D a j := by
    intro a ha j
    have : a = 60 ∨ a = 67 ∨ a = 68 ∨ a = 69 ∨ a = 70 ∨ a = 71 ∨ a = 72 ∨ a = 73 ∨ a = 74 ∨ a = 75 ∨ a = 76 ∨ a = 77 ∨ a = 100 := by omega
    rcases this with rfl | rfl | rfl | rfl | rfl | rfl | rfl | rfl | rfl | rfl | rfl | rfl | rfl <;> exact g6.row hdD (by simp) (by omega) j
  have d11 : rI D2 51 11 = nI h := by rw [g6.at hdD (a := 51) (k := 11) (by simp) (by omega), hh2]
  obtain ⟨R, eR⟩ : ∃ R, R = (if t = g' then (-1 : Int32) else nI h + rI D 70 k) := ⟨_, rfl⟩
  have etg : nI t = nI g' ↔ t = g' := nI_eq (by omega) (by omega)
  have hRb : ¬ t = g' → R.toInt = (h : Int) + (rI D 70 k).toInt := by
    intro c
    rw [eR, if_neg c, addI (by rw [nI_toInt (by omega)]; omega) (by rw [nI_toInt (by omega)]; omega), nI_toInt (by omega)]
  have m1 : (-1 : Int32).toInt = -1 := by decide
  have hRm : t = g' ↔ R = -1 := by
    constructor
    · intro c
      rw [eR, if_pos c]
    · intro c
      refine Classical.byContradiction fun e => ?_
      have := hRb e
      rw [c, m1] at this
      omega
  obtain ⟨C1, eC⟩ : ∃ C1, C1 = wI (wI (wJ C2 3 10 (rJ C 3 10 + v.toInt64)) B 6 (nI t)) B 7 R := ⟨_, rfl⟩
  obtain ⟨D1, eD⟩ : ∃ D1, D1 = wI (wI (wI (wI D2 73 k (nI t)) 74 k R) 76 k 1) 60 i (rI D 60 i + 1) := ⟨_, rfl⟩
  have hC1 : fX1_comeInto Z (wJ C2 3 10 (rJ C 3 10 + v.toInt64)) B (nI t) (nI h) = some C1 := by
    have r0 : rI (wI (wJ C2 3 10 (rJ C 3 10 + v.toInt64)) B 6 (nI t)) B 0 = nI g' := by rw [rI_wI, if_neg (by omega), rI_wJ, cB B 0 B1, e0, x2]
    have r2 : rI (wI (wJ C2 3 10 (rJ C 3 10 + v.toInt64)) B 6 (nI t)) B 2 = rI D 70 k := by rw [rI_wI, if_neg (by omega), rI_wJ, cB B 2 B1, e2]
    unfold fX1_comeInto
    rw [if_pos B2]
    simp only [pu]
    rw [r0, r2]
    by_cases c : t = g'
    · rw [if_pos c] at eR
      rw [if_pos (etg.mpr c), eC, eR]
    · rw [if_neg c] at eR
      rw [if_neg (mt etg.mp c), eC, eR]
  have hnp : fX1_nextPlace Z (wJ C2 3 10 (rJ C 3 10 + v.toInt64)) B = some (nI t) := by
    rw [← htg]
    unfold fX1_nextPlace
    rw [rI_wJ, rI_wJ, cB B 0 B1, cB B 6 B1]
  have rC : ∀ a j, rI C1 a j = if a = B ∧ j = 7 then R else if a = B ∧ j = 6 then nI t else rI C2 a j := by
    intro a j
    rw [eC, rI_wI, rI_wI, rI_wJ]
  have rD : ∀ a j, rI D1 a j = if a = 60 ∧ j = i then rI D 60 i + 1 else if a = 76 ∧ j = k then 1 else if a = 74 ∧ j = k then R else if a = 73 ∧ j = k then nI t else rI D2 a j := by
    intro a j
    rw [eD, rI_wI, rI_wI, rI_wI, rI_wI]
  have rRC : ∀ a j, rR C1 a j = rR C a j := by
    intro a j
    rw [eC, rR_wI, rR_wI, rR_wJ, cR]
  have qB : (tg Z B).1 ∈ [2] := by rw [B2]; simp
  refine ⟨1, C1, D1, hcls _ ?_, hmod _ ?_, Or.inr rfl, ⟨?_, ?_, ?_, ?_, ⟨?_, ?_, fun j hj => ?_, fun a b => ?_⟩, fun b hb => ?_⟩, ?_, ?_, ?_⟩
  · rw [if_neg y1, if_pos y2, g1, Option.bind_some, pu, hnp, Option.bind_some, rI_wJ, c3, hh1, hC1, Option.bind_some]
  · rw [if_neg y1, if_pos y2, g2, Option.bind_some, fr_51_28 hFD2, if_pos a73, hix]
    simp only [pu, rR_wI, fr_51_23 hFD2, if_pos a68, fr_51_25 hFD2, if_pos a70, fr_51_29 hFD2, if_pos a74, fr_51_31 hFD2, if_pos a76, fr_51_9 hFD2, if_pos a60]
    have z1 : rI (wI D2 73 k (nI t)) 68 k = nI g' := by
      rw [rI_wI, if_neg (by omega), dr 68 (by omega), x2]
    have z2 : rI (wI D2 73 k (nI t)) 70 k = rI D 70 k := by
      rw [rI_wI, if_neg (by omega), dr 70 (by omega)]
    have z3 : rI (wI D2 73 k (nI t)) 51 11 = nI h := by
      rw [rI_wI, if_neg (by omega), d11]
    have z4 : (if nI t = nI g' then some (-1 : Int32) else some (nI h + rI D 70 k)) = some R := by
      rw [eR]
      by_cases c : t = g'
      · rw [if_pos (etg.mpr c), if_pos c]
      · rw [if_neg (mt etg.mp c), if_neg c]
    rw [z1, z2, z3, z4, Option.bind_some, hixi]
    have z5 : rI (wI (wI (wI D2 73 k (nI t)) 74 k R) 76 k 1) 60 i = rI D 60 i := by
      rw [rI_wI, if_neg (by omega), rI_wI, if_neg (by omega), rI_wI, if_neg (by omega), dr 60 (by omega)]
    rw [z5, eD]
  · refine g3.cg (fun a j v1 v2 => ?_) (fun a j v1 v2 => ?_)
    · rw [rC, if_neg (by omega), if_neg (by omega)]
    · rw [rD, if_neg (by omega), if_neg (by omega), if_neg (by omega), if_neg (by omega)]
  · refine ⟨?_, ?_⟩
    · rw [eC, rJ_wI, rJ_wI, rJ_wJ, if_neg (by omega), g7, eD, rJ_wI, rJ_wI, rJ_wI, rJ_wI, g9, h0.1]
    · rw [eC, rJ_wI, rJ_wI, rJ_wJ, if_pos ⟨rfl, rfl⟩, eD, rJ_wI, rJ_wI, rJ_wI, rJ_wI, g8, h0.2]
  · refine g4.cg (fun a j v1 v2 v3 => ?_) (fun a j v1 v2 v3 => ?_)
    · rw [rC, if_neg (by omega), if_neg (by omega)]
    · rw [rD, if_neg (by omega), if_neg (by omega), if_neg (by omega), if_neg (by omega)]
  · intro l hl
    have k1 : rI C1 (17 + l) 5 = rI C2 (17 + l) 5 := by rw [rC, if_neg (by omega), if_neg (by omega)]
    rw [k1, g11]
    by_cases c : l = i
    · subst c
      have k2 : rI D1 60 l = rI D 60 l + 1 := by rw [rD, if_pos ⟨rfl, rfl⟩]
      rw [if_pos rfl, k2, h6 l hl]
    · have k2 : rI D1 60 l = rI D 60 l := by rw [rD, if_neg (by omega), if_neg (by omega), if_neg (by omega), if_neg (by omega), dr 60 (by omega)]
      rw [if_neg c, k2, h6 l hl]
  · rw [rC, if_neg (by omega), if_neg (by omega), c3, n1]
  · have hd21 := g6.at hdD (a := 51) (k := 21) (by simp) (by omega)
    rw [rD, if_neg (by omega), if_neg (by omega), if_neg (by omega), if_neg (by omega), hd21, n2]
  · have hBj := n3 j hj
    obtain ⟨⟨v1, v2⟩, w0, w1, w2, w3, w4, w5, w6, w7, w8, w9, wq, wr⟩ := hBj
    have G : ∀ a, (67 ≤ a ∧ a ≤ 72) ∨ a = 75 ∨ a = 100 → rI D1 a j = rI D a j := by
      intro a ha
      rw [rD, if_neg (by omega), if_neg (by omega), if_neg (by omega), if_neg (by omega), dr a (by omega)]
    have F : ∀ x, x ≠ 6 → x ≠ 7 → rI C1 (rR C 8 j) x = rI C (rR C 8 j) x := by
      intro x hx1 hx2
      rw [rC, if_neg (by omega), if_neg (by omega), cB _ _ v1]
    by_cases c : j = k
    · subst c
      have z6 : rI C1 (rR C 8 j) 6 = nI t := by rw [← eB, rC, if_neg (by omega), if_pos ⟨rfl, rfl⟩]
      have z7 : rI C1 (rR C 8 j) 7 = R := by rw [← eB, rC, if_pos ⟨rfl, rfl⟩]
      have y73 : rI D1 73 j = nI t := by rw [rD, if_neg (by omega), if_neg (by omega), if_neg (by omega), if_pos ⟨rfl, rfl⟩]
      have y74 : rI D1 74 j = R := by rw [rD, if_neg (by omega), if_neg (by omega), if_pos ⟨rfl, rfl⟩]
      unfold b2
      rw [rRC, z6, z7, y73, y74, F 0 (by omega) (by omega), F 1 (by omega) (by omega), F 2 (by omega) (by omega), F 3 (by omega) (by omega), F 4 (by omega) (by omega), F 5 (by omega) (by omega), F 8 (by omega) (by omega), F 9 (by omega) (by omega), G 67 (by omega), G 68 (by omega), G 69 (by omega), G 70 (by omega), G 71 (by omega), G 72 (by omega), G 75 (by omega), G 100 (by omega)]
      exact ⟨⟨v1, v2⟩, w0, w1, w2, w3, w4, w5, rfl, rfl, w8, w9, ⟨f, g', t, b1, b2', ht7, b4, b5, b6, rfl, hRm⟩, wr⟩
    · have hne : rR C 8 j ≠ B := by
        rw [eB]
        rcases Nat.lt_or_ge j k with h2 | h2
        · exact n4 j k h2 hk
        · exact (n4 k j (by omega) hj).symm
      have F6 : ∀ x, rI C1 (rR C 8 j) x = rI C (rR C 8 j) x := by
        intro x
        rw [rC, if_neg (fun e => hne e.1), if_neg (fun e => hne e.1), cB _ _ v1]
      have y73 : rI D1 73 j = rI D 73 j := by rw [rD, if_neg (by omega), if_neg (by omega), if_neg (by omega), if_neg (by omega), dr 73 (by omega)]
      have y74 : rI D1 74 j = rI D 74 j := by rw [rD, if_neg (by omega), if_neg (by omega), if_neg (by omega), if_neg (by omega), dr 74 (by omega)]
      unfold b2
      rw [rRC, y73, y74, F6, F6, F6, F6, F6, F6, F6, F6, F6, F6, G 67 (by omega), G 68 (by omega), G 69 (by omega), G 70 (by omega), G 71 (by omega), G 72 (by omega), G 75 (by omega), G 100 (by omega)]
      exact ⟨⟨v1, v2⟩, w0, w1, w2, w3, w4, w5, w6, w7, w8, w9, wq, wr⟩
  · rw [rRC, rRC]
    exact n4 a b
  · obtain ⟨v1, v2, v3⟩ := hW b hb
    have y77 : rI D1 77 b = rI D 77 b := by rw [rD, if_neg (by omega), if_neg (by omega), if_neg (by omega), if_neg (by omega), dr 77 (by omega)]
    by_cases c : b = k
    · subst c
      have y76 : rI D1 76 b = 1 := by rw [rD, if_neg (by omega), if_pos ⟨rfl, rfl⟩]
      have y74 : rI D1 74 b = R := by rw [rD, if_neg (by omega), if_neg (by omega), if_pos ⟨rfl, rfl⟩]
      rw [y76, y77]
      refine ⟨Or.inr rfl, v2, ?_⟩
      constructor
      · rintro ⟨r1, r2⟩
        exfalso
        rw [y74] at r1 r2
        have := hRb (fun e => r1 (hRm.mp e))
        omega
      · rintro ⟨-, e⟩
        exact absurd e (by decide)
    · have y76 : rI D1 76 b = rI D 76 b := by rw [rD, if_neg (by omega), if_neg (by omega), if_neg (by omega), if_neg (by omega), dr 76 (by omega)]
      have y74 : rI D1 74 b = rI D 74 b := by rw [rD, if_neg (by omega), if_neg (by omega), if_neg (by omega), if_neg (by omega), dr 74 (by omega)]
      rw [y76, y77]
      refine ⟨v1, v2, ?_⟩
      unfold rdy
      rw [y74]
      exact v3
  · rw [eC]
    exact (((g5.mono (by decide) (by simp) (by simp)).sJ (by simp [inF])).sD B1 qB).sD B1 qB
  · rw [eD]
    exact ((((g6.mono (by decide) (by simp) (by simp)).sI (by simp [inF])).sI (by simp [inF])).sI (by simp [inF])).sI (by simp [inF])
  · rw [eD, rJ_wI, rJ_wI, rJ_wI, rJ_wI, g10]
