/-! an hour: who goes -/
def b2 (Z : Shp) (C D : Mem) (k : Nat) : Prop := (110 ≤ rR C 8 k ∧ tg Z (rR C 8 k) = (2, 10)) ∧ rI C (rR C 8 k) 0 = rI D 68 k ∧ rI C (rR C 8 k) 1 = rI D 69 k ∧ rI C (rR C 8 k) 2 = rI D 70 k ∧ rI C (rR C 8 k) 3 = rI D 71 k ∧ rI C (rR C 8 k) 4 = rI D 72 k ∧ rI C (rR C 8 k) 5 = 5 * (abI (rI D 68 k - rI D 67 k) + 1) ∧ rI C (rR C 8 k) 6 = rI D 73 k ∧ rI C (rR C 8 k) 7 = rI D 74 k ∧ rI C (rR C 8 k) 8 = rI D 75 k ∧ rI C (rR C 8 k) 9 = rI D 100 k ∧
  (∃ f g q, f ≤ 7 ∧ g ≤ 7 ∧ q ≤ 7 ∧ f ≠ g ∧ rI D 67 k = nI f ∧ rI D 68 k = nI g ∧ rI D 73 k = nI q ∧ (q = g ↔ rI D 74 k = -1)) ∧ (0 ≤ (rI D 69 k).toInt ∧ (rI D 69 k).toInt ≤ 40) ∧ (1 ≤ (rI D 70 k).toInt ∧ (rI D 70 k).toInt ≤ 9) ∧ (∃ g, g ≤ 3 ∧ rI D 71 k = nI g) ∧ (∃ c, c ≤ 3 ∧ rI D 72 k = nI c) ∧ (rI D 100 k = 0 ∨ rI D 100 k = 1)
def R5 (Z : Shp) (n : Nat) (C D : Mem) : Prop := rI C 3 6 = nI n ∧ rI D 51 21 = nI n ∧ (∀ k, k < n → b2 Z C D k) ∧ ∀ j k, j < k → k < n → rR C 8 j ≠ rR C 8 k
def rdy (D : Mem) (h k : Nat) : Prop := ¬ rI D 74 k = -1 ∧ (rI D 74 k).toInt ≤ (h : Int)
theorem ready_sim {Z : Shp} {C D : Mem} (hZ : OKZ Z) (hFD : Fix D) {h k : Nat} (hk : k < 12) (hh : h ≤ 600) (hB : b2 Z C D k) (hh2 : rI D 51 11 = nI h) : ∃ v : Int32, fX1_isReady Z C (rR C 8 k) (nI h) = some v ∧ fX12_isReady Z D 51 (nI k) = some v ∧ ((v = 1 ∧ rdy D h k) ∨ (v = 0 ∧ ¬ rdy D h k)) := by
  obtain ⟨⟨u1, u2⟩, e0, e1, e2, e3, e4, e5, e6, e7, e8, e9, ⟨f, g, q, b1, b2', b3, b4, b5, b6, b7, b8⟩, -⟩ := hB
  have hix : ix (nI k) = k := ix_nI (by omega)
  have a74 : aok Z 74 100 (nI k) := aok_nI (tg_74 hZ) (by omega) (by decide)
  by_cases c : q = g
  · have c2 := b8.mp c
    refine ⟨0, ?_, ?_, Or.inr ⟨rfl, fun h => h.1 c2⟩⟩
    · simp [fX1_isReady, fX1_isThere, u2, e0, e6, b6, b7, c]
    · simp [fX12_isReady, tg_51 hZ, fr_51_29 hFD, if_pos a74, hix, c2]
  · have c2 := mt b8.mpr c
    have c3 : ¬ nI q = nI g := fun e => c ((nI_eq (by omega) (by omega)).mp e)
    have hlt : nI h < rI D 74 k ↔ ¬ (rI D 74 k).toInt ≤ (h : Int) := by
      rw [i32_lt, nI_toInt (by omega)]
      omega
    by_cases d : (rI D 74 k).toInt ≤ (h : Int)
    · have d2 : ¬ nI h < rI D 74 k := fun e => hlt.mp e d
      refine ⟨1, ?_, ?_, Or.inl ⟨rfl, c2, d⟩⟩
      · simp [fX1_isReady, fX1_isThere, u2, e0, e6, b6, b7, c3, e7, d2]
      · simp [fX12_isReady, tg_51 hZ, fr_51_29 hFD, if_pos a74, hix, c2, hh2, d2]
    · have d2 := hlt.mpr d
      refine ⟨0, ?_, ?_, Or.inr ⟨rfl, fun e => d e.2⟩⟩
      · simp [fX1_isReady, fX1_isThere, u2, e0, e6, b6, b7, c3, e7, d2]
      · simp [fX12_isReady, tg_51 hZ, fr_51_29 hFD, if_pos a74, hix, c2, hh2, d2]
/-- boat k is ready at lock i -/
def wts (D : Mem) (h k i : Nat) : Prop := rdy D h k ∧ ∃ q g, rI D 73 k = nI q ∧ rI D 68 k = nI g ∧ q ≤ 7 ∧ g ≤ 7 ∧ ((q = i ∧ i < g) ∨ (q = i + 1 ∧ g ≤ i))
theorem waits_sim {Z : Shp} {C D : Mem} (hZ : OKZ Z) (hFD : Fix D) {h k i : Nat} (hk : k < 12) (hh : h ≤ 600) (hi : i < 7) (hB : b2 Z C D k) (hh2 : rI D 51 11 = nI h) : ∃ v w : Int32, fX12_waitsAt Z D 51 (nI k) (nI i) = some v ∧ fX1_isReady Z C (rR C 8 k) (nI h) = some w ∧ ((v = 1 ∧ wts D h k i ∧ ¬ w = 0 ∧ fX1_nextLock Z C (rR C 8 k) = some (nI i)) ∨ (v = 0 ∧ ¬ wts D h k i ∧ (w = 0 ∨ ∃ y, fX1_nextLock Z C (rR C 8 k) = some y ∧ ¬ y = nI i))) := by
  obtain ⟨w, r1, r2, r3⟩ := ready_sim hZ hFD hk hh hB hh2
  obtain ⟨⟨u1, u2⟩, e0, e1, e2, e3, e4, e5, e6, e7, e8, e9, ⟨f, g, q, b1, b2', b3, b4, b5, b6, b7, b8⟩, -⟩ := hB
  have hix : ix (nI k) = k := ix_nI (by omega)
  have a73 : aok Z 73 100 (nI k) := aok_nI (tg_73 hZ) (by omega) (by decide)
  have a68 : aok Z 68 100 (nI k) := aok_nI (tg_68 hZ) (by omega) (by decide)
  have eqi : nI q = nI i ↔ q = i := nI_eq (by omega) (by omega)
  have eqi1 : nI q = nI i + 1 ↔ q = i + 1 := by
    rw [nI_1]
    exact nI_eq (by omega) (by omega)
  have ltig : nI i < nI g ↔ i < g := nI_ltI (by omega) (by omega)
  have legq : nI g ≤ nI q ↔ g ≤ q := nI_leI (by omega) (by omega)
  by_cases on : (q = i ∧ i < g) ∨ (q = i + 1 ∧ g ≤ i)
  · have hnl : fX1_nextLock Z C (rR C 8 k) = some (nI i) := by
      rcases on with ⟨o1, o2⟩ | ⟨o1, o2⟩
      · have := mt legq.mp (show ¬ g ≤ q by omega)
        simp [fX1_nextLock, u2, e0, e6, b6, b7, this, o1]
        rw [← o1]
        intro h
        exact absurd h this
      · have := legq.mpr (by omega)
        have hp : nI (i + 1) - 1 = nI i := nI_pred i
        rw [o1] at this
        simp only [fX1_nextLock, if_pos u2, e0, e6, b6, b7, o1, if_pos this, hp]
    have hwm : ∀ v, fX12_isReady Z D 51 (nI k) = some v → fX12_waitsAt Z D 51 (nI k) (nI i) = (if v = 0 then some 0 else some 1) := by
      intro v hv
      rcases on with ⟨o1, o2⟩ | ⟨o1, o2⟩
      · have l1 := ltig.mpr o2
        simp [fX12_waitsAt, tg_51 hZ, fr_51_28 hFD, fr_51_23 hFD, if_pos a73, if_pos a68, hix, b7, b6, eqi.mpr o1, l1, js, hv]
      · have l1 := mt ltig.mp (show ¬ i < g by omega)
        have l2 : ¬ nI q = nI i := fun e => by
          have := eqi.mp e
          omega
        simp [fX12_waitsAt, tg_51 hZ, fr_51_28 hFD, fr_51_23 hFD, if_pos a73, if_pos a68, hix, b7, b6, l2, eqi1.mpr o1, l1, js, hv]
    rcases r3 with ⟨rfl, r4⟩ | ⟨rfl, r4⟩
    · exact ⟨1, 1, by rw [hwm 1 r2]; rfl, r1, Or.inl ⟨rfl, ⟨r4, q, g, b7, b6, b3, b2', on⟩, by decide, hnl⟩⟩
    · exact ⟨0, 0, by rw [hwm 0 r2]; rfl, r1, Or.inr ⟨rfl, fun h => r4 h.1, Or.inl rfl⟩⟩
  · have hnw : ¬ wts D h k i := by
      rintro ⟨-, q', g', x1, x2, x3, x4, x5⟩
      have y1 : q' = q := (nI_eq (by omega) (by omega)).mp (x1.symm.trans b7)
      have y2 : g' = g := (nI_eq (by omega) (by omega)).mp (x2.symm.trans b6)
      subst y1 y2
      exact on x5
    have hwm : fX12_waitsAt Z D 51 (nI k) (nI i) = some 0 := by
      by_cases o1 : q = i
      · have l1 := mt ltig.mp (show ¬ i < g by omega)
        have l3 : ¬ nI q = nI i + 1 := fun e => by
          have := eqi1.mp e
          omega
        have l4 : ¬ nI i = nI i + 1 := by
          rw [o1] at l3
          exact l3
        simp [fX12_waitsAt, tg_51 hZ, fr_51_28 hFD, fr_51_23 hFD, if_pos a73, if_pos a68, hix, b7, b6, eqi.mpr o1, l1, js, l4]
      · have l2 := mt eqi.mp o1
        by_cases o2 : q = i + 1
        · have l1 := ltig.mpr (show i < g by omega)
          simp only [fX12_waitsAt, if_pos (tg_51 hZ), fr_51_28 hFD, fr_51_23 hFD, if_pos a73, if_pos a68, hix, b7, b6, if_neg l2, if_pos (eqi1.mpr o2), if_pos l1, js, Option.bind_some, if_true]
        · have l3 := mt eqi1.mp o2
          simp [fX12_waitsAt, tg_51 hZ, fr_51_28 hFD, if_pos a73, hix, b7, l2, l3, js]
    refine ⟨0, w, hwm, r1, Or.inr ⟨rfl, hnw, ?_⟩⟩
    rcases r3 with ⟨rfl, r4⟩ | ⟨rfl, r4⟩
    · right
      have hqg : q ≠ g := fun e => r4.1 (b8.mp e)
      by_cases o3 : g ≤ q
      · refine ⟨nI q - 1, by simp [fX1_nextLock, u2, e0, e6, b6, b7, legq.mpr o3], fun e => ?_⟩
        rw [nI_prd (by omega)] at e
        have := (nI_eq (a := q - 1) (b := i) (by omega) (by omega)).mp e
        omega
      · refine ⟨nI q, by simp [fX1_nextLock, u2, e0, e6, b6, b7, mt legq.mp o3], fun e => ?_⟩
        have := eqi.mp e
        omega
    · exact Or.inl rfl
/-- the upper pound of lock i -/
def upp (s i : Nat) : Nat := if s ≤ i then i else i + 1
theorem upper_m {Z : Shp} {D : Mem} (hZ : OKZ Z) {s i : Nat} (hs : s ≤ 6) (hi : i < 7) (h3 : rI D 51 3 = nI s) : fX12_upper Z D 51 (nI i) = some (nI (upp s i)) := by
  unfold fX12_upper upp
  rw [if_pos (tg_51 hZ), h3]
  by_cases c : s ≤ i
  · rw [if_pos (nI_le c (by omega)), if_pos c]
  · rw [if_neg (nI_ge (by omega) (by omega)), if_neg c, nI_1]
theorem up_sim {Z : Shp} {C D : Mem} (hZ : OKZ Z) (hFD : Fix D) {h k i s : Nat} (hk : k < 12) (hi : i < 7) (hs : s ≤ 6) (hB : b2 Z C D k) (h3 : rI D 51 3 = nI s) (hw : wts D h k i) : ∃ u : Int32, fX1_climbs Z C (rR C 8 k) (nI s) = some u ∧ fX12_goesUp Z D 51 (nI k) (nI i) = some u ∧ ((u = 0 ∧ rI D 73 k = nI (upp s i)) ∨ (u = 1 ∧ ¬ rI D 73 k = nI (upp s i))) := by
  obtain ⟨⟨u1, u2⟩, e0, e1, e2, e3, e4, e5, e6, -⟩ := hB
  obtain ⟨-, q, g, x1, x2, x3, x4, x5⟩ := hw
  have hix : ix (nI k) = k := ix_nI (by omega)
  have a73 : aok Z 73 100 (nI k) := aok_nI (tg_73 hZ) (by omega) (by decide)
  have hup := upper_m hZ hs hi h3
  have hU : upp s i ≤ 7 := by
    unfold upp
    split <;> omega
  have equ : nI q = nI (upp s i) ↔ q = upp s i := nI_eq (by omega) (by omega)
  have legq : nI g ≤ nI q ↔ g ≤ q := nI_leI (by omega) (by omega)
  have leqs : nI q ≤ nI s ↔ q ≤ s := nI_leI (by omega) (by omega)
  have lesq : nI s ≤ nI q ↔ s ≤ q := nI_leI (by omega) (by omega)
  have hm : fX12_goesUp Z D 51 (nI k) (nI i) = some (if nI q = nI (upp s i) then 0 else 1) := by
    by_cases c : nI q = nI (upp s i)
    · simp only [fX12_goesUp, if_pos (tg_51 hZ), fr_51_28 hFD, if_pos a73, hix, hup, Option.bind_some, x1, if_pos c]
    · simp only [fX12_goesUp, if_pos (tg_51 hZ), fr_51_28 hFD, if_pos a73, hix, hup, Option.bind_some, x1, if_neg c]
  have hc : fX1_climbs Z C (rR C 8 k) (nI s) = some (if nI q = nI (upp s i) then 0 else 1) := by
    rcases x5 with ⟨o1, o2⟩ | ⟨o1, o2⟩
    · have l1 := mt legq.mp (show ¬ g ≤ q by omega)
      by_cases c : s ≤ q
      · have c2 : nI q = nI (upp s i) := equ.mpr (by unfold upp; rw [if_pos (by omega)]; exact o1)
        simp only [fX1_climbs, if_pos u2, e0, e6, x1, x2, if_neg l1, if_pos (lesq.mpr c), if_pos c2]
      · have c2 : ¬ nI q = nI (upp s i) := fun e => by
          have := equ.mp e
          unfold upp at this
          rw [if_neg (by omega)] at this
          omega
        simp only [fX1_climbs, if_pos u2, e0, e6, x1, x2, if_neg l1, if_neg (mt lesq.mp c), if_neg c2]
    · have l1 := legq.mpr (show g ≤ q by omega)
      by_cases c : q ≤ s
      · have c2 : nI q = nI (upp s i) := equ.mpr (by unfold upp; rw [if_neg (by omega)]; exact o1)
        simp only [fX1_climbs, if_pos u2, e0, e6, x1, x2, if_pos l1, if_pos (leqs.mpr c), if_pos c2]
      · have c2 : ¬ nI q = nI (upp s i) := fun e => by
          have := equ.mp e
          unfold upp at this
          rw [if_pos (by omega)] at this
          omega
        simp only [fX1_climbs, if_pos u2, e0, e6, x1, x2, if_pos l1, if_neg (mt leqs.mp c), if_neg c2]
  refine ⟨_, hc, hm, ?_⟩
  rw [x1]
  by_cases c : nI q = nI (upp s i)
  · rw [if_pos c]; exact Or.inl ⟨rfl, c⟩
  · rw [if_neg c]; exact Or.inr ⟨rfl, c⟩
def R2 (C D : Mem) : Prop := ∀ l, l < 7 → rI C (17 + l) 0 = rI D 55 l ∧ rI C (17 + l) 1 = rI D 56 l ∧ rI C (17 + l) 2 = rI D 57 l ∧ rI C (17 + l) 3 = rI D 58 l ∧ rI C (17 + l) 4 = rI D 59 l ∧ rI C (17 + l) 6 = rI D 61 l ∧ (10 ≤ (rI D 55 l).toInt ∧ (rI D 55 l).toInt ≤ 200) ∧ (rI D 56 l = 0 ∨ rI D 56 l = 1) ∧ (0 ≤ (rI D 57 l).toInt ∧ (rI D 57 l).toInt ≤ 2) ∧ (rI D 58 l = 0 ∨ rI D 58 l = 1) ∧ (0 ≤ (rI D 59 l).toInt ∧ 2 * (rI D 59 l).toInt ≤ (rI D 55 l).toInt) ∧ (rI D 56 l = 0 → rI D 59 l = 0)
theorem chosen_sim {Z : Shp} {C D : Mem} (hZ : OKZ Z) (hFC : Fix C) (hFD : Fix D) {n h i s : Nat} (hn : n ≤ 12) (hh : h ≤ 600) (hi : i < 7) (hs : s ≤ 6) (hL : R2 C D) (h5 : R5 Z n C D) (hh1 : rI C 3 8 = nI h) (hh2 : rI D 51 11 = nI h) (hs1 : rI C 3 7 = nI s) (hs2 : rI D 51 3 = nI s) : (fX3_firstAt Z C 3 (nI i) = some 0 ∧ fX12_chosenAt Z D 51 (nI i) = some (-1)) ∨ ∃ k, k < n ∧ fX3_firstAt Z C 3 (nI i) = some (rR C 8 k) ∧ fX12_chosenAt Z D 51 (nI i) = some (nI k) ∧ wts D h k i := by
  obtain ⟨n1, n2, n3, n4⟩ := h5
  obtain ⟨l0, l1, l2, l3, l4, l6, -, -, -, lb, -⟩ := hL i hi
  have hixi : ix (nI i) = i := ix_nI (by omega)
  have a5 : aok Z 5 111 (nI i) := aok_nI (tg_5 hZ) (by omega) (by decide)
  have a57 : aok Z 57 100 (nI i) := aok_nI (tg_57 hZ) (by omega) (by decide)
  have a58 : aok Z 58 101 (nI i) := aok_nI (tg_58 hZ) (by omega) (by decide)
  obtain ⟨r, r', q1, q2, q3⟩ : ∃ r r', fX3_firstAt Z C 3 (nI i) = some r ∧ fX12_chosenAt Z D 51 (nI i) = some r' ∧ ((r = 0 ∧ r' = -1) ∨ ∃ k, k < n ∧ r = rR C 8 k ∧ r' = nI k ∧ wts D h k i) := by
    unfold fX3_firstAt fX12_chosenAt
    refine loop_sim (fun (s : Nat × Int32) (t : Int32 × Int32) => ∃ j, j ≤ n ∧ s.2 = nI j ∧ t.2 = nI j ∧ ((s.1 = 0 ∧ t.1 = -1) ∨ ∃ k, k < j ∧ s.1 = rR C 8 k ∧ t.1 = nI k ∧ wts D h k i)) (fun r r' => (r = 0 ∧ r' = -1) ∨ ∃ k, k < n ∧ r = rR C 8 k ∧ r' = nI k ∧ wts D h k i) (fun s => n - ix s.2) ?_ _ _ ⟨0, by omega, rfl, rfl, Or.inl ⟨rfl, rfl⟩⟩
    rintro ⟨a, t⟩ ⟨b, t'⟩ ⟨j, hj, e1, e2, hc⟩
    dsimp only at e1 e2 hc
    subst e1 e2
    by_cases hjn : j = n
    · subst hjn
      exact Or.inr ⟨a, b, by simp [tg_3 hZ, n1], by simp [tg_51 hZ, n2], hc⟩
    have hj : j < n := by omega
    have hle := nle hj (by omega)
    have hix : ix (nI j) = j := ix_nI (by omega)
    have a8 : aok Z 8 113 (nI j) := aok_nI (tg_8 hZ) (by omega) (by decide)
    have a69 : aok Z 69 100 (nI j) := aok_nI (tg_69 hZ) (by omega) (by decide)
    have hmu : n - ix (nI (j + 1)) < n - ix (nI j) := by
      rw [ix_nI (by omega), ix_nI (by omega)]
      omega
    have hB := n3 j hj
    have k1 : ¬ (1 : Int32) = 0 := by decide
    obtain ⟨v, w, w1, w2, w3⟩ := waits_sim hZ hFD (show j < 12 by omega) hh hi hB hh2
    left
    rcases w3 with ⟨rfl, w4, w5, w6⟩ | ⟨rfl, w4, w5⟩
    · rcases hc with ⟨rfl, rfl⟩ | ⟨k, hk, rfl, rfl, hwk⟩
      · refine ⟨(rR C 8 j, nI (j + 1)), (nI j, nI (j + 1)), ?_, ?_, ⟨j + 1, by omega, rfl, rfl, Or.inr ⟨j, by omega, rfl, rfl, w4⟩⟩, hmu⟩
        · simp [tg_3 hZ, n1, hle, fr_3_4 hFC, if_pos a8, hix, hB.1.2, hh1, w2, w5, w6, pu, nI_succ]
        · simp [tg_51 hZ, n2, hle, w1, nI_succ]
      · have hBk := n3 k (by omega)
        have hk0 : ¬ rR C 8 k = 0 := by
          have := hBk.1.1
          omega
        have hkm : ¬ nI k = -1 := nm1 (by omega)
        have hixk : ix (nI k) = k := ix_nI (by omega)
        have a69k : aok Z 69 100 (nI k) := aok_nI (tg_69 hZ) (by omega) (by decide)
        obtain ⟨uj, cj1, cj2, -⟩ := up_sim hZ hFD (show j < 12 by omega) hi hs hB hs2 w4
        obtain ⟨uk, ck1, ck2, -⟩ := up_sim hZ hFD (show k < 12 by omega) hi hs hBk hs2 hwk
        have ej := hB.2.2.1
        have ek := hBk.2.2.1
        obtain ⟨y, hy, hcy, hmy⟩ : ∃ y : Bool, True ∧ fX3_goesAhead Z C 3 (rR C 8 j) (rR C 8 k) (17 + i) = some (if y = true then 1 else 0) ∧ ∀ F : Int32 → Option ((Int32 × Int32) ⊕ Int32), (F = fun v16 => (if v16 = 0 then (if aok Z (rR D 51 6) 100 (nI i) then (if (rI D (rR D 51 6) (ix (nI i))) = (2 : Int32) then (Option.bind (fX12_goesUp Z D 51 (nI j) (nI i)) (fun v25 => (if aok Z (rR D 51 7) 101 (nI i) then (if v25 = (rI D (rR D 51 7) (ix (nI i))) then (if (0 : Int32) = 0 then some (Sum.inl (nI k, (nI j + (1 : Int32)))) else some (Sum.inl (nI j, (nI j + (1 : Int32))))) else (Option.bind (fX12_goesUp Z D 51 (nI k) (nI i)) (fun v30 => (if v30 = (rI D (rR D 51 7) (ix (nI i))) then (if (1 : Int32) = 0 then some (Sum.inl (nI k, (nI j + (1 : Int32)))) else some (Sum.inl (nI j, (nI j + (1 : Int32))))) else (if (0 : Int32) = 0 then some (Sum.inl (nI k, (nI j + (1 : Int32)))) else some (Sum.inl (nI j, (nI j + (1 : Int32))))))))) else none))) else (if v16 = 0 then some (Sum.inl (nI k, (nI j + (1 : Int32)))) else some (Sum.inl (nI j, (nI j + (1 : Int32)))))) else none) else (if v16 = 0 then some (Sum.inl (nI k, (nI j + (1 : Int32)))) else some (Sum.inl (nI j, (nI j + (1 : Int32))))))) → (Option.bind (if (0 : Int32) = 0 then (if aok Z (rR D 51 6) 100 (nI i) then (if (rI D (rR D 51 6) (ix (nI i))) = (1 : Int32) then (if aok Z (rR D 51 24) 100 (nI j) then (if aok Z (rR D 51 24) 100 (nI k) then (if (rI D (rR D 51 24) (ix (nI j))) ≤ (rI D (rR D 51 24) (ix (nI k))) then some (0 : Int32) else some (1 : Int32)) else none) else none) else some (0 : Int32)) else none) else some (0 : Int32)) F) = some (Sum.inl ((if y = true then nI j else nI k), nI j + 1)) := by
          by_cases c1 : rI D 57 i = 1
          · by_cases c2 : rI D 69 j ≤ rI D 69 k
            · refine ⟨false, trivial, ?_, fun F hFe => ?_⟩
              · simp [fX3_goesAhead, tg_l hZ hi, l2, c1, hB.1.2, hBk.1.2, ej, ek, c2]
              · subst hFe
                simp [fr_51_6 hFD, fr_51_24 hFD, if_pos a57, hixi, c1, if_pos a69, if_pos a69k, hix, hixk, c2]
            · refine ⟨true, trivial, ?_, fun F hFe => ?_⟩
              · simp [fX3_goesAhead, tg_l hZ hi, l2, c1, hB.1.2, hBk.1.2, ej, ek, c2]
              · subst hFe
                simp [fr_51_6 hFD, fr_51_24 hFD, if_pos a57, hixi, c1, if_pos a69, if_pos a69k, hix, hixk, c2]
          · by_cases c2 : rI D 57 i = 2
            · by_cases c3 : uj = rI D 58 i
              · have c4 : rI D 58 i = uj := c3.symm
                refine ⟨false, trivial, ?_, fun F hFe => ?_⟩
                · simp [fX3_goesAhead, tg_l hZ hi, l2, c2, l3, hs1, tg_3 hZ, hB.1.2, cj1, c4]
                · subst hFe
                  simp [fr_51_6 hFD, fr_51_7 hFD, if_pos a57, if_pos a58, hixi, c2, cj2, c3]
              · have c4 : ¬ rI D 58 i = uj := fun e => c3 e.symm
                by_cases c5 : uk = rI D 58 i
                · have c6 : rI D 58 i = uk := c5.symm
                  refine ⟨true, trivial, ?_, fun F hFe => ?_⟩
                  · simp only [fX3_goesAhead, if_pos (tg_l hZ hi), l2, c2, show ¬ (2 : Int32) = 1 by decide, if_false, if_true, if_pos (tg_3 hZ), if_pos hB.1.2, if_pos hBk.1.2, hs1, cj1, ck1, Option.bind_some, l3, if_neg c4, if_pos c6]
                  · subst hFe
                    simp only [fr_51_6 hFD, fr_51_7 hFD, if_pos a57, if_pos a58, hixi, c2, show ¬ (2 : Int32) = 1 by decide, if_false, if_true, Option.bind_some, cj2, ck2, if_neg c3, if_pos c5, if_neg k1]
                · have c6 : ¬ rI D 58 i = uk := fun e => c5 e.symm
                  refine ⟨false, trivial, ?_, fun F hFe => ?_⟩
                  · simp only [fX3_goesAhead, if_pos (tg_l hZ hi), l2, c2, show ¬ (2 : Int32) = 1 by decide, if_false, if_true, if_pos (tg_3 hZ), if_pos hB.1.2, if_pos hBk.1.2, hs1, cj1, ck1, Option.bind_some, l3, if_neg c4, if_neg c6]
                    rfl
                  · subst hFe
                    simp only [fr_51_6 hFD, fr_51_7 hFD, if_pos a57, if_pos a58, hixi, c2, show ¬ (2 : Int32) = 1 by decide, if_false, if_true, Option.bind_some, cj2, ck2, if_neg c3, if_neg c5]
                    rfl
            · refine ⟨false, trivial, ?_, fun F hFe => ?_⟩
              · simp [fX3_goesAhead, tg_l hZ hi, l2, c1, c2]
              · subst hFe
                simp [fr_51_6 hFD, if_pos a57, hixi, c1, c2]
        have hcls : fX3_goesAhead Z C 3 (rR C 8 j) (rR C 8 k) (17 + i) = some (if y = true then 1 else 0) := hcy
        refine ⟨(if y = true then rR C 8 j else rR C 8 k, nI (j + 1)), (if y = true then nI j else nI k, nI (j + 1)), ?_, ?_, ⟨j + 1, by omega, rfl, rfl, Or.inr ?_⟩, hmu⟩
        · dsimp only
          rw [if_pos (tg_3 hZ), n1, if_neg hle, fr_3_4 hFC, if_pos a8, hix]
          simp only [pu]
          rw [if_pos hB.1.2, hh1, w2, Option.bind_some, if_neg w5, w6, Option.bind_some, if_pos rfl, if_neg hk0, fr_3_1 hFC, if_pos a5, hixi, fr_l hFC hi, hcls, Option.bind_some, ← nI_1]
          cases y <;> simp
        · dsimp only
          rw [if_pos (tg_51 hZ), n2, if_neg hle, w1, Option.bind_some, if_neg k1, if_neg hkm, Option.bind_some]
          rw [nI_succ j]
          exact hmy _ rfl
        · cases y
          · exact ⟨k, by omega, rfl, rfl, hwk⟩
          · exact ⟨j, by omega, rfl, rfl, w4⟩
    · refine ⟨(a, nI (j + 1)), (b, nI (j + 1)), ?_, ?_, ⟨j + 1, by omega, rfl, rfl, ?_⟩, hmu⟩
      · rcases w5 with w5 | ⟨y, w5, w6⟩
        · simp [tg_3 hZ, n1, hle, fr_3_4 hFC, if_pos a8, hix, hB.1.2, hh1, w2, w5, pu, nI_succ]
        · by_cases w0 : w = 0
          · simp [tg_3 hZ, n1, hle, fr_3_4 hFC, if_pos a8, hix, hB.1.2, hh1, w2, w0, pu, nI_succ]
          · simp [tg_3 hZ, n1, hle, fr_3_4 hFC, if_pos a8, hix, hB.1.2, hh1, w2, w0, w5, w6, pu, nI_succ]
      · simp [tg_51 hZ, n2, hle, w1, nI_succ]
      · rcases hc with hc | ⟨k, hk, x1, x2, x3⟩
        · exact Or.inl hc
        · exact Or.inr ⟨k, by omega, x1, x2, x3⟩
  rcases q3 with ⟨rfl, rfl⟩ | ⟨k, hk, rfl, rfl, hw⟩
  · exact Or.inl ⟨q1, q2⟩
  · exact Or.inr ⟨k, hk, q1, q2, hw⟩
