/-! an hour: all takers -/
theorem inj_surj : ∀ n (f : Nat → Nat), (∀ i, i < n → f i < n) → (∀ i j, i < n → j < n → f i = f j → i = j) → ∀ v, v < n → ∃ i, i < n ∧ f i = v := by
  intro n
  induction n with
  | zero => exact fun f _ _ v h => absurd h (by omega)
  | succ n ih =>
    intro f h1 h2 v hv
    refine Classical.byContradiction fun hno => ?_
    have hne : ∀ i, i < n + 1 → f i ≠ v := fun i hi h => hno ⟨i, hi, h⟩
    have g1 : ∀ i, i < n + 1 → (if v < f i then f i - 1 else f i) < n := by
      intro i hi
      have a := h1 i hi
      have b := hne i hi
      split <;> omega
    have g2 : ∀ i j, i < n + 1 → j < n + 1 → (if v < f i then f i - 1 else f i) = (if v < f j then f j - 1 else f j) → i = j := by
      intro i j hi hj e
      have a := hne i hi
      have b := hne j hj
      refine h2 i j hi hj ?_
      split at e <;> split at e <;> omega
    obtain ⟨i, hi, e⟩ := ih (fun i => if v < f i then f i - 1 else f i) (fun i hi => g1 i (by omega)) (fun i j hi hj e => g2 i j (by omega) (by omega) e) (if v < f n then f n - 1 else f n) (g1 n (by omega))
    have := g2 i n (by omega) (by omega) e
    omega
noncomputable def csv (Z : Shp) (C : Mem) : Nat → Option Mem
  | 0 => some C
  | j + 1 => (csv Z C j).bind (fun C1 => fX3_serve Z C1 3 (rR C1 7 j))
theorem sJ_upd {f g : Nat → Int32} {k : Nat} {z : Int64} (h : ∀ j, j ≠ k → g j = f j) (hk : (g k).toInt64 = (f k).toInt64 + z) : ∀ n, sJ g n = sJ f n + if k < n then z else 0 := by
  intro n
  induction n with
  | zero => simp [sJ]
  | succ n ih =>
    rw [sJ, sJ, ih]
    by_cases c : n = k
    · subst c
      rw [if_neg (by omega), if_pos (by omega), hk]
      simp [Int64.add_assoc]
    · rw [h n c]
      by_cases d : k < n
      · rw [if_pos d, if_pos (by omega), Int64.add_assoc, Int64.add_assoc, Int64.add_comm z]
      · rw [if_neg d, if_neg (by omega)]
        simp
def TB (D : Mem) (h : Nat) (r t : Nat) : Prop := ∀ k, k < 12 → (-400 * ((h : Int) + 1) ≤ (rI D 66 k).toInt ∧ (rI D 66 k).toInt ≤ 400 * ((h : Int) + 1)) ∧ (((r : Int) < (rI D 65 k).toInt ∨ ((rI D 65 k).toInt = r ∧ t ≤ k)) → -400 * (h : Int) ≤ (rI D 66 k).toInt ∧ (rI D 66 k).toInt ≤ 400 * (h : Int))
/-- so far served in the model: rank r, number t -/
def JT (Z : Shp) (C D : Mem) (n h : Nat) (π : Nat → Nat) (r t : Nat) (D1 : Mem) : Prop := ∃ j C1, j ≤ n ∧ csv Z C j = some C1 ∧ R1 C1 D1 ∧ R0 C1 D1 ∧ R4 Z n C1 D1 ∧ (∀ i, i ≤ j → ∃ Ci, csv Z C i = some Ci ∧ Wr Z FcT [8] [] C Ci) ∧ Wr Z FmT [] [] D D1 ∧ (∀ i, i < n → (i < j ↔ ((rI D 65 (π i)).toInt < (r : Int) ∨ ((rI D 65 (π i)).toInt = (r : Int) ∧ π i < t)))) ∧ rJ D1 51 13 = sJ (fun k => rI D1 66 k) 12 ∧ TB D1 h r t ∧ ∀ k, n ≤ k → rI D1 66 k = 0
theorem takeAll_sim {Z : Shp} {C D : Mem} (hZ : OKZ Z) (hFC : Fix C) (hFD : Fix D) {n h : Nat} (hn : n ≤ 12) (hh : h ≤ 600) (h1 : R1 C D) (h0 : R0 C D) (h4 : R4 Z n C D) (hy1 : rI C 3 8 = nI h) (hy2 : rI D 51 11 = nI h) {π : Nat → Nat} (hπ : ∀ i, i < n → π i < n ∧ rR C 7 i = rR C 6 (π i)) (hk : ∀ i j, i < j → j < n → rkLt D (π i) (π j)) (hs : rJ D 51 13 = sJ (fun k => rI D 66 k) 12) (hb : ∀ k, k < 12 → -400 * (h : Int) ≤ (rI D 66 k).toInt ∧ (rI D 66 k).toInt ≤ 400 * (h : Int)) (hz : ∀ k, n ≤ k → rI D 66 k = 0) : ∃ C1 D1, loop (fun s7 : Int32 × Mem => (if (rI s7.2 3 5) ≤ s7.1 then some (Sum.inr s7.2) else (if aok Z (rR s7.2 3 3) 112 s7.1 then (Option.bind (fX3_serve Z s7.2 3 (rR s7.2 (rR s7.2 3 3) (ix s7.1))) (fun v12 => some (Sum.inl ((s7.1 + (1 : Int32)), v12)))) else none))) ((0 : Int32), C) = some C1 ∧ fX12_takeAll Z D 51 = some D1 ∧ R1 C1 D1 ∧ R0 C1 D1 ∧ R4 Z n C1 D1 ∧ Wr Z FcT [8] [] C C1 ∧ Wr Z FmT [] [] D D1 ∧ rJ D1 51 13 = sJ (fun k => rI D1 66 k) 12 ∧ (∀ k, k < 12 → -400 * ((h : Int) + 1) ≤ (rI D1 66 k).toInt ∧ (rI D1 66 k).toInt ≤ 400 * ((h : Int) + 1)) ∧ ∀ k, n ≤ k → rI D1 66 k = 0 := by
  have hdD : dis FmT [(51, some 11), (51, some 15), (65, none)] = true := by decide
  have hdC : dis FcT [(3, some 5), (3, some 8)] = true := by decide
  have hinj : ∀ i j, i < n → j < n → π i = π j → i = j := by
    intro i j hi hj e
    rcases Nat.lt_or_ge i j with c | c
    · have := hk i j c hj
      rw [rkLt, e] at this
      omega
    · by_cases d : i = j
      · exact d
      · have := hk j i (by omega) hi
        rw [rkLt, e] at this
        omega
  have hsur := inj_surj n π (fun i hi => (hπ i hi).1) hinj
  have hstart : JT Z C D n h π 0 0 D := by
    refine ⟨0, C, by omega, rfl, h1, h0, h4, fun i hi => ⟨C, by rw [show i = 0 by omega]; rfl, Wr.rf⟩, Wr.rf, fun i hi => ?_, hs, fun k hk => ⟨?_, fun _ => hb k hk⟩, hz⟩
    · have := (h4.2.2.1 (π i) (hπ i hi).1).2.2.2.2.2.2.2.2.2.1
      constructor
      · intro h; omega
      · rintro (h | ⟨-, h⟩)
        · omega
        · omega
    · have := hb k hk
      omega
  obtain ⟨D1, m1, m2⟩ : ∃ D1, fX12_takeAll Z D 51 = some D1 ∧ JT Z C D n h π 10 0 D1 := by
    unfold fX12_takeAll
    refine loop_inv (fun s : Int32 × Mem => ∃ r, r ≤ 10 ∧ s.1 = nI r ∧ JT Z C D n h π r 0 s.2) (fun D1 => JT Z C D n h π 10 0 D1) (fun s => 10 - ix s.1) ?_ _ ⟨0, by omega, rfl, hstart⟩
    rintro ⟨s, D3⟩ ⟨r, hr, e, hJ⟩
    dsimp only at e hJ
    subst e
    by_cases h10 : r = 10
    · subst h10
      exact Or.inr ⟨D3, by simp [show (10 : Int32) ≤ nI 10 by decide], hJ⟩
    have hr10 : r < 10 := by omega
    have hle : ¬ (10 : Int32) ≤ nI r := nlit hr10 rfl (by decide)
    left
    dsimp only
    rw [if_neg hle]
    obtain ⟨o, o1, D4, o2, o3⟩ : ∃ o, loop _ ((0 : Int32), D3) = some o ∧ ∃ D4, o = Sum.inl (nI (r + 1), D4) ∧ JT Z C D n h π (r + 1) 0 D4 := by
      refine loop_inv (f := fun s5 : Int32 × Mem => (if tg Z 51 = (13, 86) then (if (rI s5.2 51 15) ≤ s5.1 then some (Sum.inr (Sum.inl ((nI r + (1 : Int32)), s5.2))) else (if aok Z (rR s5.2 51 19) 100 s5.1 then (if (rI s5.2 (rR s5.2 51 19) (ix s5.1)) = nI r then (Option.bind (fX12_takes Z s5.2 51 s5.1 (rI s5.2 51 11)) (fun v12 => (if aok Z (rR s5.2 51 17) 100 s5.1 then (if aok Z (rR s5.2 51 0) 100 (rI s5.2 (rR s5.2 51 17) (ix s5.1)) then (pu ((fX12_least v12 (rI s5.2 (rR s5.2 51 0) (ix (rI s5.2 (rR s5.2 51 17) (ix s5.1)))))) (fun z16 => (pu (wJ s5.2 51 13 ((rJ s5.2 51 13) + (z16.toInt64))) (fun M17 => (if aok Z (rR M17 51 20) 100 s5.1 then (pu (wI M17 (rR M17 51 20) (ix s5.1) ((rI M17 (rR M17 51 20) (ix s5.1)) + z16)) (fun M19 => (if aok Z (rR M19 51 17) 100 s5.1 then (Option.bind (fX12_pour Z M19 51 (rI M19 (rR M19 51 17) (ix s5.1)) (-z16)) (fun v21 => some (Sum.inl ((s5.1 + (1 : Int32)), v21)))) else none))) else none))))) else none) else none))) else some (Sum.inl ((s5.1 + (1 : Int32)), s5.2))) else none)) else none))
        (fun s : Int32 × Mem => ∃ t, t ≤ n ∧ s.1 = nI t ∧ JT Z C D n h π r t s.2) (fun o : (Int32 × Mem) ⊕ Mem => ∃ D4, o = Sum.inl (nI (r + 1), D4) ∧ JT Z C D n h π (r + 1) 0 D4) (fun s => n - ix s.1) ?_ _ ⟨0, by omega, rfl, hJ⟩
      rintro ⟨s, D5⟩ ⟨t, ht, e, hJ⟩
      dsimp only at e hJ
      subst e
      obtain ⟨j, C1, j1, j2, j3, j4, j5, j6, j7, j8, j9, j10, j11⟩ := id hJ
      have hFD5 : Fix D5 := j7.fix hFD (by decide)
      have q15 : rI D5 51 15 = nI n := j5.2.1
      by_cases htn : t = n
      · subst htn
        refine Or.inr ⟨_, by simp [tg_51 hZ, q15]; rfl, D5, by rw [nI_1], j, C1, j1, j2, j3, j4, j5, j6, j7, fun i hi => ?_, j9, fun k hk => ⟨(j10 k hk).1, fun c => (j10 k hk).2 ?_⟩, j11⟩
        · rw [j8 i hi]
          have := (hπ i hi).1
          constructor
          · rintro (c | ⟨c, -⟩)
            · left; omega
            · left; omega
          · rintro (c | ⟨-, c⟩)
            · by_cases d : (rI D 65 (π i)).toInt < (r : Int)
              · exact Or.inl d
              · exact Or.inr ⟨by omega, this⟩
            · omega
        · left
          rcases c with c | c
          · omega
          · omega
      have htn : t < n := by omega
      have hle := nle htn (by omega)
      have hix : ix (nI t) = t := ix_nI (by omega)
      have a65 : aok Z 65 100 (nI t) := aok_nI (tg_65 hZ) (by omega) (by decide)
      have hmu : n - ix (nI (t + 1)) < n - ix (nI t) := by
        rw [ix_nI (by omega), ix_nI (by omega)]
        omega
      have e65 := j7.row hdD (a := 65) (by simp) (by omega)
      have hrk : rI D5 65 t = nI r ↔ (rI D 65 t).toInt = (r : Int) := by
        rw [e65, i32_eq, nI_toInt (by omega)]
      left
      by_cases c : (rI D 65 t).toInt = (r : Int)
      · have c2 := hrk.mpr c
        have hFC1 : Fix C1 := by
          obtain ⟨Ci, k1, k2⟩ := j6 j (Nat.le_refl j)
          rw [j2] at k1
          cases k1
          exact k2.fix hFC (by decide)
        have hwC : Wr Z FcT [8] [] C C1 := by
          obtain ⟨Ci, k1, k2⟩ := j6 j (Nat.le_refl j)
          rw [j2] at k1
          cases k1
          exact k2
        obtain ⟨z, C2, D2, g1, g2, g3, g4, g5, g6, g7, g8, g9, g10⟩ := serve_sim (y := nI h) hZ hFC1 hFD5 hn htn j3 j4 j5 (by rw [hwC.at hdC (a := 3) (k := 8) (by simp) (by omega), hy1]) (by rw [j7.at hdD (a := 51) (k := 11) (by simp) (by omega), hy2])
        obtain ⟨i, hi, ei⟩ := hsur t htn
        have hij : i = j := by
          have a1 : ¬ i < j := by
            rw [j8 i hi, ei]
            omega
          refine Classical.byContradiction fun hne => ?_
          have hjn : j < n := by omega
          have a2 := (j8 j hjn)
          have a3 := hk j i (by omega) hi
          rw [rkLt, ei, c] at a3
          have a4 : j < j := by
            rw [a2]
            omega
          omega
        subst hij
        have hcs : csv Z C (i + 1) = some C2 := by
          have r7 : rR C1 7 i = rR C1 6 t := by
            rw [hwC.rowR (a := 7) (by omega) (by decide), hwC.rowR (a := 6) (by omega) (by decide), (hπ i hi).2, ei]
          rw [csv, j2, Option.bind_some, r7, g1]
        refine ⟨(nI (t + 1), D2), ?_, ⟨t + 1, by omega, rfl, i + 1, C2, by omega, hcs, g3, g4, g5, fun i' hi' => ?_, j7.tr g7, fun i' hi' => ?_, ?_, ?_, ?_⟩, hmu⟩
        · dsimp only
          rw [if_pos (tg_51 hZ), q15, if_neg hle, fr_51_19 hFD5, if_pos a65, hix, if_pos c2]
          rw [hix] at g2
          exact g2
        · by_cases d : i' = i + 1
          · subst d
            exact ⟨C2, hcs, hwC.tr g6⟩
          · exact j6 i' (by omega)
        · have a1 := j8 i' hi'
          by_cases d : i' = i
          · subst d
            rw [ei, c]
            omega
          · have a2 : π i' ≠ t := fun q => d (hinj i' i hi' hi (q.trans ei.symm))
            constructor
            · intro q
              have := a1.mp (by omega)
              omega
            · intro q
              have := a1.mpr (by omega)
              omega
        · have hb1 := (j10 t (by omega)).2 (Or.inr ⟨by rw [e65]; exact c, Nat.le_refl t⟩)
          have hadd := addJI (a := rI D5 66 t) (b := z) (by omega) (by omega)
          have hu := sJ_upd (f := fun k => rI D5 66 k) (g := fun k => rI D2 66 k) (k := t) (z := z.toInt64) (fun j hj => by
            show rI D2 66 j = rI D5 66 j
            rw [g9, if_neg hj]) (by
            show (rI D2 66 t).toInt64 = (rI D5 66 t).toInt64 + z.toInt64
            rw [g9, if_pos rfl, hadd]) 12
          rw [if_pos (by omega)] at hu
          rw [g10, j9, hu]
        · intro k hk12
          have e65' : rI D2 65 k = rI D5 65 k := g7.row hdD (a := 65) (by simp) (by omega) k
          obtain ⟨b1, b2⟩ := j10 k hk12
          rw [g9, e65']
          by_cases d : k = t
          · subst d
            have b3 := b2 (Or.inr ⟨by rw [e65]; exact c, Nat.le_refl k⟩)
            rw [if_pos rfl, addI (by omega) (by omega)]
            refine ⟨by omega, fun q => ?_⟩
            rw [e65] at q
            omega
          · rw [if_neg d]
            exact ⟨b1, fun q => b2 (by omega)⟩
        · intro k hk'
          rw [g9, if_neg (by omega)]
          exact j11 k hk'
      · have c2 := mt hrk.mp c
        refine ⟨(nI (t + 1), D5), ?_, ⟨t + 1, by omega, rfl, j, C1, j1, j2, j3, j4, j5, j6, j7, fun i hi => ?_, j9, fun k hk => ⟨(j10 k hk).1, fun q => (j10 k hk).2 (q.imp id (fun q2 => ⟨q2.1, Nat.le_of_succ_le q2.2⟩))⟩, j11⟩, hmu⟩
        · simp [tg_51 hZ, q15, hle, fr_51_19 hFD5, if_pos a65, hix, c2, nI_succ]
        · rw [j8 i hi]
          have : (rI D 65 (π i)).toInt = (r : Int) → π i ≠ t := fun q1 q2 => c (by rw [← q2]; exact q1)
          omega
    refine ⟨(nI (r + 1), D4), ?_, ⟨r + 1, by omega, rfl, o3⟩, ?_⟩
    · rw [o2] at o1
      exact o1
    · dsimp only
      rw [ix_nI (by omega), ix_nI (by omega)]
      omega
  obtain ⟨j, C1, j1, j2, j3, j4, j5, j6, j7, j8, j9, j10, j11⟩ := m2
  have hjn : j = n := by
    refine Classical.byContradiction fun hne => ?_
    have hj : j < n := by omega
    have a1 := j8 j hj
    have a2 := (h4.2.2.1 (π j) (hπ j hj).1).2.2.2.2.2.2.2.2.2.2
    have : j < j := a1.mpr (Or.inl (by omega))
    omega
  subst hjn
  refine ⟨C1, D1, ?_, m1, j3, j4, j5, ?_, j7, j9, fun k hk => (j10 k hk).1, j11⟩
  · have hall : ∀ i, i ≤ j → csv Z C i = some ((csv Z C i).getD C) ∧ Wr Z FcT [8] [] C ((csv Z C i).getD C) := by
      intro i hi
      obtain ⟨Ci, k1, k2⟩ := j6 i hi
      rw [k1]
      exact ⟨rfl, k2⟩
    refine loop_for (fun i => (nI i, (csv Z C i).getD C)) j rfl (fun i hi => ?_) ?_
    · obtain ⟨k1, k2⟩ := hall i (by omega)
      obtain ⟨k3, -⟩ := hall (i + 1) (by omega)
      have r5 : rI ((csv Z C i).getD C) 3 5 = nI j := by rw [k2.at hdC (a := 3) (k := 5) (by simp) (by omega), h4.1]
      have hF1 : Fix ((csv Z C i).getD C) := k2.fix hFC (by decide)
      have hle := nle hi (by omega)
      have hix : ix (nI i) = i := ix_nI (by omega)
      have a7 : aok Z 7 112 (nI i) := aok_nI (tg_7 hZ) (by omega) (by decide)
      have hse : fX3_serve Z ((csv Z C i).getD C) 3 (rR ((csv Z C i).getD C) 7 i) = some ((csv Z C (i + 1)).getD C) := by
        rw [csv, k1, Option.bind_some] at k3
        rw [k3]
        congr 1
        rw [csv, k1, Option.bind_some, Option.getD_some]
      dsimp only
      rw [r5, if_neg hle, fr_3_3 hF1, if_pos a7, hix, hse, Option.bind_some, nI_1]
    · obtain ⟨k1, k2⟩ := hall j (Nat.le_refl j)
      have r5 : rI ((csv Z C j).getD C) 3 5 = nI j := by rw [k2.at hdC (a := 3) (k := 5) (by simp) (by omega), h4.1]
      dsimp only
      rw [r5, if_pos (by rw [i32_le]; omega), j2]
      rfl
  · obtain ⟨Ci, k1, k2⟩ := j6 j (Nat.le_refl j)
    rw [j2] at k1
    cases k1
    exact k2
