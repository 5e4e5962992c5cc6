/-! fault -/
noncomputable def crs (g : Nat → Int32) : Nat → Option Int32
  | 0 => some 0
  | i + 1 => (crs g i).bind (fun s => (fX2_step s (g i)).bind (fun t => if t = -1 then none else some t))
noncomputable def sd (g : Nat → Int32) (i : Nat) : Int32 := (crs g i).getD 0
theorem crs_sd {g : Nat → Int32} : ∀ k i x, crs g k = some x → i ≤ k → crs g i = some (sd g i) := by
  intro k
  induction k with
  | zero =>
    intro i x h hi
    rw [show i = 0 by omega]
    rfl
  | succ k ih =>
    intro i x h hi
    by_cases e : i = k + 1
    · subst e
      rw [sd, h]
      rfl
    · rw [crs] at h
      cases hk : crs g k with
      | none => rw [hk] at h; cases h
      | some y => exact ih i y hk (by omega)
theorem crs_step {g : Nat → Int32} {i : Nat} {x : Int32} (h : crs g (i + 1) = some x) : fX2_step (sd g i) (g i) = some (sd g (i + 1)) ∧ ¬ sd g (i + 1) = -1 := by
  have h1 := crs_sd (i + 1) i x h (by omega)
  have h2 := crs_sd (i + 1) (i + 1) x h (by omega)
  have h3 := h2
  rw [crs, h1, Option.bind_some] at h3
  cases hs : fX2_step (sd g i) (g i) with
  | none => rw [hs] at h3; cases h3
  | some t =>
    rw [hs, Option.bind_some] at h3
    by_cases c : t = -1
    · rw [if_pos c] at h3; cases h3
    · rw [if_neg c] at h3
      cases h3
      exact ⟨rfl, c⟩
theorem crs_none {g : Nat → Int32} {i : Nat} (h : crs g i = none) : ∀ d, crs g (i + d) = none := by
  intro d
  induction d with
  | zero => exact h
  | succ d ih => rw [← Nat.add_assoc, crs, ih]; rfl
theorem faultOf_m {Z : Shp} {M : Mem} (hZ : OKZ Z) (hF : Fix M) {n : Nat} (hn : n ≤ 60) (h34 : rI M 51 34 = nI n) : ∃ k M1, k ≤ n ∧ fX12_faultOf Z M 51 = some (nI k, M1) ∧ Wr Z FScan [] [] M M1 ∧ ((k = n ∧ ∃ x, crs (rI M 78) n = some x ∧ SI Z M (rI M 78) n n M1 x) ∨ (k < n ∧ ∃ x, crs (rI M 78) k = some x ∧ fX2_step x (rI M 78 k) = some (-1))) := by
  have hd : dis FScan [(51, some 34), (78, none)] = true := by decide
  have hS0 : Sc Z M (wI (wI (wI (wI M 51 43 0) 51 44 0) 51 53 0) 51 55 0) [] [] := by
    refine ⟨(((Wr.rf.sI (by simp [inF])).sI (by simp [inF])).sI (by simp [inF])).sI (by simp [inF]), by simp [rI_wI]; rfl, by simp [rI_wI]; rfl, trivial, trivial⟩
  obtain ⟨r, q1, k, hk, e1, w, hc⟩ : ∃ r, fX12_faultOf Z M 51 = some r ∧ ∃ k, k ≤ n ∧ r.1 = nI k ∧ Wr Z FScan [] [] M r.2 ∧ ((k = n ∧ ∃ x, crs (rI M 78) n = some x ∧ SI Z M (rI M 78) n n r.2 x) ∨ (k < n ∧ ∃ x, crs (rI M 78) k = some x ∧ fX2_step x (rI M 78 k) = some (-1))) := by
    unfold fX12_faultOf
    rw [if_pos (tg_51 hZ)]
    simp only [pu]
    refine loop_inv (fun s : Int32 × Mem => ∃ i x, i ≤ n ∧ s.1 = nI i ∧ crs (rI M 78) i = some x ∧ SI Z M (rI M 78) n i s.2 x ∧ Wr Z FScan [] [] M s.2) (fun r : Int32 × Mem => ∃ k, k ≤ n ∧ r.1 = nI k ∧ Wr Z FScan [] [] M r.2 ∧ ((k = n ∧ ∃ x, crs (rI M 78) n = some x ∧ SI Z M (rI M 78) n n r.2 x) ∨ (k < n ∧ ∃ x, crs (rI M 78) k = some x ∧ fX2_step x (rI M 78 k) = some (-1)))) (fun s => n - ix s.1) ?_ _ ⟨0, 0, by omega, rfl, rfl, Or.inl ⟨rfl, by simp [rI_wI], rfl, by simp [rI_wI], hS0⟩, hS0.1⟩
    rintro ⟨t, M3⟩ ⟨i, x, hi, e, hx, hI, w⟩
    dsimp only at e hI w
    subst e
    have hF3 : Fix M3 := w.fix hF (by decide)
    have r34 : rI M3 51 34 = nI n := by rw [w.at hd (a := 51) (k := 34) (by simp) (by omega), h34]
    have r78 : ∀ k, rI M3 78 k = rI M 78 k := fun k => w.row hd (a := 78) (by simp) (by omega) k
    by_cases hin : i = n
    · subst hin
      exact Or.inr ⟨(nI i, M3), by simp [r34], i, by omega, rfl, w, Or.inl ⟨rfl, x, hx, hI⟩⟩
    have hin : i < n := by omega
    have hle := nle hin (by omega)
    have hix : ix (nI i) = i := ix_nI (by omega)
    have hix1 : ix (nI (i + 1)) = i + 1 := ix_nI (by omega)
    have a78 : aok Z 78 100 (nI i) := aok_nI (tg_78 hZ) (by omega) (by decide)
    obtain ⟨r, M4, x1, g1, g2, g3, g4⟩ := si_all hZ hF hn hin hI
    rcases g4 with ⟨rfl, rfl⟩ | ⟨rfl, h2, h3⟩
    · refine Or.inr ⟨(nI i, M4), ?_, i, by omega, rfl, g3, Or.inr ⟨hin, x, hx, g2⟩⟩
      simp [r34, hle, fr_51_33 hF3, if_pos a78, hix, r78, g1]
    · refine Or.inl ⟨(nI (i + 1), M4), ?_, ⟨i + 1, x1, by omega, rfl, ?_, h3, g3⟩, ?_⟩
      · simp [r34, hle, fr_51_33 hF3, if_pos a78, hix, r78, g1, nI_succ]
      · rw [crs, hx, Option.bind_some, g2, Option.bind_some, if_neg h2]
      · dsimp only
        rw [hix, hix1]
        omega
  refine ⟨k, r.2, hk, ?_, w, hc⟩
  rw [q1, ← e1]
theorem ff_c {Z : Shp} {M : Mem} (hZ : OKZ Z) (hF : Fix M) {n k : Nat} {x : Int32} (hn : n ≤ 60) (h1 : rI M 24 1 = nI n) (h3 : ∀ k, rI M 25 k = rI M 78 k) (hk : k ≤ n) (hx : crs (rI M 78) k = some x) (he : k = n ∨ fX2_step x (rI M 78 k) = some (-1)) : fX2_firstFault Z M 24 = some (nI k) := by
  unfold fX2_firstFault
  refine loop_for (fun i => (sd (rI M 78) i, nI i)) k rfl (fun i hi => ?_) ?_
  · have h5 := crs_sd k (i + 1) x hx (by omega)
    obtain ⟨g1, g2⟩ := crs_step h5
    have hle := nle (show i < n by omega) (by omega)
    have hix : ix (nI i) = i := ix_nI (by omega)
    have a25 : aok Z 25 102 (nI i) := aok_nI (tg_25 hZ) (by omega) (by decide)
    simp [tg_24 hZ, h1, hle, fr_24_0 hF, if_pos a25, hix, h3, g1, g2, nI_succ]
  · by_cases c : k = n
    · subst c
      simp [tg_24 hZ, h1]
    · have he := he.resolve_left c
      have h5 := crs_sd k k x hx (by omega)
      rw [hx] at h5
      cases h5
      have hle := nle (show k < n by omega) (by omega)
      have hix : ix (nI k) = k := ix_nI (by omega)
      have a25 : aok Z 25 102 (nI k) := aok_nI (tg_25 hZ) (by omega) (by decide)
      simp [tg_24 hZ, h1, hle, fr_24_0 hF, if_pos a25, hix, h3, he]
theorem op_fault {Z : Shp} {M : Mem} (hZ : OKZ Z) (hF : Fix M) (hI : IPage M) : ∃ r M2, fX11_fault Z M 2 = some r ∧ fX12_fault Z M 51 = some (r, M2) ∧ Wr Z FScan [] [] M M2 := by
  obtain ⟨n, hn, h1, h2, h3, h4⟩ := hI
  obtain ⟨k, M1, hk, g1, g2, g3⟩ := faultOf_m hZ hF hn h2
  obtain ⟨x, hx, he⟩ : ∃ x, crs (rI M 78) k = some x ∧ (k = n ∨ fX2_step x (rI M 78 k) = some (-1)) := by
    rcases g3 with ⟨rfl, x, a1, a2⟩ | ⟨a0, x, a1, a2⟩
    · exact ⟨x, a1, Or.inl rfl⟩
    · exact ⟨x, a1, Or.inr a2⟩
  have hc := ff_c hZ hF hn h1 h3 hk hx he
  exact ⟨nI k, M1, by simp [fX11_fault, tg_2 hZ, tg_3 hZ, tg_4 hZ, tg_5 hZ, tg_6 hZ, tg_7 hZ, tg_8 hZ, tg_24 hZ, tg_25 hZ, tg_26 hZ, tg_27 hZ, tg_28 hZ, tg_29 hZ, tg_30 hZ, tg_31 hZ, tg_32 hZ, tg_33 hZ, tg_34 hZ, tg_35 hZ, tg_36 hZ, tg_37 hZ, tg_38 hZ, tg_39 hZ, tg_40 hZ, tg_41 hZ, tg_42 hZ, tg_43 hZ, tg_44 hZ, tg_45 hZ, tg_46 hZ, tg_47 hZ, tg_48 hZ, tg_49 hZ, tg_50 hZ, fr_2_0 hF, fr_3_0 hF, fr_3_1 hF, fr_3_2 hF, fr_3_3 hF, fr_3_4 hF, fr_2_1 hF, fr_24_0 hF, fr_24_2 hF, fr_2_2 hF, fr_27_0 hF, fr_27_1 hF, fr_27_2 hF, fr_27_8 hF, fr_2_3 hF, fr_32_0 hF, fr_32_1 hF, fr_32_3 hF, fr_32_4 hF, fr_32_5 hF, fr_32_6 hF, fr_2_4 hF, fr_39_0 hF, fr_39_1 hF, fr_39_2 hF, fr_39_3 hF, fr_39_4 hF, fr_39_5 hF, fr_39_6 hF, fr_2_5 hF, fr_47_0 hF, fr_47_1 hF, fr_47_2 hF, hc], by simp [fX12_fault, tg_51 hZ, g1], g2⟩
theorem page_c {Z : Shp} {M : Mem} (hZ : OKZ Z) (hF : Fix M) {n k : Nat} {x : Int32} (hn : n ≤ 60) (h1 : rI M 24 1 = nI n) (h3 : ∀ k, rI M 25 k = rI M 78 k) (hk : k ≤ n) (hx : crs (rI M 78) k = some x) (he : k = n ∨ fX2_step x (rI M 78 k) = some (-1)) : fX2_pageIsText Z M 24 = some (if k = n ∧ (¬ fX11_within x 3 6 = 0 ∨ ¬ fX11_within x 10 13 = 0) then 1 else 0) := by
  have h5 := crs_sd k k x hx (by omega)
  rw [hx] at h5
  have h6 : x = sd (rI M 78) k := by cases h5; rfl
  unfold fX2_pageIsText
  by_cases c : k = n
  · subst c
    refine bindL (v := x) (loop_for (fun i => (sd (rI M 78) i, nI i)) k rfl (fun i hi => ?_) (by simp [tg_24 hZ, h1, h6])) ?_
    · have h5 := crs_sd k (i + 1) x hx (by omega)
      obtain ⟨g1, g2⟩ := crs_step h5
      have hle := nle hi (by omega)
      have hix : ix (nI i) = i := ix_nI (by omega)
      have a25 : aok Z 25 102 (nI i) := aok_nI (tg_25 hZ) (by omega) (by decide)
      have g3 : ¬ sd (rI M 78) i = -1 := by
        cases i with
        | zero => exact (show ¬ (0 : Int32) = -1 by decide)
        | succ i => exact (crs_step (crs_sd k (i + 1) x hx (by omega))).2
      simp [tg_24 hZ, h1, hle, fr_24_0 hF, if_pos a25, hix, h3, g1, g3, nI_succ]
    · by_cases q1 : fX11_within x 3 6 = 0
      · by_cases q2 : fX11_within x 10 13 = 0
        · simp [q1, q2]
        · simp [q1, q2]
      · simp [q1]
  · have he := he.resolve_left c
    rw [if_neg (fun h => c h.1)]
    refine bindL (v := (-1 : Int32)) (loop_for (fun i => if i ≤ k then (sd (rI M 78) i, nI i) else ((-1 : Int32), nI (k + 1))) (k + 1) rfl (fun i hi => ?_) ?_) (by decide)
    · rw [if_pos (show i ≤ k by omega)]
      have hle := nle (show i < n by omega) (by omega)
      have hix : ix (nI i) = i := ix_nI (by omega)
      have a25 : aok Z 25 102 (nI i) := aok_nI (tg_25 hZ) (by omega) (by decide)
      have g3 : ¬ sd (rI M 78) i = -1 := by
        cases i with
        | zero => exact (show ¬ (0 : Int32) = -1 by decide)
        | succ i => exact (crs_step (crs_sd k (i + 1) x hx (by omega))).2
      by_cases q : i = k
      · subst q
        rw [if_neg (show ¬ i + 1 ≤ i by omega)]
        rw [h6] at he
        simp [tg_24 hZ, h1, hle, fr_24_0 hF, if_pos a25, hix, h3, he, g3, nI_succ]
      · rw [if_pos (show i + 1 ≤ k by omega)]
        obtain ⟨g1, g2⟩ := crs_step (crs_sd k (i + 1) x hx (by omega))
        simp [tg_24 hZ, h1, hle, fr_24_0 hF, if_pos a25, hix, h3, g1, g3, nI_succ]
    · rw [if_neg (show ¬ k + 1 ≤ k by omega)]
      by_cases q : nI n ≤ nI (k + 1)
      · simp [tg_24 hZ, h1, q]
      · simp [tg_24 hZ, h1, q]
