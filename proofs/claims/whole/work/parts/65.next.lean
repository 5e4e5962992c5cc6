/-! turns: the model's next order -/
def rvs (p : Nat → Nat) (n i t k : Nat) : Nat := if (i < k ∧ k < i + 1 + t) ∨ (n - 1 - t < k ∧ k < n) then p (n + i - k) else p k
theorem next_m {Z : Shp} {M : Mem} (hZ : OKZ Z) (hF : Fix M) {n : Nat} (hn : n ≤ 8) (h57 : rI M 51 57 = nI n) {p : Nat → Nat} (hp : isP n p) (hr : ∀ k, k < n → rI M 93 k = nI (p k)) : (∃ M1, fX12_nextOrder Z M 51 = some (0, M1) ∧ M1 = M ∧ ∀ q, isP n q → cdo q n ≤ cdo p n) ∨ ∃ M1 p1, fX12_nextOrder Z M 51 = some (1, M1) ∧ Wr Z [(93, none)] [] [] M M1 ∧ isP n p1 ∧ (∀ k, k < n → rI M1 93 k = nI (p1 k)) ∧ cdo p n < cdo p1 n ∧ ∀ q, isP n q → cdo p n < cdo q n → cdo p1 n ≤ cdo q n := by
  have hpl : ∀ a b, a < n → b < n → (nI (p a) ≤ nI (p b) ↔ p a ≤ p b) := fun a b ha hb => by
    have h1 := hp.1 a ha
    have h2 := hp.1 b hb
    exact nI_leI (by omega) (by omega)
  unfold fX12_nextOrder
  rw [if_pos (tg_51 hZ), h57]
  simp only [pu]
  have m1 : ∀ k : Nat, k < 1000 → nI k + (-1) = nI k - 1 := fun k hk => by
    have e1 := nI_toInt (n := k) (by omega)
    have m1 : (1 : Int32).toInt = 1 := by decide
    have m2 : (-1 : Int32).toInt = -1 := by decide
    rw [i32_eq, addI (by omega) (by omega), subI (by omega) (by omega)]
    omega
  have m2 : nI n - 2 = (if n = 0 then (-2 : Int32) else nI (n - 1) - 1) := by
    by_cases c : n = 0
    · rw [if_pos c, c]; decide
    · rw [if_neg c]
      have e1 := nI_toInt (n := n) (by omega)
      have e2 := nI_toInt (n := n - 1) (by omega)
      have a1 : (1 : Int32).toInt = 1 := by decide
      have a2 : (2 : Int32).toInt = 2 := by decide
      rw [i32_eq, subI (by omega) (by omega), subI (by omega) (by omega)]
      omega
  refine bindI (G := fun o => (∃ M1, o = some ((0 : Int32), M1) ∧ M1 = M ∧ ∀ q, isP n q → cdo q n ≤ cdo p n) ∨ ∃ M1 p1, o = some ((1 : Int32), M1) ∧ Wr Z [(93, none)] [] [] M M1 ∧ isP n p1 ∧ (∀ k, k < n → rI M1 93 k = nI (p1 k)) ∧ cdo p n < cdo p1 n ∧ ∀ q, isP n q → cdo p n < cdo q n → cdo p1 n ≤ cdo q n) (fun s : Int32 => (s < 0 ∧ ∀ m, m + 1 < n → p (m + 1) < p m) ∨ ∃ k, k + 1 < n ∧ s = nI k ∧ ∀ m, k < m → m + 1 < n → p (m + 1) < p m) (fun v : Int32 => (v < 0 ∧ ∀ m, m + 1 < n → p (m + 1) < p m) ∨ ∃ i, i + 1 < n ∧ v = nI i ∧ p i < p (i + 1) ∧ ∀ m, i < m → m + 1 < n → p (m + 1) < p m) (fun s => (s.toInt + 1).toNat) ?_ ?_ ?_
  · rintro s (⟨h1, h2⟩ | ⟨k, hk, rfl, h2⟩)
    · exact Or.inr ⟨s, by simp [h1], Or.inl ⟨h1, h2⟩⟩
    · have hk0 : ¬ nI k < 0 := nI_pos (by omega)
      have a1 : aok Z 93 100 (nI k) := aok_nI (tg_93 hZ) (by omega) (by decide)
      have a2 : aok Z 93 100 (nI (k + 1)) := aok_nI (tg_93 hZ) (by omega) (by decide)
      have hix : ix (nI k) = k := ix_nI (by omega)
      have hix1 : ix (nI (k + 1)) = k + 1 := ix_nI (by omega)
      have hne : p k ≠ p (k + 1) := fun e => by
        have := hp.2 k (k + 1) (by omega) (by omega) e
        omega
      by_cases c : p k ≤ p (k + 1)
      · refine Or.inr ⟨nI k, ?_, Or.inr ⟨k, hk, rfl, by omega, h2⟩⟩
        rw [if_neg hk0, fr_51_62 hF, if_pos a1, nI_1, if_pos a2, hix, hix1, hr k (by omega), hr (k + 1) hk, if_pos ((hpl k (k + 1) (by omega) hk).mpr c)]
      · refine Or.inl ⟨nI k - 1, ?_, ?_, ?_⟩
        · rw [if_neg hk0, fr_51_62 hF, if_pos a1, nI_1, if_pos a2, hix, hix1, hr k (by omega), hr (k + 1) hk, if_neg (mt (hpl k (k + 1) (by omega) hk).mp c), m1 k (by omega)]
        · have h3 : ∀ m, k ≤ m → m + 1 < n → p (m + 1) < p m := by
            intro m hm1 hm2
            by_cases e : m = k
            · subst e; omega
            · exact h2 m (by omega) hm2
          cases k with
          | zero => exact Or.inl ⟨by decide, fun m hm => h3 m (by omega) hm⟩
          | succ k => exact Or.inr ⟨k, by omega, nI_pred k, fun m hm1 hm2 => h3 m (by omega) hm2⟩
        · have e1 := nI_toInt (n := k) (by omega)
          have a1 : (1 : Int32).toInt = 1 := by decide
          rw [subI (by omega) (by omega)]
          omega
  · rw [m2]
    by_cases c : n = 0
    · rw [if_pos c]
      exact Or.inl ⟨by decide, fun m hm => absurd hm (by omega)⟩
    · rw [if_neg c]
      by_cases c1 : n = 1
      · rw [c1]
        exact Or.inl ⟨by decide, fun m hm => absurd hm (by omega)⟩
      · right
        refine ⟨n - 2, by omega, ?_, fun m h1 h2 => absurd h1 (by omega)⟩
        rw [show n - 1 = (n - 2) + 1 by omega, nI_pred]
  · rintro v (⟨h1, h2⟩ | ⟨i, hi, rfl, h2, h3⟩)
    · left
      have : ¬ (0 : Int32) ≤ v := by
        rw [i32_lt] at h1
        rw [i32_le]
        omega
      exact ⟨M, by rw [if_neg this], rfl, last_perm hn hp h2⟩
    · right
      have h0 : (0 : Int32) ≤ nI i := nI_pos' (by omega)
      have ai : aok Z 93 100 (nI i) := aok_nI (tg_93 hZ) (by omega) (by decide)
      have hixi : ix (nI i) = i := ix_nI (by omega)
      rw [if_pos h0, show nI n - 1 = nI (n - 1) from nI_prd (by omega)]
      refine bindI (G := fun o => ∃ M1 p1, o = some ((1 : Int32), M1) ∧ Wr Z [(93, none)] [] [] M M1 ∧ isP n p1 ∧ (∀ k, k < n → rI M1 93 k = nI (p1 k)) ∧ cdo p n < cdo p1 n ∧ ∀ q, isP n q → cdo p n < cdo q n → cdo p1 n ≤ cdo q n) (fun s : Int32 => ∃ k, i < k ∧ k < n ∧ s = nI k ∧ ∀ m, k < m → m < n → p m < p i) (fun v : Int32 => ∃ j, i < j ∧ j < n ∧ v = nI j ∧ p i < p j ∧ ∀ m, j < m → m < n → p m < p i) (fun s => ix s) ?_ ⟨n - 1, by omega, by omega, rfl, fun m h1 h2 => absurd h1 (by omega)⟩ ?_
      · rintro s ⟨k, k1, k2, rfl, k3⟩
        have ak : aok Z 93 100 (nI k) := aok_nI (tg_93 hZ) (by omega) (by decide)
        have hixk : ix (nI k) = k := ix_nI (by omega)
        have hne : p i ≠ p k := fun e => by
          have := hp.2 i k (by omega) k2 e
          omega
        by_cases c : p i ≤ p k
        · refine Or.inr ⟨nI k, ?_, k, k1, k2, rfl, by omega, k3⟩
          rw [fr_51_62 hF, if_pos ak, if_pos ai, hixi, hixk, hr i (by omega), hr k k2, if_pos ((hpl i k (by omega) k2).mpr c)]
        · have hk1 : k ≠ i + 1 := fun e => by
            rw [e] at c
            omega
          refine Or.inl ⟨nI (k - 1), ?_, ⟨k - 1, by omega, by omega, rfl, fun m hm1 hm2 => ?_⟩, ?_⟩
          · rw [fr_51_62 hF, if_pos ak, if_pos ai, hixi, hixk, hr i (by omega), hr k k2, if_neg (mt (hpl i k (by omega) k2).mp c), m1 k (by omega), nI_prd (by omega)]
          · by_cases e : m = k
            · rw [e]; omega
            · exact k3 m (by omega) hm2
          · rw [ix_nI (by omega), ix_nI (by omega)]
            omega
      · rintro v ⟨j, j1, j2, rfl, j3, j4⟩
        have aj : aok Z 93 100 (nI j) := aok_nI (tg_93 hZ) (by omega) (by decide)
        have hixj : ix (nI j) = j := ix_nI (by omega)
        obtain ⟨N1, N2⟩ := next_perm hn hp h3 j1 j2 j3 j4
        have hS := swp_inj hp (show i < n by omega) j2
        obtain ⟨M2, eM⟩ : ∃ M2, M2 = wI (wI M 93 i (nI (p j))) 93 j (nI (p i)) := ⟨_, rfl⟩
        have w2 : Wr Z [(93, none)] [] [] M M2 := by
          rw [eM]
          exact (Wr.rf.sI (by simp [inF])).sI (by simp [inF])
        have r2 : ∀ k, k < n → rI M2 93 k = nI (swp p i j k) := by
          intro k hk
          rw [eM, rI_wI, rI_wI]
          unfold swp
          by_cases c1 : k = j
          · rw [if_pos ⟨rfl, c1⟩, if_neg (show ¬ k = i by omega), if_pos c1]
          · rw [if_neg (fun e => c1 e.2)]
            by_cases c2 : k = i
            · rw [if_pos ⟨rfl, c2⟩, if_pos c2]
            · rw [if_neg (fun e => c2 e.2), if_neg c2, if_neg c1]
              exact hr k hk
        have h57' : rI M2 51 57 = nI n := by rw [eM, rI_wI, if_neg (by omega), rI_wI, if_neg (by omega), h57]
        have hne : ¬ ((93 : Nat) = 93 ∧ j = i) := by omega
        rw [fr_51_62 hF, if_pos ai, if_pos aj, hixi, hixj, hr i (by omega), hr j j2, rR_wI, fr_51_62 hF, if_pos aj, nI_1, ← eM, h57', nI_prd (show n ≠ 0 by omega)]
        obtain ⟨o, q1, M3, q2, q3, q4⟩ := loop_inv (f := fun s32 : Int32 × Int32 × Mem => (if s32.2.1 ≤ s32.1 then some (Sum.inr ((1 : Int32), s32.2.2)) else (if aok Z (rR s32.2.2 51 62) 100 s32.1 then (if aok Z (rR s32.2.2 51 62) 100 s32.2.1 then (if aok Z (rR (wI s32.2.2 (rR s32.2.2 51 62) (ix s32.1) (rI s32.2.2 (rR s32.2.2 51 62) (ix s32.2.1))) 51 62) 100 s32.2.1 then some (Sum.inl ((s32.1 + (1 : Int32)), (s32.2.1 + (-1 : Int32)), (wI (wI s32.2.2 (rR s32.2.2 51 62) (ix s32.1) (rI s32.2.2 (rR s32.2.2 51 62) (ix s32.2.1))) (rR (wI s32.2.2 (rR s32.2.2 51 62) (ix s32.1) (rI s32.2.2 (rR s32.2.2 51 62) (ix s32.2.1))) 51 62) (ix s32.2.1) (rI s32.2.2 (rR s32.2.2 51 62) (ix s32.1))))) else none) else none) else none)))
          (fun s => ∃ t, 2 * t ≤ n - 1 - i ∧ s.1 = nI (i + 1 + t) ∧ s.2.1 = nI (n - 1 - t) ∧ Wr Z [(93, none)] [] [] M s.2.2 ∧ ∀ k, k < n → rI s.2.2 93 k = nI (rvs (swp p i j) n i t k)) (fun o => ∃ M3, o = ((1 : Int32), M3) ∧ Wr Z [(93, none)] [] [] M M3 ∧ ∀ k, k < n → rI M3 93 k = nI (nxt p n i j k)) (fun s => ix s.2.1 - ix s.1 + (if ix s.1 < ix s.2.1 then 1 else 0)) (by
          rintro ⟨a, b, M4⟩ ⟨t, ht, e1, e2, w4, r4⟩
          dsimp only at e1 e2 w4 r4
          subst e1 e2
          have hF4 : Fix M4 := w4.fix hF (by decide)
          by_cases c : n - 1 - t ≤ i + 1 + t
          · refine Or.inr ⟨(1, M4), by simp [nI_le c (show i + 1 + t < 2 ^ 31 by omega)], M4, rfl, w4, fun k hk => ?_⟩
            rw [r4 k hk]
            congr 1
            unfold rvs nxt
            by_cases c1 : k ≤ i
            · rw [if_neg (by omega), if_pos c1]
            · rw [if_neg c1]
              by_cases c2 : (i < k ∧ k < i + 1 + t) ∨ (n - 1 - t < k ∧ k < n)
              · rw [if_pos c2]
              · rw [if_neg c2, show n + i - k = k by omega]
          · have hlt : i + 1 + t < n - 1 - t := by omega
            have aa : aok Z 93 100 (nI (i + 1 + t)) := aok_nI (tg_93 hZ) (by omega) (by decide)
            have ab : aok Z 93 100 (nI (n - 1 - t)) := aok_nI (tg_93 hZ) (by omega) (by decide)
            have ixa : ix (nI (i + 1 + t)) = i + 1 + t := ix_nI (by omega)
            have ixb : ix (nI (n - 1 - t)) = n - 1 - t := ix_nI (by omega)
            refine Or.inl ⟨(nI (i + 1 + (t + 1)), nI (n - 1 - (t + 1)), wI (wI M4 93 (i + 1 + t) (rI M4 93 (n - 1 - t))) 93 (n - 1 - t) (rI M4 93 (i + 1 + t))), ?_, ⟨t + 1, by omega, rfl, rfl, (w4.sI (by simp [inF])).sI (by simp [inF]), fun k hk => ?_⟩, ?_⟩
            · dsimp only
              rw [if_neg (nI_ge hlt (by omega)), fr_51_62 hF4, if_pos aa, if_pos ab, rR_wI, fr_51_62 hF4, if_pos ab, ixa, ixb, nI_1, m1 _ (by omega), nI_prd (by omega)]
              rfl
            · rw [rI_wI, rI_wI]
              by_cases c1 : k = n - 1 - t
              · rw [if_pos ⟨rfl, c1⟩, r4 _ (by omega)]
                congr 1
                unfold rvs
                rw [if_neg (by omega), if_pos (by omega)]
                congr 1
                omega
              · rw [if_neg (fun e => c1 e.2)]
                by_cases c2 : k = i + 1 + t
                · rw [if_pos ⟨rfl, c2⟩, r4 _ (by omega)]
                  congr 1
                  unfold rvs
                  rw [if_neg (by omega), if_pos (by omega)]
                  congr 1
                  omega
                · rw [if_neg (fun e => c2 e.2), r4 k hk]
                  congr 1
                  unfold rvs
                  by_cases c3 : (i < k ∧ k < i + 1 + t) ∨ (n - 1 - t < k ∧ k < n)
                  · rw [if_pos c3, if_pos (by omega)]
                  · rw [if_neg c3, if_neg (by omega)]
            · dsimp only
              rw [ix_nI (by omega), ix_nI (by omega), ixa, ixb]
              split <;> omega) (nI (i + 1), nI (n - 1), M2) ⟨0, by omega, rfl, rfl, w2, fun k hk => by
            rw [r2 k hk]
            congr 1
            unfold rvs
            rw [if_neg (by omega)]⟩
        refine ⟨M3, nxt p n i j, ?_, q3, nxt_isP hp j1 j2, q4, N1, N2⟩
        rw [q2] at q1
        exact q1
