/-! pure: loops, numbers, memory -/
theorem loop_step {σ τ : Type} {f : σ → Option (σ ⊕ τ)} {s s1 : σ} (h : f s = some (Sum.inl s1)) : loop f s = loop f s1 := by
  rw [loop_eq, h]
  rfl
theorem loop_done {σ τ : Type} {f : σ → Option (σ ⊕ τ)} {s : σ} {r : τ} (h : f s = some (Sum.inr r)) : loop f s = some r := by
  rw [loop_eq, h]
  rfl
theorem loop_for {σ τ : Type} {f : σ → Option (σ ⊕ τ)} (S : Nat → σ) (n : Nat) {r : τ} {s0 : σ} (h0 : s0 = S 0) (hs : ∀ i, i < n → f (S i) = some (Sum.inl (S (i + 1)))) (he : f (S n) = some (Sum.inr r)) : loop f s0 = some r := by
  subst h0
  have key : ∀ j, j ≤ n → loop f (S 0) = loop f (S j) := by
    intro j
    induction j with
    | zero => exact fun _ => rfl
    | succ j ih => exact fun h => (ih (by omega)).trans (loop_step (hs j (by omega)))
  rw [key n (Nat.le_refl n)]
  exact loop_done he
theorem loop_inv {σ τ : Type} {f : σ → Option (σ ⊕ τ)} (I : σ → Prop) (R : τ → Prop) (μ : σ → Nat) (h : ∀ s, I s → (∃ s1, f s = some (Sum.inl s1) ∧ I s1 ∧ μ s1 < μ s) ∨ (∃ r, f s = some (Sum.inr r) ∧ R r)) : ∀ s, I s → ∃ r, loop f s = some r ∧ R r := by
  have key : ∀ n s, μ s < n → I s → ∃ r, loop f s = some r ∧ R r := by
    intro n
    induction n with
    | zero => exact fun s h => absurd h (Nat.not_lt_zero _)
    | succ n ih =>
      intro s hn hI
      rcases h s hI with ⟨s1, h1, h2, h3⟩ | ⟨r, h1, h2⟩
      · obtain ⟨r, h4, h5⟩ := ih s1 (by omega) h2
        exact ⟨r, (loop_step h1).trans h4, h5⟩
      · exact ⟨r, loop_done h1, h2⟩
  exact fun s hI => key (μ s + 1) s (Nat.lt_succ_self _) hI
theorem loop_sim {σ τ σ' τ' : Type} {f : σ → Option (σ ⊕ τ)} {g : σ' → Option (σ' ⊕ τ')} (Q : σ → σ' → Prop) (R : τ → τ' → Prop) (μ : σ → Nat) (h : ∀ s t, Q s t → (∃ s1 t1, f s = some (Sum.inl s1) ∧ g t = some (Sum.inl t1) ∧ Q s1 t1 ∧ μ s1 < μ s) ∨ (∃ r r', f s = some (Sum.inr r) ∧ g t = some (Sum.inr r') ∧ R r r')) : ∀ s t, Q s t → ∃ r r', loop f s = some r ∧ loop g t = some r' ∧ R r r' := by
  have key : ∀ n s t, μ s < n → Q s t → ∃ r r', loop f s = some r ∧ loop g t = some r' ∧ R r r' := by
    intro n
    induction n with
    | zero => exact fun s t h => absurd h (Nat.not_lt_zero _)
    | succ n ih =>
      intro s t hn hI
      rcases h s t hI with ⟨s1, t1, h1, h2, h3, h4⟩ | ⟨r, r', h1, h2, h3⟩
      · obtain ⟨r, r', h5, h6, h7⟩ := ih s1 t1 (by omega) h3
        exact ⟨r, r', (loop_step h1).trans h5, (loop_step h2).trans h6, h7⟩
      · exact ⟨r, r', loop_done h1, loop_done h2, h3⟩
  exact fun s t hI => key (μ s + 1) s t (Nat.lt_succ_self _) hI
theorem ix_nI {n : Nat} (h : n < 2 ^ 31) : ix (nI n) = n := nI_clamp h
theorem aok_nI {Z : Shp} {a t n k : Nat} (hz : tg Z a = (t, n)) (hk : k < n) (hn : n < 2 ^ 31) : aok Z a t (nI k) := by
  rw [aok, hz, nI_toInt (by omega)]
  exact ⟨rfl, by omega, by show (k : Int) < (n : Int); omega⟩
theorem i32_le (a b : Int32) : a ≤ b ↔ a.toInt ≤ b.toInt := Int32.le_iff_toInt_le
theorem i32_lt (a b : Int32) : a < b ↔ a.toInt < b.toInt := Int32.lt_iff_toInt_lt
theorem i32_eq (a b : Int32) : a = b ↔ a.toInt = b.toInt := Int32.toInt_inj.symm
theorem i64_le (a b : Int64) : a ≤ b ↔ a.toInt ≤ b.toInt := Int64.le_iff_toInt_le
theorem i64_lt (a b : Int64) : a < b ↔ a.toInt < b.toInt := Int64.lt_iff_toInt_lt
theorem i64_eq (a b : Int64) : a = b ↔ a.toInt = b.toInt := Int64.toInt_inj.symm
theorem lc_lt (x y : Int64) : lg_cmp x y < 0 ↔ x < y := by
  unfold lg_cmp
  by_cases h1 : x > y
  · rw [if_pos h1]
    have : y.toInt < x.toInt := (i64_lt _ _).mp h1
    rw [i64_lt]
    constructor
    · intro h; exact absurd h (by decide)
    · intro h; omega
  · rw [if_neg h1]
    have h1' : ¬ y.toInt < x.toInt := fun h => h1 ((i64_lt _ _).mpr h)
    by_cases h2 : x = y
    · rw [if_pos h2, i64_lt, h2]
      constructor
      · intro h; exact absurd h (by decide)
      · intro h; omega
    · rw [if_neg h2, i64_lt]
      have h2' : ¬ x.toInt = y.toInt := fun h => h2 ((i64_eq _ _).mpr h)
      constructor
      · intro _; omega
      · intro _; decide
theorem lc_gt (x y : Int64) : 0 < lg_cmp x y ↔ y < x := by
  unfold lg_cmp
  by_cases h1 : x > y
  · rw [if_pos h1]
    constructor
    · intro _; exact h1
    · intro _; decide
  · rw [if_neg h1]
    by_cases h2 : x = y
    · rw [if_pos h2]
      constructor
      · intro h; exact absurd h (by decide)
      · intro h; exact absurd h h1
    · rw [if_neg h2]
      constructor
      · intro h; exact absurd h (by decide)
      · intro h; exact absurd h h1
theorem lc_eq (x y : Int64) : lg_cmp x y = 0 ↔ x = y := by
  unfold lg_cmp
  by_cases h1 : x > y
  · rw [if_pos h1]
    constructor
    · intro h; exact absurd h (by decide)
    · intro h; rw [h] at h1; exact absurd ((i64_lt _ _).mp h1) (by omega)
  · rw [if_neg h1]
    by_cases h2 : x = y
    · rw [if_pos h2]; exact ⟨fun _ => h2, fun _ => rfl⟩
    · rw [if_neg h2]
      constructor
      · intro h; exact absurd h (by decide)
      · intro h; exact absurd h h2
theorem lc_ge (x y : Int64) : 0 ≤ lg_cmp x y ↔ y ≤ x := by
  have h := lc_lt x y
  rw [i32_lt] at h
  rw [i32_le, i64_le]
  have h0 : (0 : Int32).toInt = 0 := by decide
  rw [h0] at h ⊢
  rw [i64_lt] at h
  omega
theorem w_iff (x a b : Int32) : fX11_within x a b = 0 ↔ ¬ (a ≤ x ∧ x ≤ b) := by
  unfold fX11_within
  rw [i32_le, i32_le]
  by_cases h1 : x < a
  · rw [if_pos h1]
    rw [i32_lt] at h1
    constructor
    · intro _; omega
    · intro _; rfl
  · rw [if_neg h1]
    rw [i32_lt] at h1
    by_cases h2 : b < x
    · rw [if_pos h2]
      rw [i32_lt] at h2
      constructor
      · intro _; omega
      · intro _; rfl
    · rw [if_neg h2]
      rw [i32_lt] at h2
      constructor
      · intro h; exact absurd h (by decide)
      · intro h; omega
theorem in_within (x a b : Int32) : fX12_in x.toInt64 a.toInt64 b.toInt64 = fX11_within x a b := by
  have h1 : lg_cmp x.toInt64 a.toInt64 < 0 ↔ x < a := by rw [lc_lt, i64_lt, i32_lt, Int32.toInt_toInt64, Int32.toInt_toInt64]
  have h2 : 0 < lg_cmp x.toInt64 b.toInt64 ↔ b < x := by rw [lc_gt, i64_lt, i32_lt, Int32.toInt_toInt64, Int32.toInt_toInt64]
  unfold fX12_in fX11_within
  by_cases c1 : x < a
  · rw [if_pos c1, if_pos (h1.mpr c1)]
  · rw [if_neg c1, if_neg (fun h => c1 (h1.mp h))]
    by_cases c2 : b < x
    · rw [if_pos c2, if_pos (h2.mpr c2)]
    · rw [if_neg c2, if_neg (fun h => c2 (h2.mp h))]
theorem in_w {x a b : Int32} {A B : Int64} (hA : A = a.toInt64) (hB : B = b.toInt64) : fX12_in x.toInt64 A B = fX11_within x a b := by
  rw [hA, hB, in_within]
