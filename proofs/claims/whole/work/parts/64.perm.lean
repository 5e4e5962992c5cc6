/-! turns: orders -/
def isP (n : Nat) (p : Nat → Nat) : Prop := (∀ k, k < n → p k < n) ∧ ∀ i j, i < n → j < n → p i = p j → i = j
def cdo (p : Nat → Nat) : Nat → Nat
  | 0 => 0
  | k + 1 => 8 * cdo p k + p k
theorem cdo_congr {p q : Nat → Nat} : ∀ n, (∀ k, k < n → p k = q k) → cdo p n = cdo q n := by
  intro n
  induction n with
  | zero => exact fun _ => rfl
  | succ n ih =>
    intro h
    rw [cdo, cdo, ih (fun k hk => h k (by omega)), h n (by omega)]
theorem cdo_lt {p q : Nat → Nat} {d : Nat} (h : ∀ k, k < d → p k = q k) (hd : p d < q d) : ∀ n, d < n → (∀ k, k < n → p k < 8) → cdo p n < cdo q n := by
  intro n
  induction n with
  | zero => exact fun h => absurd h (by omega)
  | succ n ih =>
    intro hn hp
    rw [cdo, cdo]
    by_cases e : d = n
    · subst e
      rw [cdo_congr d h]
      omega
    · have := ih (by omega) (fun k hk => hp k (by omega))
      have := hp n (by omega)
      omega
theorem fst_diff (p q : Nat → Nat) : ∀ n, (∀ k, k < n → p k = q k) ∨ ∃ d, d < n ∧ (∀ k, k < d → p k = q k) ∧ p d ≠ q d := by
  intro n
  induction n with
  | zero => exact Or.inl (fun k h => absurd h (by omega))
  | succ n ih =>
    rcases ih with h | ⟨d, h1, h2, h3⟩
    · by_cases c : p n = q n
      · left
        intro k hk
        by_cases e : k = n
        · rw [e]; exact c
        · exact h k (by omega)
      · exact Or.inr ⟨n, by omega, h, c⟩
    · exact Or.inr ⟨d, by omega, h2, h3⟩
theorem cdo_eq {p q : Nat → Nat} {n : Nat} (hp : ∀ k, k < n → p k < 8) (hq : ∀ k, k < n → q k < 8) (h : cdo p n = cdo q n) : ∀ k, k < n → p k = q k := by
  rcases fst_diff p q n with h1 | ⟨d, h1, h2, h3⟩
  · exact h1
  · exfalso
    rcases Nat.lt_or_gt_of_ne h3 with c | c
    · have := cdo_lt h2 c n h1 hp
      omega
    · have := cdo_lt (fun k hk => (h2 k hk).symm) c n h1 hq
      omega
/-- behind a common beginning, the other order's figure stands later in this one -/
theorem later {n : Nat} {p q : Nat → Nat} (hp : isP n p) (hq : isP n q) {d : Nat} (hd : d < n) (h : ∀ k, k < d → p k = q k) (hne : p d ≠ q d) : ∃ e, d < e ∧ e < n ∧ q d = p e := by
  obtain ⟨e, he, ee⟩ := inj_surj n p hp.1 hp.2 (q d) (hq.1 d hd)
  refine ⟨e, ?_, he, ee.symm⟩
  rcases Nat.lt_trichotomy e d with c | c | c
  · exfalso
    have h1 := h e c
    have := hq.2 e d he hd (by rw [← h1, ee])
    omega
  · subst c
    exact absurd ee hne
  · exact c
theorem desc_lt {n i : Nat} {p : Nat → Nat} (h : ∀ m, i < m → m + 1 < n → p (m + 1) < p m) : ∀ k a, i < a → a + (k + 1) < n → p (a + (k + 1)) < p a := by
  intro k
  induction k with
  | zero => exact fun a h1 h2 => h a h1 h2
  | succ k ih =>
    intro a h1 h2
    have h3 := ih a h1 (by omega)
    have h4 := h (a + (k + 1)) (by omega) (by omega)
    rw [show a + (k + 1 + 1) = a + (k + 1) + 1 by omega]
    omega
theorem desc2 {n i a b : Nat} {p : Nat → Nat} (h : ∀ m, i < m → m + 1 < n → p (m + 1) < p m) (h1 : i < a) (h2 : a < b) (h3 : b < n) : p b < p a := by
  have := desc_lt h (b - a - 1) a h1 (by omega)
  rw [show a + (b - a - 1 + 1) = b by omega] at this
  exact this
theorem last_perm {n : Nat} {p : Nat → Nat} (hn : n ≤ 8) (hp : isP n p) (h : ∀ m, m + 1 < n → p (m + 1) < p m) : ∀ q, isP n q → cdo q n ≤ cdo p n := by
  intro q hq
  rcases fst_diff p q n with h1 | ⟨d, h1, h2, h3⟩
  · rw [cdo_congr n h1]
    omega
  · obtain ⟨e, e1, e2, e3⟩ := later hp hq h1 h2 h3
    have hlt : p e < p d := by
      have key : ∀ k a, a + (k + 1) < n → p (a + (k + 1)) < p a := by
        intro k
        induction k with
        | zero => exact fun a h2 => h a h2
        | succ k ih =>
          intro a h2
          have h3 := ih a (by omega)
          have h4 := h (a + (k + 1)) (by omega)
          rw [show a + (k + 1 + 1) = a + (k + 1) + 1 by omega]
          omega
      have := key (e - d - 1) d (by omega)
      rw [show d + (e - d - 1 + 1) = e by omega] at this
      exact this
    have := cdo_lt (fun k hk => (h2 k hk).symm) (show q d < p d by omega) n h1 (fun k hk => by have := hq.1 k hk; omega)
    omega
/-- the next order -/
def swp (p : Nat → Nat) (i j k : Nat) : Nat := if k = i then p j else if k = j then p i else p k
def nxt (p : Nat → Nat) (n i j k : Nat) : Nat := if k ≤ i then swp p i j k else swp p i j (n + i - k)
theorem swp_inj {n i j : Nat} {p : Nat → Nat} (hp : isP n p) (hi : i < n) (hj : j < n) : isP n (swp p i j) := by
  refine ⟨fun k hk => ?_, fun a b ha hb e => ?_⟩
  · unfold swp
    split
    · exact hp.1 j hj
    · split
      · exact hp.1 i hi
      · exact hp.1 k hk
  · unfold swp at e
    by_cases a1 : a = i
    · rw [if_pos a1] at e
      by_cases b1 : b = i
      · omega
      · rw [if_neg b1] at e
        by_cases b2 : b = j
        · rw [if_pos b2] at e
          have := hp.2 j i hj hi e
          omega
        · rw [if_neg b2] at e
          have := hp.2 j b hj hb e
          omega
    · rw [if_neg a1] at e
      by_cases a2 : a = j
      · rw [if_pos a2] at e
        by_cases b1 : b = i
        · rw [if_pos b1] at e
          have := hp.2 i j hi hj e
          omega
        · rw [if_neg b1] at e
          by_cases b2 : b = j
          · omega
          · rw [if_neg b2] at e
            have := hp.2 i b hi hb e
            omega
      · rw [if_neg a2] at e
        by_cases b1 : b = i
        · rw [if_pos b1] at e
          have := hp.2 a j ha hj e
          omega
        · rw [if_neg b1] at e
          by_cases b2 : b = j
          · rw [if_pos b2] at e
            have := hp.2 a i ha hi e
            omega
          · rw [if_neg b2] at e
            exact hp.2 a b ha hb e
theorem nxt_isP {n i j : Nat} {p : Nat → Nat} (hp : isP n p) (hij : i < j) (hj : j < n) : isP n (nxt p n i j) := by
  have hs := swp_inj hp (show i < n by omega) hj
  refine ⟨fun k hk => ?_, fun a b ha hb e => ?_⟩
  · unfold nxt
    split
    · exact hs.1 k hk
    · exact hs.1 _ (by omega)
  · unfold nxt at e
    by_cases a1 : a ≤ i
    · rw [if_pos a1] at e
      by_cases b1 : b ≤ i
      · rw [if_pos b1] at e
        exact hs.2 a b ha hb e
      · rw [if_neg b1] at e
        have := hs.2 a (n + i - b) ha (by omega) e
        omega
    · rw [if_neg a1] at e
      by_cases b1 : b ≤ i
      · rw [if_pos b1] at e
        have := hs.2 (n + i - a) b (by omega) hb e
        omega
      · rw [if_neg b1] at e
        have := hs.2 (n + i - a) (n + i - b) (by omega) (by omega) e
        omega
theorem nxt_asc {n i j : Nat} {p : Nat → Nat} (hp : isP n p) (hd : ∀ m, i < m → m + 1 < n → p (m + 1) < p m) (hij : i < j) (hj : j < n) (hpj : p i < p j) (hlast : ∀ m, j < m → m < n → p m < p i) : ∀ a b, i < a → a < b → b < n → nxt p n i j a < nxt p n i j b := by
  intro a b h1 h2 h3
  unfold nxt
  rw [if_neg (by omega), if_neg (by omega)]
  -- positions x > y in the swapped order
  have hx : i < n + i - b ∧ n + i - b < n + i - a ∧ n + i - a < n := by omega
  obtain ⟨x1, x2, x3⟩ := hx
  generalize n + i - a = x at x2 x3
  generalize n + i - b = y at x1 x2
  unfold swp
  rw [if_neg (show ¬ x = i by omega), if_neg (show ¬ y = i by omega)]
  by_cases c1 : x = j
  · rw [if_pos c1, if_neg (by omega)]
    have := desc2 hd x1 (show y < j by omega) hj
    omega
  · rw [if_neg c1]
    by_cases c2 : y = j
    · rw [if_pos c2]
      exact hlast x (by omega) x3
    · rw [if_neg c2]
      exact desc2 hd x1 x2 x3
theorem next_perm {n i j : Nat} {p : Nat → Nat} (hn : n ≤ 8) (hp : isP n p) (hd : ∀ m, i < m → m + 1 < n → p (m + 1) < p m) (hij : i < j) (hj : j < n) (hpj : p i < p j) (hlast : ∀ m, j < m → m < n → p m < p i) : cdo p n < cdo (nxt p n i j) n ∧ ∀ q, isP n q → cdo p n < cdo q n → cdo (nxt p n i j) n ≤ cdo q n := by
  have hP := nxt_isP hp hij hj
  have hasc := nxt_asc hp hd hij hj hpj hlast
  have hb : ∀ k, k < i → nxt p n i j k = p k := by
    intro k hk
    unfold nxt swp
    rw [if_pos (by omega), if_neg (by omega), if_neg (by omega)]
  have hi : nxt p n i j i = p j := by
    unfold nxt swp
    rw [if_pos (by omega), if_pos rfl]
  have h8 : ∀ {r : Nat → Nat}, isP n r → ∀ k, k < n → r k < 8 := fun hr k hk => by
    have := hr.1 k hk
    omega
  refine ⟨cdo_lt (fun k hk => (hb k hk).symm) (by rw [hi]; exact hpj) n (by omega) (h8 hp), fun q hq hlt => ?_⟩
  rcases fst_diff p q n with h1 | ⟨d, h1, h2, h3⟩
  · rw [cdo_congr n h1] at hlt
    omega
  have hpq : p d < q d := by
    rcases Nat.lt_or_gt_of_ne h3 with c | c
    · exact c
    · have := cdo_lt (fun k hk => (h2 k hk).symm) c n h1 (h8 hq)
      omega
  obtain ⟨e, e1, e2, e3⟩ := later hp hq h1 h2 h3
  rcases Nat.lt_trichotomy d i with c | c | c
  · have := cdo_lt (p := nxt p n i j) (q := q) (d := d) (fun k hk => by rw [hb k (by omega)]; exact h2 k hk) (by rw [hb d c]; exact hpq) n h1 (h8 hP)
    omega
  · subst c
    have he : e ≤ j := by
      refine Classical.byContradiction fun hc => ?_
      have := hlast e (by omega) e2
      omega
    have hpe : p j ≤ p e := by
      by_cases c2 : e = j
      · rw [c2]; omega
      · have := desc2 hd e1 (show e < j by omega) hj
        omega
    by_cases c3 : p j = p e
    · rcases fst_diff (nxt p n d j) q n with g1 | ⟨x, g1, g2, g3⟩
      · rw [cdo_congr n g1]
        omega
      · have hxd : d < x := by
          refine Classical.byContradiction fun hc => g3 ?_
          by_cases c4 : x = d
          · rw [c4, hi, e3, c3]
          · rw [hb x (by omega)]
            exact h2 x (by omega)
        obtain ⟨y, y1, y2, y3⟩ := later hP hq g1 g2 g3
        have := hasc x y hxd y1 y2
        have := cdo_lt (p := nxt p n d j) (q := q) (d := x) g2 (by omega) n g1 (h8 hP)
        omega
    · have := cdo_lt (p := nxt p n d j) (q := q) (d := d) (fun k hk => by rw [hb k hk]; exact h2 k hk) (by rw [hi]; omega) n h1 (h8 hP)
      omega
  · have := desc2 hd c e1 e2
    omega
