/-! turns: the class's table of the latest hours -/
theorem bf2 : ∀ c, c < 8 → ∀ x, x < 256 → x.testBit c = false → x ||| 2 ^ c = x ^^^ 2 ^ c := by decide +kernel
def fit (M : Mem) (T L : Nat) (D : Mem) (y s f t c : Nat) : Prop := y.testBit c = true ∧ spd M c s ≤ f ∧ max t (tf M c) ≤ tb M c ∧ ((max t (tf M c) : Nat) : Int) ≤ (L : Int) - 1 ∧ ((max t (tf M c) : Nat) : Int) ≤ (rI D T (cellN (y ^^^ 2 ^ c) (stb M c) (f - spd M c s))).toInt
def CL (Z : Shp) (M : Mem) (n T F L : Nat) (D : Mem) : Prop := CMs Z M n T D ∧ rI D 27 6 = nI F ∧ rI D 27 7 = nI L - 1 ∧ F ≤ n ∧ L ≤ 31
theorem CL.onT {Z : Shp} {M : Mem} {n T F L : Nat} {D D1 : Mem} (h : CL Z M n T F L D) (w : onT T D D1) : CL Z M n T F L D1 := by
  obtain ⟨h1, h2, h3, h4, h5⟩ := h
  have h7 := h1.2.2.2.2.2.2.1
  exact ⟨h1.onT w, by rw [w.1 27 6 (by omega), h2], by rw [w.1 27 7 (by omega), h3], h4, h5⟩
theorem lint {t : Nat} (ht : t ≤ 2000) : (nI t - 1).toInt = (t : Int) - 1 := by
  have b1 : (1 : Int32).toInt = 1 := by decide
  have b2 := nI_toInt (n := t) (by omega)
  rw [subI (by omega) (by omega)]
  omega
theorem mnI_le {a b c : Int32} : c ≤ mnI a b ↔ c.toInt ≤ a.toInt ∧ c.toInt ≤ b.toInt := by
  unfold mnI
  by_cases q : b < a
  · rw [if_pos q, i32_le]
    rw [i32_lt] at q
    omega
  · rw [if_neg q, i32_le]
    rw [i32_lt] at q
    omega
/-- the latest hour of c, and whether an hour is not behind it -/
theorem lateOf_c {Z : Shp} {M : Mem} {n T F L : Nat} {D : Mem} (hZ : OKZ Z) (hn : n ≤ 8) (hT : tOk M n) (h : CL Z M n T F L D) {y s f c : Nat} (hy : y < 2 ^ n) (hs : s < 2) (hf : f ≤ n) (hc : c < n) (hb : y.testBit c = true) : ∃ v, fX9_latestOf Z D 27 (nI c) (nI y) (nI f - nI (spd M c s)) = some v ∧ v.toInt ≤ 99 ∧ ∀ t : Nat, ((max t (tf M c) : Nat) : Int) ≤ v.toInt ↔ fit M T L D y s f t c := by
  obtain ⟨h1, h6, h7, hF, hL⟩ := id h
  obtain ⟨a1, a2, a3, a4, a5, a6, a7, a8⟩ := id h1
  have h256 : 2 ^ n ≤ 256 := by
    have h4 : 2 ^ n ≤ 2 ^ 8 := Nat.pow_le_pow_right (by decide) hn
    have h5 : (2 : Nat) ^ 8 = 256 := by decide
    omega
  obtain ⟨f1, f2, f3, f4, f5⟩ := bf1 c (by omega) y (by omega)
  obtain ⟨-, ⟨u2, u3⟩, u4, u5⟩ := hT c hc
  have hix : ix (nI c) = c := ix_nI (by omega)
  have a30 : aok Z 30 100 (nI c) := aok_nI (tg_30 hZ) (by omega) (by decide)
  obtain ⟨-, sp2⟩ := spend_c hZ hn hT h1 hc hs
  have hs2 := stb_lt M c
  have hsp : spd M c s ≤ 1 := by
    unfold spd
    split
    · omega
    · split <;> omega
  unfold fX9_latestOf
  by_cases q : spd M c s ≤ f
  · have hx : nI f - nI (spd M c s) = nI (f - spd M c s) := pk_sub q
    have hyl := f5 hb
    obtain ⟨i, ei⟩ : ∃ i, i = cellN (y ^^^ 2 ^ c) (stb M c) (f - spd M c s) := ⟨_, rfl⟩
    have hi : i < 4608 := by
      rw [ei]
      unfold cellN
      omega
    have ai : aok Z T 100 (nI i) := aok_nI a8 hi (by decide)
    have hixi : ix (nI i) = i := ix_nI (by omega)
    have htb := nI_toInt (n := tb M c) (by omega)
    have hl := lint (t := L) (by omega)
    rw [hx, if_pos (nI_pos' (by omega)), if_pos (tg_27 hZ), fr_27_2 a1, if_pos a30, hix, a5, u4, h7, pu, sp2, Option.bind_some, f2, cell_c, ← ei, a6, if_pos ai, hixi]
    refine ⟨_, rfl, ?_, fun t => ?_⟩
    · have h8 : (mnI (mnI (nI (tb M c)) (nI L - 1)) (rI D T i)).toInt ≤ (mnI (nI (tb M c)) (nI L - 1)).toInt := ((mnI_le (c := mnI (mnI (nI (tb M c)) (nI L - 1)) (rI D T i))).mp ((i32_le _ _).mpr (Int.le_refl _))).1
      have h9 : (mnI (nI (tb M c)) (nI L - 1)).toInt ≤ (nI (tb M c)).toInt := ((mnI_le (c := mnI (nI (tb M c)) (nI L - 1))).mp ((i32_le _ _).mpr (Int.le_refl _))).1
      omega
    · by_cases ht : t ≤ 1000
      · have e1 := nI_toInt (n := max t (tf M c)) (by omega)
        have e2 := mnI_le (a := mnI (nI (tb M c)) (nI L - 1)) (b := rI D T i) (c := nI (max t (tf M c)))
        have e3 := mnI_le (a := nI (tb M c)) (b := nI L - 1) (c := nI (max t (tf M c)))
        rw [i32_le] at e2 e3
        unfold fit
        rw [← ei]
        constructor
        · intro h0
          have h1 := e2.mp (by omega)
          have h2 := e3.mp (by omega)
          exact ⟨hb, q, by omega, by omega, by omega⟩
        · rintro ⟨-, -, z1, z2, z3⟩
          have h2 := e3.mpr ⟨by omega, by omega⟩
          have h1 := e2.mpr ⟨by omega, by omega⟩
          omega
      · have h8 : (mnI (mnI (nI (tb M c)) (nI L - 1)) (rI D T i)).toInt ≤ (mnI (nI (tb M c)) (nI L - 1)).toInt := ((mnI_le (c := mnI (mnI (nI (tb M c)) (nI L - 1)) (rI D T i))).mp ((i32_le _ _).mpr (Int.le_refl _))).1
        have h9 : (mnI (nI (tb M c)) (nI L - 1)).toInt ≤ (nI (tb M c)).toInt := ((mnI_le (c := mnI (nI (tb M c)) (nI L - 1))).mp ((i32_le _ _).mpr (Int.le_refl _))).1
        unfold fit
        constructor
        · intro h0; omega
        · rintro ⟨-, -, z1, z2, z3⟩
          omega
  · have hx : ¬ (0 : Int32) ≤ nI f - nI (spd M c s) := by
      have := pk_sneg (a := f) (b := spd M c s) (by omega) (by omega)
      rw [i32_lt] at this
      rw [i32_le]
      omega
    refine ⟨-2, by rw [if_neg hx], by decide, fun t => ?_⟩
    have m2 : (-2 : Int32).toInt = -2 := by decide
    rw [m2]
    constructor
    · intro h0; omega
    · intro h0
      exact absurd h0.2.1 q
theorem ahead_c {Z : Shp} {M : Mem} {n T F L : Nat} {D : Mem} (hZ : OKZ Z) (hn : n ≤ 8) (hT : tOk M n) (h : CL Z M n T F L D) {y s f : Nat} (hy : y < 2 ^ n) (hs : s < 2) (hf : f ≤ n) : ∃ v, fX9_latestAhead Z D 27 (nI y) (nI s) (nI f) = some v ∧ ∀ t : Nat, ((t : Int) - 1 ≤ v.toInt ↔ ∃ c, c < n ∧ fit M T L D y s f t c) := by
  obtain ⟨h1, h6, h7, hF, hL⟩ := id h
  obtain ⟨a1, a2, a3, a4, a5, a6, a7, a8⟩ := id h1
  have h256 : 2 ^ n ≤ 256 := by
    have h4 : 2 ^ n ≤ 2 ^ 8 := Nat.pow_le_pow_right (by decide) hn
    have h5 : (2 : Nat) ^ 8 = 256 := by decide
    omega
  have m2 : (-2 : Int32).toInt = -2 := by decide
  have m1 : (1 : Int32).toInt = 1 := by decide
  unfold fX9_latestAhead
  refine loop_inv (fun s' : Int32 × Int32 => ∃ c, c ≤ n ∧ s'.2 = nI c ∧ ∀ t : Nat, ((t : Int) - 1 ≤ s'.1.toInt ↔ ∃ c', c' < c ∧ fit M T L D y s f t c')) (fun v : Int32 => ∀ t : Nat, ((t : Int) - 1 ≤ v.toInt ↔ ∃ c, c < n ∧ fit M T L D y s f t c)) (fun s' => n - ix s'.2) ?_ _ ⟨0, by omega, rfl, fun t => ⟨fun h0 => by
    have h0 : (t : Int) - 1 ≤ (-2 : Int32).toInt := h0
    rw [m2] at h0
    omega, fun ⟨c', h0, _⟩ => absurd h0 (by omega)⟩⟩
  rintro ⟨v, t0⟩ ⟨c, hc, e, hv⟩
  dsimp only at e hv
  subst e
  by_cases hcn : c = n
  · subst hcn
    exact Or.inr ⟨v, by simp [tg_27 hZ, a2], hv⟩
  have hc : c < n := by omega
  have hle := nle hc (by omega)
  have hix : ix (nI c) = c := ix_nI (by omega)
  have a29 : aok Z 29 100 (nI c) := aok_nI (tg_29 hZ) (by omega) (by decide)
  have hmu : n - ix (nI (c + 1)) < n - ix (nI c) := by
    rw [ix_nI (by omega), ix_nI (by omega)]
    omega
  obtain ⟨f1, f2, f3, f4, f5⟩ := bf1 c (by omega) y (by omega)
  obtain ⟨-, ⟨u2, u3⟩, u4, u5⟩ := hT c hc
  obtain ⟨sp1, -⟩ := spend_c hZ hn hT h1 hc hs
  have hsplit : ∀ t : Nat, (∃ c', c' < c + 1 ∧ fit M T L D y s f t c') ↔ ((∃ c', c' < c ∧ fit M T L D y s f t c') ∨ fit M T L D y s f t c) := by
    intro t
    constructor
    · rintro ⟨c', x1, x2⟩
      by_cases q : c' = c
      · subst q; exact Or.inr x2
      · exact Or.inl ⟨c', by omega, x2⟩
    · rintro (⟨c', x1, x2⟩ | x2)
      · exact ⟨c', by omega, x2⟩
      · exact ⟨c, by omega, x2⟩
  left
  by_cases d1 : y.testBit c = false
  · refine ⟨(v, nI (c + 1)), by simp [tg_27 hZ, a2, hle, f3.mpr d1, nI_succ c], ⟨c + 1, by omega, rfl, fun t => ?_⟩, hmu⟩
    rw [hsplit]
    dsimp only
    rw [hv t]
    constructor
    · exact Or.inl
    · rintro (x | x)
      · exact x
      · rw [x.1] at d1
        cases d1
  have d2 : y.testBit c = true := by simpa using d1
  have d3 := mt f3.mp d1
  obtain ⟨w, w1, w2, w3⟩ := lateOf_c hZ hn hT h hy hs hf hc d2
  have hfrom := nI_toInt (n := tf M c) (by omega)
  by_cases d4 : w < nI (tf M c)
  · refine ⟨(v, nI (c + 1)), by simp [tg_27 hZ, a2, hle, d3, sp1, w1, fr_27_1 a1, if_pos a29, hix, a4, u2, d4, nI_succ c], ⟨c + 1, by omega, rfl, fun t => ?_⟩, hmu⟩
    rw [hsplit]
    dsimp only
    rw [hv t]
    rw [i32_lt] at d4
    constructor
    · exact Or.inl
    · rintro (x | x)
      · exact x
      · have := (w3 t).mpr x
        omega
  · refine ⟨(mxI v (w - 1), nI (c + 1)), by simp [tg_27 hZ, a2, hle, d3, sp1, w1, fr_27_1 a1, if_pos a29, hix, a4, u2, d4, pu, nI_succ c], ⟨c + 1, by omega, rfl, fun t => ?_⟩, hmu⟩
    rw [i32_lt] at d4
    have hw1 := subI (a := w) (b := 1) (by omega) (by omega)
    have hmx : ((t : Int) - 1 ≤ (mxI v (w - 1)).toInt ↔ ((t : Int) - 1 ≤ v.toInt ∨ (t : Int) - 1 ≤ (w - 1).toInt)) := by
      unfold mxI
      by_cases q : v < w - 1
      · rw [if_pos q]
        rw [i32_lt] at q
        omega
      · rw [if_neg q]
        rw [i32_lt] at q
        omega
    rw [hsplit]
    dsimp only
    rw [hmx, hv t, ← w3 t]
    constructor
    · rintro (x | x)
      · exact Or.inl x
      · right; omega
    · rintro (x | x)
      · exact Or.inl x
      · right; omega
/-- the table says which rests can go through -/
def GE (M : Mem) (n T F L : Nat) (D : Mem) (y : Nat) : Prop := ∀ s f t : Nat, s < 2 → f ≤ F → t ≤ 1000 → ((t : Int) - 1 ≤ (rI D T (cellN y s f)).toInt ↔ ((y = 0 ∧ f = 0) ∨ ∃ c, c < n ∧ fit M T L D y s f t c))
theorem fit_cg {M : Mem} {n T L : Nat} {D D1 : Mem} {y s f t c : Nat} (hn : n ≤ 8) (hy : y < 256) (hf : f ≤ 8) (hc : c < 8) (h : ∀ y1 s1 f1, y1 < y → s1 < 2 → f1 < 9 → rI D1 T (cellN y1 s1 f1) = rI D T (cellN y1 s1 f1)) : fit M T L D1 y s f t c ↔ fit M T L D y s f t c := by
  unfold fit
  constructor
  · rintro ⟨h1, h2, h3, h4, h5⟩
    rw [h _ _ _ ((bf1 c hc y hy).2.2.2.2 h1) (stb_lt M c) (by omega)] at h5
    exact ⟨h1, h2, h3, h4, h5⟩
  · rintro ⟨h1, h2, h3, h4, h5⟩
    refine ⟨h1, h2, h3, h4, ?_⟩
    rw [h _ _ _ ((bf1 c hc y hy).2.2.2.2 h1) (stb_lt M c) (by omega)]
    exact h5
theorem GE.cg {M : Mem} {n T F L : Nat} {D D1 : Mem} {y : Nat} (hn : n ≤ 8) (hF : F ≤ n) (hy : y < 256) (h : GE M n T F L D y) (hc : ∀ y1 s1 f1, y1 ≤ y → s1 < 2 → f1 < 9 → rI D1 T (cellN y1 s1 f1) = rI D T (cellN y1 s1 f1)) : GE M n T F L D1 y := by
  intro s f t hs hf ht
  rw [hc y s f (Nat.le_refl y) hs (by omega), h s f t hs hf ht]
  constructor
  · rintro (x | ⟨c, x1, x2⟩)
    · exact Or.inl x
    · exact Or.inr ⟨c, x1, (fit_cg hn hy (by omega) (by omega) (fun y1 s1 f1 z1 => hc y1 s1 f1 (by omega))).mpr x2⟩
  · rintro (x | ⟨c, x1, x2⟩)
    · exact Or.inl x
    · exact Or.inr ⟨c, x1, (fit_cg hn hy (by omega) (by omega) (fun y1 s1 f1 z1 => hc y1 s1 f1 (by omega))).mp x2⟩
theorem late_c {Z : Shp} {M : Mem} {n T F L : Nat} {D : Mem} (hZ : OKZ Z) (hn : n ≤ 8) (hT : tOk M n) (h : CL Z M n T F L D) : ∃ D1, fX9_fillLatest Z D 27 = some D1 ∧ onT T D D1 ∧ ∀ y, y < 2 ^ n → GE M n T F L D1 y := by
  obtain ⟨h1, h6, h7, hF, hL⟩ := id h
  obtain ⟨a1, a2, a3, a4, a5, a6, a7, a8⟩ := id h1
  have h256 : 2 ^ n ≤ 256 := by
    have h4 : 2 ^ n ≤ 2 ^ 8 := Nat.pow_le_pow_right (by decide) hn
    have h5 : (2 : Nat) ^ 8 = 256 := by decide
    omega
  have hp0 : 0 < 2 ^ n := Nat.two_pow_pos n
  have m1000 : (1000 : Int32).toInt = 1000 := by decide
  have m2 : (-2 : Int32).toInt = -2 := by decide
  have c000 : fX9_cell (0 : Int32) (0 : Int32) (0 : Int32) = nI (cellN 0 0 0) := cell_c (y := 0) (s := 0) (f := 0)
  have c010 : fX9_cell (0 : Int32) (1 : Int32) (0 : Int32) = nI (cellN 0 1 0) := cell_c (y := 0) (s := 1) (f := 0)
  have aT0 : aok Z T 100 (nI (cellN 0 0 0)) := aok_nI a8 (by decide) (by decide)
  have aT1 : aok Z T 100 (nI (cellN 0 1 0)) := aok_nI a8 (by decide) (by decide)
  have hix0 : ix (nI (cellN 0 0 0)) = cellN 0 0 0 := ix_nI (by decide)
  have hix1 : ix (nI (cellN 0 1 0)) = cellN 0 1 0 := ix_nI (by decide)
  obtain ⟨D0, eD0⟩ : ∃ D0, D0 = wI (wI (stN T (-2) D 4608) T (cellN 0 0 0) 1000) T (cellN 0 1 0) 1000 := ⟨_, rfl⟩
  have w0 : onT T D D0 := by
    rw [eD0]
    refine ⟨fun a k ha => ?_, fun a k => ?_, fun a k => ?_⟩
    · rw [rI_wI, if_neg (fun e => ha e.1), rI_wI, if_neg (fun e => ha e.1), rI_stN, if_neg (fun e => ha e.1)]
    · rw [rJ_wI, rJ_wI, rJ_stN]
    · rw [rR_wI, rR_wI, rR_stN]
  have g0 : GE M n T F L D0 0 := by
    intro s f t hs hf ht
    have hnofit : ¬ ∃ c, c < n ∧ fit M T L D0 0 s f t c := by
      rintro ⟨c, -, x, -⟩
      rw [Nat.zero_testBit] at x
      cases x
    have hs2 : s = 0 ∨ s = 1 := by omega
    by_cases q : f = 0
    · subst q
      have e : rI D0 T (cellN 0 s 0) = 1000 := by
        rw [eD0, rI_wI]
        rcases hs2 with rfl | rfl
        · rw [if_neg (fun e => absurd e.2 (by decide)), rI_wI, if_pos ⟨rfl, rfl⟩]
        · rw [if_pos ⟨rfl, rfl⟩]
      rw [e, m1000]
      exact ⟨fun _ => Or.inl ⟨rfl, rfl⟩, fun _ => by omega⟩
    · have e : rI D0 T (cellN 0 s f) = -2 := by
        have n0 : cellN 0 s f ≠ cellN 0 0 0 := fun e => by
          have := cell_inj hs (by omega) (by decide) (by decide) e
          omega
        have n1 : cellN 0 s f ≠ cellN 0 1 0 := fun e => by
          have := cell_inj hs (by omega) (by decide) (by decide) e
          omega
        rw [eD0, rI_wI, if_neg (fun e => n1 e.2), rI_wI, if_neg (fun e => n0 e.2), rI_stN, if_pos]
        refine ⟨rfl, ?_⟩
        unfold cellN
        omega
      rw [e, m2]
      constructor
      · intro x; omega
      · rintro (x | x)
        · exact absurd x.2 q
        · exact absurd x hnofit
  unfold fX9_fillLatest
  rw [if_pos (tg_27 hZ), a6, fill_c a8 (by decide), Option.bind_some, rR_stN, a6, c000, if_pos aT0, hix0, pu, rR_wI, rR_stN, a6, c010, if_pos aT1, hix1, pu, ← eD0]
  refine loop_inv (fun s : Int32 × Mem => ∃ x, 1 ≤ x ∧ x ≤ 2 ^ n ∧ s.1 = nI x ∧ onT T D s.2 ∧ ∀ y, y < x → GE M n T F L s.2 y) (fun D1 => onT T D D1 ∧ ∀ y, y < 2 ^ n → GE M n T F L D1 y) (fun s => 2 ^ n - ix s.1) ?_ _ ⟨1, by omega, by omega, rfl, w0, fun y hy => by rw [show y = 0 by omega]; exact g0⟩
  rintro ⟨s, D3⟩ ⟨x, hx1, hx, e, w, gE⟩
  dsimp only at e w gE
  subst e
  have hC3 := h.onT w
  have b2 := hC3.1.2.1
  have hsh := sh8 hn
  by_cases hxn : x = 2 ^ n
  · subst hxn
    exact Or.inr ⟨D3, by simp [b2, hsh], w, gE⟩
  have hx : x < 2 ^ n := by omega
  have hle := nle hx (by omega)
  left
  dsimp only
  rw [b2, hsh, if_neg hle]
  obtain ⟨o, o1, D4, o2, o3, o4⟩ := loop_inv (f := (fun s12 : Int32 × Mem => (if (rI s12.2 27 6) < s12.1 then some (Sum.inr (Sum.inl (β := Mem) (((nI x) + (1 : Int32)), s12.2))) else (Option.bind (fX9_latestAhead Z s12.2 27 (nI x) (0 : Int32) s12.1) (fun v16 => (if aok Z (rR s12.2 27 9) 100 (fX9_cell (nI x) (0 : Int32) s12.1) then (pu (wI s12.2 (rR s12.2 27 9) (ix (fX9_cell (nI x) (0 : Int32) s12.1)) v16) (fun M19 => (Option.bind (fX9_latestAhead Z M19 27 (nI x) (1 : Int32) s12.1) (fun v20 => (if aok Z (rR M19 27 9) 100 (fX9_cell (nI x) (1 : Int32) s12.1) then (pu (wI M19 (rR M19 27 9) (ix (fX9_cell (nI x) (1 : Int32) s12.1)) v20) (fun M23 => some (Sum.inl ((s12.1 + (1 : Int32)), M23)))) else none))))) else none))))))
    (fun s : Int32 × Mem => ∃ f, f ≤ F + 1 ∧ s.1 = nI f ∧ onT T D s.2 ∧ (∀ y, y < x → GE M n T F L s.2 y) ∧ ∀ s' f' t : Nat, s' < 2 → f' < f → t ≤ 1000 → ((t : Int) - 1 ≤ (rI s.2 T (cellN x s' f')).toInt ↔ ∃ c, c < n ∧ fit M T L s.2 x s' f' t c)) (fun o => ∃ D4, o = Sum.inl (nI (x + 1), D4) ∧ onT T D D4 ∧ ∀ y, y < x + 1 → GE M n T F L D4 y) (fun s => F + 1 - ix s.1) (by
    rintro ⟨s, D5⟩ ⟨f, hf, e, w5, gE5, gx⟩
    dsimp only at e w5 gE5 gx
    subst e
    have hC5 := h.onT w5
    obtain ⟨hM5, q6, q7, -, -⟩ := id hC5
    obtain ⟨e1, e2, e3, e4, e5, e6, e7, e8⟩ := id hM5
    have hlt : nI F < nI f ↔ F < f := nI_ltI (by omega) (by omega)
    by_cases hfn : F < f
    · refine Or.inr ⟨Sum.inl (nI (x + 1), D5), ?_, D5, rfl, w5, fun y hy => ?_⟩
      · dsimp only
        rw [q6, if_pos (hlt.mpr hfn), nI_1]
      · by_cases c : y = x
        · subst c
          intro s' f' t hs' hf' ht
          rw [gx s' f' t hs' (by omega) ht]
          constructor
          · exact Or.inr
          · rintro (z | z)
            · omega
            · exact z
        · exact gE5 y (by omega)
    have hfF : f ≤ F := by omega
    obtain ⟨v, v1, v2⟩ := ahead_c hZ hn hT hC5 hx (show 0 < 2 by omega) (show f ≤ n by omega)
    have hc0 : fX9_cell (nI x) 0 (nI f) = nI (cellN x 0 f) := cell_c (s := 0)
    have hc1 : fX9_cell (nI x) 1 (nI f) = nI (cellN x 1 f) := cell_c (s := 1)
    have i0 : cellN x 0 f < 4608 := by unfold cellN; omega
    have i1 : cellN x 1 f < 4608 := by unfold cellN; omega
    have b0 : aok Z T 100 (nI (cellN x 0 f)) := aok_nI a8 i0 (by decide)
    have b1 : aok Z T 100 (nI (cellN x 1 f)) := aok_nI a8 i1 (by decide)
    have j0 : ix (nI (cellN x 0 f)) = cellN x 0 f := ix_nI (by omega)
    have j1 : ix (nI (cellN x 1 f)) = cellN x 1 f := ix_nI (by omega)
    have w6 := w5.sI (cellN x 0 f) v
    have hC6 := h.onT w6
    obtain ⟨u, u1, u2⟩ := ahead_c hZ hn hT hC6 hx (show 1 < 2 by omega) (show f ≤ n by omega)
    obtain ⟨D7, eD7⟩ : ∃ D7, D7 = wI (wI D5 T (cellN x 0 f) v) T (cellN x 1 f) u := ⟨_, rfl⟩
    have kp : ∀ y1 s1 f1, s1 < 2 → f1 < 9 → ¬ (y1 = x ∧ f1 = f) → rI D7 T (cellN y1 s1 f1) = rI D5 T (cellN y1 s1 f1) := by
      intro y1 s1 f1 z1 z2 z3
      rw [eD7, rI_wI, if_neg, rI_wI, if_neg]
      · rintro ⟨-, z⟩
        have := cell_inj z1 z2 (by decide) (by omega) z
        omega
      · rintro ⟨-, z⟩
        have := cell_inj z1 z2 (by decide) (by omega) z
        omega
    have kp6 : ∀ y1 s1 f1, y1 < x → s1 < 2 → f1 < 9 → rI (wI D5 T (cellN x 0 f) v) T (cellN y1 s1 f1) = rI D5 T (cellN y1 s1 f1) := by
      intro y1 s1 f1 z0 z1 z2
      rw [rI_wI, if_neg]
      rintro ⟨-, z⟩
      have := cell_inj z1 z2 (by decide) (by omega) z
      omega
    have ft : ∀ s1 f1 t c, f1 ≤ 8 → c < n → (fit M T L D7 x s1 f1 t c ↔ fit M T L D5 x s1 f1 t c) := fun s1 f1 t c z1 z2 => fit_cg hn (by omega) z1 (by omega) (fun y1 s2 f2 z3 z4 z5 => kp y1 s2 f2 z4 z5 (by omega))
    have ft6 : ∀ s1 f1 t c, f1 ≤ 8 → c < n → (fit M T L (wI D5 T (cellN x 0 f) v) x s1 f1 t c ↔ fit M T L D5 x s1 f1 t c) := fun s1 f1 t c z1 z2 => fit_cg hn (by omega) z1 (by omega) (fun y1 s2 f2 z3 z4 z5 => kp6 y1 s2 f2 z3 z4 z5)
    refine Or.inl ⟨(nI (f + 1), D7), ?_, ⟨f + 1, by omega, rfl, by rw [eD7]; exact w6.sI _ _, fun y hy => (gE5 y hy).cg hn hF (by omega) (fun y1 s1 f1 z1 z2 z3 => kp y1 s1 f1 z2 z3 (by omega)), fun s1 f1 t z1 z2 z3 => ?_⟩, ?_⟩
    · dsimp only
      rw [q6, if_neg (mt hlt.mp hfn)]
      rw [show (0 : Int32) = nI 0 from rfl] at hc0 ⊢
      rw [show (1 : Int32) = nI 1 from rfl] at hc1 ⊢
      simp only [pu, rR_wI, e6]
      rw [v1, Option.bind_some, hc0, if_pos b0, j0, u1, Option.bind_some, hc1, if_pos b1, j1, eD7, nI_add]
    · show ((t : Int) - 1 ≤ (rI D7 T (cellN x s1 f1)).toInt ↔ ∃ c, c < n ∧ fit M T L D7 x s1 f1 t c)
      have hex : (∃ c, c < n ∧ fit M T L D7 x s1 f1 t c) ↔ ∃ c, c < n ∧ fit M T L D5 x s1 f1 t c := by
        constructor
        · rintro ⟨c, y1, y2⟩
          exact ⟨c, y1, (ft s1 f1 t c (by omega) y1).mp y2⟩
        · rintro ⟨c, y1, y2⟩
          exact ⟨c, y1, (ft s1 f1 t c (by omega) y1).mpr y2⟩
      rw [hex]
      by_cases c : f1 = f
      · subst c
        have hs1 : s1 = 0 ∨ s1 = 1 := by omega
        rcases hs1 with rfl | rfl
        · have e : rI D7 T (cellN x 0 f1) = v := by
            rw [eD7, rI_wI, if_neg, rI_wI, if_pos ⟨rfl, rfl⟩]
            rintro ⟨-, z⟩
            have := cell_inj (by decide) (by omega) (by decide) (by omega) z
            omega
          rw [e]
          exact v2 t
        · have e : rI D7 T (cellN x 1 f1) = u := by rw [eD7, rI_wI, if_pos ⟨rfl, rfl⟩]
          rw [e, u2 t]
          constructor
          · rintro ⟨c, y1, y2⟩
            exact ⟨c, y1, (ft6 1 f1 t c (by omega) y1).mp y2⟩
          · rintro ⟨c, y1, y2⟩
            exact ⟨c, y1, (ft6 1 f1 t c (by omega) y1).mpr y2⟩
      · rw [kp x s1 f1 z1 (by omega) (by omega)]
        exact gx s1 f1 t z1 (by omega) z3
    · dsimp only
      rw [ix_nI (by omega), ix_nI (by omega)]
      omega) ((0 : Int32), D3) ⟨0, by omega, rfl, w, gE, fun s' f' t _ h0 => absurd h0 (by omega)⟩
  refine ⟨(nI (x + 1), D4), ?_, ⟨x + 1, by omega, by omega, rfl, o3, o4⟩, ?_⟩
  · rw [o2] at o1
    exact o1
  · dsimp only
    rw [ix_nI (by omega), ix_nI (by omega)]
    omega
