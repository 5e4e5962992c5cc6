/-! texts -/
def TS (M : Mem) (x : Nat) : List Mk → Prop
  | [] => True
  | m :: R => rI M 84 (60 * x + R.length) = nI m.1 ∧ rI M 85 (60 * x + R.length) = m.2 ∧ m.1 < 100 ∧ TS M x R
theorem TS_eq {M M1 : Mem} {x : Nat} : ∀ R, (∀ k, k < R.length → rI M1 84 (60 * x + k) = rI M 84 (60 * x + k) ∧ rI M1 85 (60 * x + k) = rI M 85 (60 * x + k)) → TS M x R → TS M1 x R := by
  intro R
  induction R with
  | nil => exact fun _ _ => trivial
  | cons m R ih =>
    intro h h1
    have h2 := h R.length (by simp)
    exact ⟨by rw [h2.1]; exact h1.1, by rw [h2.2]; exact h1.2.1, h1.2.2.1, ih (fun k hk => h k (by simp; omega)) h1.2.2.2⟩
theorem TS_RS {M M1 : Mem} {x : Nat} : ∀ R, (∀ k, k < R.length → rI M1 84 (60 * x + k) = rI M 86 k ∧ rI M1 85 (60 * x + k) = rI M 87 k) → RS M R → TS M1 x R := by
  intro R
  induction R with
  | nil => exact fun _ _ => trivial
  | cons m R ih =>
    intro h h1
    have h2 := h R.length (by simp)
    exact ⟨by rw [h2.1]; exact h1.1, by rw [h2.2]; exact h1.2.1, h1.2.2.1, ih (fun k hk => h k (by simp; omega)) h1.2.2.2⟩
/-- the letters and the marks of a text say the same -/
def txC (g : Nat → Int32) (n q : Nat) (R : List Mk) : Prop := (n ≤ q ∧ R = []) ∨ (q < n ∧ ∀ e, ∃ b, rpn e R = some [b] ∧ cval g n e q = if b = true then 1 else 0)
def txOk (Z : Shp) (M : Mem) (x : Nat) : Prop := (110 ≤ rR M 26 x ∧ tg Z (rR M 26 x) = (9, 6)) ∧ rI M (rR M 26 x) 1 = rI M 79 x ∧ rI M (rR M 26 x) 2 = rI M 80 x ∧ rI M (rR M 26 x) 4 = rI M 81 x ∧ rI M (rR M 26 x) 5 = rI M 82 x ∧ (0 ≤ (rI M 80 x).toInt ∧ (rI M 80 x).toInt ≤ 9999) ∧ ∃ n q R, n ≤ 60 ∧ (110 ≤ rR M (rR M 26 x) 0 ∧ tg Z (rR M (rR M 26 x) 0) = (102, n)) ∧ rI M (rR M 26 x) 3 = nI q ∧ 0 < q ∧ q ≤ 100 ∧ rI M 83 x = nI R.length ∧ R.length ≤ 60 ∧ TS M x R ∧ txC (rI M (rR M (rR M 26 x) 0)) n q R
def ITexts (Z : Shp) (M : Mem) : Prop := ∃ t, t ≤ 16 ∧ rI M 24 3 = nI t ∧ rI M 51 35 = nI t ∧ (∀ x, x < t → txOk Z M x) ∧ ∀ j k, j < k → k < t → rR M 26 j ≠ rR M 26 k
abbrev FTx : List (Nat × Option Nat) := [(24, some 3), (51, some 35), (79, none), (80, none), (81, none), (82, none), (83, none), (84, none), (85, none)]
theorem txOk.keep {Z Z1 : Shp} {M M1 : Mem} {x : Nat} (h : txOk Z M x) (hE : Ext Z Z1) (r26 : rR M1 26 x = rR M 26 x) (r79 : rI M1 79 x = rI M 79 x) (r80 : rI M1 80 x = rI M 80 x) (r81 : rI M1 81 x = rI M 81 x) (r82 : rI M1 82 x = rI M 82 x) (r83 : rI M1 83 x = rI M 83 x) (r84 : ∀ k, k < 60 → rI M1 84 (60 * x + k) = rI M 84 (60 * x + k)) (r85 : ∀ k, k < 60 → rI M1 85 (60 * x + k) = rI M 85 (60 * x + k)) (q5 : ∀ j, rI M1 (rR M 26 x) j = rI M (rR M 26 x) j) (q6 : ∀ j, rR M1 (rR M 26 x) j = rR M (rR M 26 x) j) (q7 : ∀ j, rI M1 (rR M (rR M 26 x) 0) j = rI M (rR M (rR M 26 x) 0) j) : txOk Z1 M1 x := by
  obtain ⟨⟨a1, a2⟩, a3, a4, a5, a6, a7, n, q, R, b1, ⟨b2, b3⟩, b4, b5, b6, b7, b8, b9, b10⟩ := h
  unfold txOk
  rw [r26, r79, r80, r81, r82, r83, q5, q5, q5, q5, q5, q6, show rI M1 (rR M (rR M 26 x) 0) = rI M (rR M (rR M 26 x) 0) from funext q7]
  exact ⟨⟨a1, hE _ _ _ (by omega) a2⟩, a3, a4, a5, a6, a7, n, q, R, b1, ⟨b2, hE _ _ _ (by omega) b3⟩, b4, b5, b6, b7, b8, TS_eq R (fun k hk => ⟨r84 k (by omega), r85 k (by omega)⟩) b9, b10⟩
theorem ITexts.keep {Z Z1 : Shp} {L : List (Nat × Option Nat)} {ts LR : List Nat} {M M1 : Mem} (h : ITexts Z M) (hE : Ext Z Z1) (w : Wr Z1 L ts LR M M1) (hd : dis L FTx = true) (hL : L.all (fun p => decide (p.1 < 110)) = true) (ht : 9 ∉ ts) (ht2 : 102 ∉ ts) (hR : LR.contains 26 = false) (hR2 : LR.all (fun p => decide (p < 110)) = true) : ITexts Z1 M1 := by
  obtain ⟨t, hn, h1, h2, h3, h4⟩ := h
  have r26 := fun k => w.rowR (a := 26) (by omega) hR k
  refine ⟨t, hn, ?_, ?_, ?_, ?_⟩
  · rw [w.at hd (a := 24) (k := 3) (by simp) (by omega)]
    exact h1
  · rw [w.at hd (a := 51) (k := 35) (by simp) (by omega)]
    exact h2
  · intro x hx
    have hx0 := h3 x hx
    obtain ⟨⟨q1, q2⟩, -, -, -, -, -, n, q, R, -, ⟨b2, b3⟩, -⟩ := h3 x hx
    have q4 := hE _ _ _ (by omega) q2
    have b4 := hE _ _ _ (by omega) b3
    refine hx0.keep hE (r26 x) (w.row hd (a := 79) (by simp) (by omega) x) (w.row hd (a := 80) (by simp) (by omega) x) (w.row hd (a := 81) (by simp) (by omega) x) (w.row hd (a := 82) (by simp) (by omega) x) (w.row hd (a := 83) (by simp) (by omega) x) (fun k _ => w.row hd (a := 84) (by simp) (by omega) _) (fun k _ => w.row hd (a := 85) (by simp) (by omega) _) (fun j => w.dyn hL q1 (by rw [q4]; exact ht) j) (fun j => w.dynR (fun h => ?_) (by rw [q4]; exact ht) j) (fun j => w.dyn hL b2 (by rw [b4]; exact ht2) j)
    have := List.all_eq_true.mp hR2 _ h
    simp at this
    omega
  · intro j k
    rw [r26, r26]
    exact h4 j k
theorem nv_bd {g : Nat → Int32} {i : Nat} : ∀ d, d ≤ 4 → (∀ k, k < d → ¬ fX2_isDigit (g (i + k)) = 0) → 0 ≤ (nv g i d).toInt ∧ (nv g i d).toInt ≤ 10 ^ d - 1 := by
  intro d
  induction d with
  | zero => exact fun _ _ => ⟨by rw [nv]; decide, by rw [nv]; decide⟩
  | succ d ih =>
    intro hd h
    obtain ⟨h1, h2⟩ := ih (by omega) (fun k hk => h k (by omega))
    have h3 := h d (by omega)
    have h4 : 48 ≤ (g (i + d)).toInt ∧ (g (i + d)).toInt ≤ 57 := by
      have := w_rng (x := g (i + d)) (a := 48) (b := 57) h3
      rw [show (48 : Int32).toInt = 48 by decide, show (57 : Int32).toInt = 57 by decide] at this
      exact this
    have hp : (10 : Int) ^ d ≤ 1000 := by
      have : d = 0 ∨ d = 1 ∨ d = 2 ∨ d = 3 := by omega
      rcases this with rfl | rfl | rfl | rfl <;> decide
    have m10 : (10 : Int32).toInt = 10 := by decide
    have m48 : (48 : Int32).toInt = 48 := by decide
    have e1 : ((10 : Int32) * nv g i d).toInt = 10 * (nv g i d).toInt := by
      rw [mulI (by omega) (by omega) (by omega) (by omega), m10]
    have e2 : ((10 : Int32) * nv g i d + g (i + d)).toInt = 10 * (nv g i d).toInt + (g (i + d)).toInt := by
      rw [addI (by omega) (by omega), e1]
    rw [nv, subI (by omega) (by omega), e2, m48, Int.pow_succ]
    omega
/-- the object of a text is made -/
theorem init_c {Z : Shp} {M : Mem} {T A n : Nat} (hT : tg Z T = (9, 6)) (hA : tg Z A = (102, n)) (hn : n ≤ 60) (hn2 : 2 ≤ n) (hne : A ≠ T) : fX8_init Z M T A = some (wI (wI (wI (wR (wI M T 5 99) T 0 A) T 1 (if rI M A 0 = 67 then 1 else 0)) T 2 (nv (rI M A) 2 (drun (rI M A) 2 (n - 2)))) T 3 (nI (2 + drun (rI M A) 2 (n - 2)) + 1)) := by
  have hn0 : ¬ nI n ≤ 0 := nI_nle (by omega) (by omega)
  have a0 : aok Z A 102 0 := aok_nI (k := 0) hA (by omega) (by omega)
  have rA : ∀ v j, rI (wI (wR (wI M T 5 99) T 0 A) T 1 v) A j = rI M A j := by
    intro v j
    simp [rI_wI, rI_wR, hne]
  have rA0 : ∀ j, rI (wR (wI M T 5 99) T 0 A) A j = rI M A j := by
    intro j
    simp [rI_wI, rI_wR, hne]
  unfold fX8_init
  simp only [if_pos hT, pu, hA, if_true, if_neg hn0, if_pos a0, show ix (0 : Int32) = 0 by decide, rA0]
  have hact : (if rI M A 0 = 67 then some (1 : Int32) else some 0) = some (if rI M A 0 = 67 then 1 else 0) := by split <;> rfl
  rw [hact, Option.bind_some]
  have e := drun_end (g := rI M A) (n - 2) 2
  refine bindL (loop_for (s0 := ((2 : Int32), (0 : Int32))) (fun d => (nI (2 + d), nv (rI M A) 2 d)) (drun (rI M A) 2 (n - 2)) (r := (nI (2 + drun (rI M A) 2 (n - 2)), nv (rI M A) 2 (drun (rI M A) 2 (n - 2)))) rfl (fun d hd => ?_) ?_) rfl
  · have h1 := drun_dig _ _ _ hd
    have ad : aok Z A 102 (nI (2 + d)) := aok_nI hA (by omega) (by omega)
    have hix : ix (nI (2 + d)) = 2 + d := ix_nI (by omega)
    have hle := nle (show 2 + d < n by omega) (by omega)
    dsimp only
    rw [if_neg hle, if_pos ad, hix, rA, if_neg h1.1, nv, nI_1]
    rfl
  · dsimp only
    by_cases q : 2 + drun (rI M A) 2 (n - 2) = n
    · rw [q, if_pos (by rw [i32_le]; omega)]
    · have h2 : fX2_isDigit (rI M A (2 + drun (rI M A) 2 (n - 2))) = 0 := by
        rcases e.2 with h | h
        · omega
        · exact h
      have ad : aok Z A 102 (nI (2 + drun (rI M A) 2 (n - 2))) := aok_nI hA (by omega) (by omega)
      have hix : ix (nI (2 + drun (rI M A) 2 (n - 2))) = 2 + drun (rI M A) 2 (n - 2) := ix_nI (by omega)
      rw [if_neg (nle (by omega) (by omega)), if_pos ad, hix, rA, if_pos h2]
/-- is it a text? -/
theorem txt_no {Z : Shp} {M0 M1 : Mem} {g : Nat → Int32} {n : Nat} {x : Int32} (hn : n ≤ 60) (h : SI Z M0 g n n M1 x) (h1 : fX11_within x 3 6 = 0) (h2 : fX11_within x 10 13 = 0) : (if rI M1 51 43 = 3 then some (1 : Int32) else if rI M1 51 43 < 7 then some 0 else if rI M1 51 44 = 0 then some 1 else some 0) = some 0 := by
  rcases h with ⟨-, h1, -⟩ | ⟨-, h1, -⟩ | ⟨-, h1, -⟩ | ⟨d, -, a1, rfl, -, -, -, -, a2, a3, a4, a5⟩ | ⟨d, dep, W, R, hA, hN, hq, hS, h44, hdp, hc⟩
  · simp [h1]
  · simp [h1]
  · simp [h1]
  · exfalso
    refine w_of (x := nI (2 + d)) (a := 3) (b := 6) ?_ ?_ h1
    · rw [nI_toInt (by omega), show (3 : Int32).toInt = 3 by decide]; omega
    · rw [nI_toInt (by omega), show (6 : Int32).toInt = 6 by decide]; omega
  · have hdep : dep ≠ 0 → ¬ rI M1 51 44 = 0 := by
      intro h
      rw [h44]
      exact nI_ne0 (by omega) (by omega)
    rcases hc with ⟨a1, -⟩ | ⟨a1, -⟩ | ⟨s, c, L, sg, -, -, ⟨-, a1, -⟩ | ⟨b1, b2, a1, rfl, -⟩, -⟩ | ⟨a1, rfl, -⟩
    · simp [a1]
    · simp [a1]
    · simp [a1]
    · by_cases d0 : dep = 0
      · exfalso
        subst d0
        refine w_of (x := nI (9 + c + 16 * 0)) (a := 10) (b := 13) ?_ ?_ h2
        · rw [nI_toInt (by omega), show (10 : Int32).toInt = 10 by decide]; omega
        · rw [nI_toInt (by omega), show (13 : Int32).toInt = 13 by decide]; omega
      · rw [a1, if_neg (by decide), if_neg (by decide), if_neg (hdep d0)]
    · by_cases d0 : dep = 0
      · exfalso
        subst d0
        exact absurd h2 (by decide)
      · rw [a1, if_neg (by decide), if_neg (by decide), if_neg (hdep d0)]
theorem k8_end {g : Nat → Int32} {n q : Nat} {W : List Nat} {R : List Mk} (hK : K8 g n q n W R 0) : (ld 17 W R).1 = [] ∧ R ≠ [] ∧ ∀ e, ∃ b, rpn e (ld 17 W R).2 = some [b] ∧ cval g n e q = if b = true then 1 else 0 := by
  have key : ∀ e, (ld 17 W R).1 = [] ∧ R ≠ [] ∧ ∃ b, rpn e (ld 17 W R).2 = some [b] ∧ cval g n e q = if b = true then 1 else 0 := by
    intro e
    obtain ⟨D, v, k1, k2, k3, k4⟩ := hK e
    obtain ⟨f, E, rfl, hE⟩ := ne_cons k4
    have hE0 : E = [] := List.eq_nil_of_length_eq_zero hE
    subst hE0
    subst k2
    obtain ⟨p1, p2⟩ := ld17 k1
    refine ⟨p1, fun h => ?_, res v f, p2, ?_⟩
    · rw [h] at k1
      cases k1
    · have hval := wd_val k3
      have hr : (f.2.2.getD false || (f.2.1.getD true && (v != od f.1))) = res v f := rfl
      unfold cval
      by_cases c : lg_cmp (((cw g n e q (n - q)).1 ||| (cw g n e q (n - q)).2.1) &&& 1) 0 = 0
      · have := hval.mp c
        dsimp only at this
        rw [hr] at this
        rw [if_pos c, this]
        rfl
      · have := mt hval.mpr c
        dsimp only at this
        rw [hr, Bool.not_eq_false] at this
        rw [if_neg c, this]
        rfl
  exact ⟨(key (fun _ => 0)).1, (key (fun _ => 0)).2.1, fun e => (key e).2.2⟩
theorem txt_yes {Z : Shp} {M0 M1 : Mem} {g : Nat → Int32} {n : Nat} {x : Int32} (hZ : OKZ Z) (hF : Fix M0) (hn : n ≤ 60) (h : SI Z M0 g n n M1 x) (hy : ¬ fX11_within x 3 6 = 0 ∨ ¬ fX11_within x 10 13 = 0) : (if rI M1 51 43 = 3 then some (1 : Int32) else if rI M1 51 43 < 7 then some 0 else if rI M1 51 44 = 0 then some 1 else some 0) = some 1 ∧ ∃ Me M2 d R, fX12_endNumber Z M1 51 = some Me ∧ fX12_layDown Z Me 51 17 = some M2 ∧ Sc Z M0 M2 [] R ∧ hdA g M2 ∧ hdN g d M2 ∧ R.length ≤ 60 ∧ 2 + d ≤ n ∧ (2 + d = n ∨ fX2_isDigit (g (2 + d)) = 0) ∧ txC g n (d + 3) R := by
  have noW : ∀ y, (y = 0 ∨ y = 1 ∨ y = 2) → ¬ (¬ fX11_within y 3 6 = 0 ∨ ¬ fX11_within y 10 13 = 0) := by
    rintro y (rfl | rfl | rfl) <;> decide
  have big : ∀ y : Nat, y < 2000 → (¬ fX11_within (nI y) 3 6 = 0 ∨ ¬ fX11_within (nI y) 10 13 = 0) → (3 ≤ y ∧ y ≤ 6) ∨ (10 ≤ y ∧ y ≤ 13) := by
    intro y hy h
    have m3 : (3 : Int32).toInt = 3 := by decide
    have m6 : (6 : Int32).toInt = 6 := by decide
    have m10 : (10 : Int32).toInt = 10 := by decide
    have m13 : (13 : Int32).toInt = 13 := by decide
    have my := nI_toInt (n := y) (by omega)
    rcases h with h | h
    · have := w_rng h; omega
    · have := w_rng h; omega
  rcases h with ⟨-, h1, rfl, -⟩ | ⟨-, h1, rfl, -⟩ | ⟨-, h1, rfl, -⟩ | ⟨d, a0, a1, rfl, -, -, aS, aA, aN⟩ | ⟨d, dep, W, R, hA, hN, hq, hS, h44, hdp, hc⟩
  · exact absurd hy (noW 0 (Or.inl rfl))
  · exact absurd hy (noW 1 (Or.inr (Or.inl rfl)))
  · exact absurd hy (noW 2 (Or.inr (Or.inr rfl)))
  · refine ⟨by simp [a1], ?_⟩
    obtain ⟨M2, g1, g2, g3⟩ := layDown_m hZ hF (y := 17) (by omega) [] [] M1 aS (by simp)
    obtain ⟨hA2, hN2⟩ := hd_keep (M1 := M2) aA aN (g3 46 (by omega) (by omega)) (g3 47 (by omega) (by omega))
    exact ⟨M1, M2, d, [], (end_m hZ hF aS (by simp)).1 (by rw [a1]; decide), g1, g2, hA2, hN2, by simp, by omega, Or.inl (by omega), Or.inl ⟨by omega, rfl⟩⟩
  · have fin : ∀ Me R1, fX12_endNumber Z M1 51 = some Me → Sc Z M0 Me W R1 → W.length + R1.length + (d + 3) ≤ n → (∀ k, k ≠ 53 → rI Me 51 k = rI M1 51 k) → K8 g n (d + 3) n W R1 0 → ∃ Me M2 d R, fX12_endNumber Z M1 51 = some Me ∧ fX12_layDown Z Me 51 17 = some M2 ∧ Sc Z M0 M2 [] R ∧ hdA g M2 ∧ hdN g d M2 ∧ R.length ≤ 60 ∧ 2 + d ≤ n ∧ (2 + d = n ∨ fX2_isDigit (g (2 + d)) = 0) ∧ txC g n (d + 3) R := by
      intro Me R1 e1 e2 e3 e4 e5
      obtain ⟨M2, g1, g2, g3⟩ := layDown_m hZ hF (y := 17) (by omega) W R1 Me e2 (by omega)
      obtain ⟨p1, p2, p3⟩ := k8_end e5
      have hll := ld_len 17 W R1
      rw [p1] at g2 hll
      obtain ⟨hA2, hN2⟩ := hd_keep (M1 := M2) hA hN (by rw [g3 46 (by omega) (by omega), e4 46 (by omega)]) (by rw [g3 47 (by omega) (by omega), e4 47 (by omega)])
      have hR1 : 0 < R1.length := by
        cases R1 with
        | nil => exact absurd rfl p2
        | cons _ _ => simp
      refine ⟨Me, M2, d, (ld 17 W R1).2, e1, g1, g2, hA2, hN2, by simp at hll; omega, by omega, Or.inr (by rw [hq]; decide), Or.inr ⟨by omega, p3⟩⟩
    rcases hc with ⟨a1, rfl, -⟩ | ⟨a1, rfl, -⟩ | ⟨s, c, L, sg, h1, h2, hcc, h4, h5, h6, h7, h8, h9, h10, h11⟩ | ⟨a1, rfl, h2, h3⟩
    · have := big _ (by omega) hy; omega
    · have := big _ (by omega) hy; omega
    · rcases hcc with ⟨-, a1, rfl⟩ | ⟨b1, b2, a1, rfl, h45, h48⟩
      · have := big _ (by omega) hy; omega
      · have hd0 : dep = 0 := by
          have := big _ (by omega) hy
          omega
        subst hd0
        have h440 : rI M1 51 44 = 0 := h44
        refine ⟨by rw [a1, h440]; decide, ?_⟩
        obtain ⟨Me, e1, e2, e3⟩ := (end_m hZ hF hS (by omega)).2 L sg h6 h7 a1 h8 h9
        rw [h48] at e2
        exact fin Me _ e1 e2 (by simp; omega) e3 (k68 h1 (by omega) (by omega) h4 (Or.inl rfl) h5 h10 h11 (by omega))
    · have hd0 : dep = 0 := by
        have := big _ (by omega) hy
        omega
      subst hd0
      have h440 : rI M1 51 44 = 0 := h44
      refine ⟨by rw [a1, h440]; decide, ?_⟩
      exact fin M1 R ((end_m hZ hF hS (by omega)).1 (by rw [a1]; decide)) hS h2 (fun _ _ => rfl) h3
