/-! texts: who speaks -/
noncomputable def spB (Z : Shp) (M : Mem) (w : Int32) (a : Nat) (y : Int32) (x : Nat) : Bool := !decide (fX8_speaksFor Z M (rR M 26 x) w a y = some 0)
abbrev F89 : List (Nat × Option Nat) := [(89, none)]
abbrev FRd : List (Nat × Option Nat) := [(51, none), (67, none), (68, none), (69, none), (71, none), (72, none), (79, none), (80, none), (81, none), (82, none), (83, none), (84, none), (85, none)]
theorem en_eq {Z : Shp} {M : Mem} {k : Nat} (hB : btOk Z M k) (y : Int32) : enC M (rR M 8 k) y = enM M k y := by
  obtain ⟨-, e0, e1, e2, e3, e4, e5, -⟩ := hB
  funext j
  match j with
  | 0 => exact e1
  | 1 => exact e5
  | 2 => exact e3
  | 3 => exact e4
  | _ + 4 => rfl
theorem enM_mem {M M1 : Mem} (h : ∀ k, rI M1 67 k = rI M 67 k ∧ rI M1 68 k = rI M 68 k ∧ rI M1 69 k = rI M 69 k ∧ rI M1 71 k = rI M 71 k ∧ rI M1 72 k = rI M 72 k) (b : Nat) (y : Int32) : enM M1 b y = enM M b y := by
  obtain ⟨h1, h2, h3, h4, h5⟩ := h b
  unfold enM
  rw [h1, h2, h3, h4, h5]
theorem sp_val {Z : Shp} {M : Mem} (hZ : OKZ Z) (hF : Fix M) {x b : Nat} {w y : Int32} (hx : x < 16) (hb : b < 12) (hT : txOk Z M x) (hB : btOk Z M b) : fX8_speaksFor Z M (rR M 26 x) w (rR M 8 b) y = some (bI (spB Z M w (rR M 8 b) y x)) ∧ ∀ (L : List (Nat × Option Nat)) (ts : List Nat) (M1 : Mem), (89, none) ∈ L → dis L FRd = true → Wr Z L ts [] M M1 → ∃ M2, fX12_binds Z M1 51 (nI x) w (nI b) y = some (bI (spB Z M w (rR M 8 b) y x), M2) ∧ Wr Z L ts [] M M2 ∧ Wr Z F89 [] [] M1 M2 := by
  obtain ⟨⟨t1, t2⟩, t3, t4, t5, t6, t7, n, q, R, s1, ⟨s2, s3⟩, s4, s5, s6, s7, s8, s9, s10⟩ := hT
  have hbt := hB.1.2
  have heq := en_eq hB y
  have hixx : ix (nI x) = x := ix_nI (by omega)
  have a79 : aok Z 79 100 (nI x) := aok_nI (tg_79 hZ) (by omega) (by decide)
  have a81 : aok Z 81 100 (nI x) := aok_nI (tg_81 hZ) (by omega) (by decide)
  have a82 : aok Z 82 100 (nI x) := aok_nI (tg_82 hZ) (by omega) (by decide)
  obtain ⟨v, hv1, hv2⟩ : ∃ v : Bool, ((R = [] ∧ v = true) ∨ rpn (enM M b y) R = some [v]) ∧ (if nI n ≤ nI q then some (1 : Int32) else Option.bind (fX8_conditionHolds Z M (rR M 26 x) (rR M 8 b) y) (fun v6 => if v6 = 0 then some (0 : Int32) else some 1)) = some (bI v) := by
    rcases s10 with ⟨h1, h2⟩ | ⟨h1, h2⟩
    · exact ⟨true, Or.inl ⟨h2, rfl⟩, by rw [if_pos (nI_le h1 (by omega))]; rfl⟩
    · obtain ⟨v, g1, g2⟩ := h2 (enM M b y)
      refine ⟨v, Or.inr g1, ?_⟩
      rw [if_neg (nle h1 (by omega)), cond_c t2 s3 s1 s4 h1 s5 hbt, heq, g2, Option.bind_some]
      cases v <;> simp [bI]
  have hcls : fX8_speaksFor Z M (rR M 26 x) w (rR M 8 b) y = some (bI (decide (rI M 79 x = w) && (!decide (fX11_within y (rI M 81 x) (rI M 82 x) = 0) && v))) := by
    unfold fX8_speaksFor
    simp only [if_pos t2, t3, t5, t6, s3, s4, if_true]
    by_cases c1 : rI M 79 x = w
    · rw [if_pos c1, decide_eq_true c1]
      by_cases c2 : fX11_within y (rI M 81 x) (rI M 82 x) = 0
      · rw [if_pos c2, decide_eq_true c2]; rfl
      · rw [if_neg c2, decide_eq_false c2, hv2]
        cases v <;> rfl
    · rw [if_neg c1, decide_eq_false c1]; rfl
  have hsp : spB Z M w (rR M 8 b) y x = (decide (rI M 79 x = w) && (!decide (fX11_within y (rI M 81 x) (rI M 82 x) = 0) && v)) := by
    unfold spB
    rw [hcls]
    cases (decide (rI M 79 x = w) && (!decide (fX11_within y (rI M 81 x) (rI M 82 x) = 0) && v)) <;> simp [bI]
  rw [hsp]
  refine ⟨hcls, fun L ts M1 h89 hd w1 => ?_⟩
  have hF1 : Fix M1 := w1.fix hF (by decide)
  have r79 := w1.row hd (a := 79) (by simp) (by omega) x
  have r81 := w1.row hd (a := 81) (by simp) (by omega) x
  have r82 := w1.row hd (a := 82) (by simp) (by omega) x
  have r83 := w1.row hd (a := 83) (by simp) (by omega) x
  have hen : enM M1 b y = enM M b y := enM_mem (fun k => ⟨w1.row hd (a := 67) (by simp) (by omega) k, w1.row hd (a := 68) (by simp) (by omega) k, w1.row hd (a := 69) (by simp) (by omega) k, w1.row hd (a := 71) (by simp) (by omega) k, w1.row hd (a := 72) (by simp) (by omega) k⟩) b y
  by_cases c1 : rI M 79 x = w
  · by_cases c2 : fX11_within y (rI M 81 x) (rI M 82 x) = 0
    · refine ⟨M1, ?_, w1, Wr.rf⟩
      simp [fX12_binds, tg_51 hZ, fr_51_36 hF1, fr_51_38 hF1, fr_51_39 hF1, if_pos a79, if_pos a81, if_pos a82, hixx, r79, r81, r82, c1, in_within, c2, bI]
    · obtain ⟨M2, g1, g2⟩ := holds_m (M := M1) (v := v) (y := y) hZ hF1 hx hb (by rw [r83, s7]) s8 (TS_eq R (fun k _ => ⟨w1.row hd (a := 84) (by simp) (by omega) _, w1.row hd (a := 85) (by simp) (by omega) _⟩) s9) (by rw [hen]; exact hv1)
      refine ⟨M2, ?_, w1.tr (g2.mono (by intro q hq; simp at hq; rw [hq]; exact h89) (by simp) (by simp)), g2⟩
      have hb0 : bI v = 0 ↔ v = false := bI0 v
      cases v <;> simp [fX12_binds, tg_51 hZ, fr_51_36 hF1, fr_51_38 hF1, fr_51_39 hF1, if_pos a79, if_pos a81, if_pos a82, hixx, r79, r81, r82, c1, in_within, c2, g1, bI]
  · refine ⟨M1, ?_, w1, Wr.rf⟩
    simp [fX12_binds, tg_51 hZ, fr_51_36 hF1, if_pos a79, hixx, r79, c1, bI]
def lstI (f : Nat → Bool) : Nat → Int32
  | 0 => -1
  | k + 1 => if f k = true then nI k else lstI f k
theorem lst_or (f : Nat → Bool) : ∀ k, (lstI f k = -1 ∧ ∀ j, j < k → f j = false) ∨ ∃ p, p < k ∧ lstI f k = nI p ∧ f p = true ∧ ∀ j, p < j → j < k → f j = false := by
  intro k
  induction k with
  | zero => exact Or.inl ⟨rfl, fun j h => absurd h (by omega)⟩
  | succ k ih =>
    rw [lstI]
    by_cases c : f k = true
    · exact Or.inr ⟨k, by omega, by rw [if_pos c], c, fun j h1 h2 => absurd h1 (by omega)⟩
    · have c2 : f k = false := by simpa using c
      rw [if_neg c]
      rcases ih with ⟨h1, h2⟩ | ⟨p, h1, h2, h3, h4⟩
      · refine Or.inl ⟨h1, fun j hj => ?_⟩
        by_cases e : j = k
        · rw [e]; exact c2
        · exact h2 j (by omega)
      · refine Or.inr ⟨p, by omega, h2, h3, fun j hj1 hj2 => ?_⟩
        by_cases e : j = k
        · rw [e]; exact c2
        · exact h4 j hj1 (by omega)
theorem speaker_c {Z : Shp} {M : Mem} (hZ : OKZ Z) (hF : Fix M) {t b : Nat} {w y : Int32} (ht : t ≤ 16) (hb : b < 12) (h1 : rI M 24 3 = nI t) (hT : ∀ x, x < t → txOk Z M x) (hB : btOk Z M b) : fX2_speaker Z M 24 w (rR M 8 b) y = some (lstI (spB Z M w (rR M 8 b) y) t) := by
  unfold fX2_speaker
  rw [if_pos (tg_24 hZ)]
  simp only [pu]
  rw [h1]
  obtain ⟨r, q1, q2⟩ := loop_inv (f := fun s3 : Int32 => (if s3 < 0 then some (Sum.inr (-1 : Int32)) else (if aok Z (rR M 24 2) 114 s3 then (if tg Z (rR M (rR M 24 2) (ix s3)) = (9, 6) then (Option.bind (fX8_speaksFor Z M (rR M (rR M 24 2) (ix s3)) w (rR M 8 b) y) (fun v9 => (if v9 = 0 then some (Sum.inl (s3 + (-1 : Int32))) else some (Sum.inr s3)))) else none) else none)))
    (fun s => ∃ k, k ≤ t ∧ s = nI k - 1 ∧ lstI (spB Z M w (rR M 8 b) y) t = lstI (spB Z M w (rR M 8 b) y) k) (fun r => r = lstI (spB Z M w (rR M 8 b) y) t) (fun s => (s.toInt + 1).toNat) (by
    rintro s ⟨k, hk, rfl, hl⟩
    cases k with
    | zero => exact Or.inr ⟨-1, by simp [show nI 0 - 1 < 0 by decide], hl.symm⟩
    | succ k =>
      have hp : nI (k + 1) - 1 = nI k := nI_pred k
      have hix : ix (nI k) = k := ix_nI (by omega)
      have a26 : aok Z 26 114 (nI k) := aok_nI (tg_26 hZ) (by omega) (by decide)
      have hxk := hT k (by omega)
      obtain ⟨v1, -⟩ := sp_val (w := w) (y := y) hZ hF (show k < 16 by omega) hb hxk hB
      have hm : nI k + (-1) = nI k - 1 := by
        have e1 := nI_toInt (n := k) (by omega)
        have m1 : (1 : Int32).toInt = 1 := by decide
        have m2 : (-1 : Int32).toInt = -1 := by decide
        rw [i32_eq, addI (by omega) (by omega), subI (by omega) (by omega)]
        omega
      rw [hp]
      by_cases c : spB Z M w (rR M 8 b) y k = true
      · refine Or.inr ⟨nI k, ?_, ?_⟩
        · rw [c] at v1
          simp [nI_pos (show k < 2 ^ 31 by omega), fr_24_2 hF, if_pos a26, hix, hxk.1.2, v1, bI]
        · rw [hl, lstI, if_pos c]
      · refine Or.inl ⟨nI k - 1, ?_, ⟨k, by omega, rfl, ?_⟩, ?_⟩
        · have c2 : spB Z M w (rR M 8 b) y k = false := by simpa using c
          rw [c2] at v1
          simp [nI_pos (show k < 2 ^ 31 by omega), fr_24_2 hF, if_pos a26, hix, hxk.1.2, v1, bI, hm]
        · rw [hl, lstI, if_neg c]
        · have e1 := nI_toInt (n := k) (by omega)
          have m1 : (1 : Int32).toInt = 1 := by decide
          rw [subI (by omega) (by omega)]
          omega) (nI t - 1) ⟨t, by omega, rfl, rfl⟩
  rw [← q2]
  exact q1
theorem speaker_m {Z : Shp} {M M0 : Mem} (hZ : OKZ Z) (hF : Fix M) {t b : Nat} {w y : Int32} (ht : t ≤ 16) (hb : b < 12) (h1 : rI M 51 35 = nI t) (hT : ∀ x, x < t → txOk Z M x) (hB : btOk Z M b) {L : List (Nat × Option Nat)} {ts : List Nat} (h89 : (89, none) ∈ L) (hd : dis L FRd = true) (w0 : Wr Z L ts [] M M0) : ∃ M1, fX12_speaker Z M0 51 w (nI b) y = some (lstI (spB Z M w (rR M 8 b) y) t, M1) ∧ Wr Z L ts [] M M1 ∧ Wr Z F89 [] [] M0 M1 := by
  obtain ⟨r, q1, q2, q3, q4⟩ : ∃ r, fX12_speaker Z M0 51 w (nI b) y = some r ∧ r.1 = lstI (spB Z M w (rR M 8 b) y) t ∧ Wr Z L ts [] M r.2 ∧ Wr Z F89 [] [] M0 r.2 := by
    unfold fX12_speaker
    refine loop_inv (fun s : Int32 × Int32 × Mem => ∃ k, k ≤ t ∧ s.2.1 = nI k ∧ s.1 = lstI (spB Z M w (rR M 8 b) y) k ∧ Wr Z L ts [] M s.2.2 ∧ Wr Z F89 [] [] M0 s.2.2) (fun r : Int32 × Mem => r.1 = lstI (spB Z M w (rR M 8 b) y) t ∧ Wr Z L ts [] M r.2 ∧ Wr Z F89 [] [] M0 r.2) (fun s => t - ix s.2.1) ?_ _ ⟨0, by omega, rfl, rfl, w0, Wr.rf⟩
    rintro ⟨u, s, M3⟩ ⟨k, hk, e1, e2, w3, w4⟩
    dsimp only at e1 e2 w3 w4
    subst e1 e2
    have r35 : rI M3 51 35 = nI t := by rw [w3.row hd (a := 51) (by simp) (by omega), h1]
    by_cases hkt : k = t
    · subst hkt
      exact Or.inr ⟨_, by simp [tg_51 hZ, r35]; rfl, rfl, w3, w4⟩
    have hkt : k < t := by omega
    have hle := nle hkt (by omega)
    obtain ⟨-, v2⟩ := sp_val (w := w) (y := y) hZ hF (show k < 16 by omega) hb (hT k hkt) hB
    obtain ⟨M4, g1, g2, g3⟩ := v2 L ts M3 h89 hd w3
    have hmu : t - ix (nI (k + 1)) < t - ix (nI k) := by
      rw [ix_nI (by omega), ix_nI (by omega)]
      omega
    refine Or.inl ⟨(lstI (spB Z M w (rR M 8 b) y) (k + 1), nI (k + 1), M4), ?_, ⟨k + 1, by omega, rfl, rfl, g2, w4.tr g3⟩, hmu⟩
    by_cases c : spB Z M w (rR M 8 b) y k = true
    · rw [c] at g1
      simp [tg_51 hZ, r35, hle, g1, bI, lstI, c, nI_succ]
    · have c2 : spB Z M w (rR M 8 b) y k = false := by simpa using c
      rw [c2] at g1
      simp [tg_51 hZ, r35, hle, g1, bI, lstI, c2, nI_succ]
  exact ⟨r.2, by rw [q1, ← q2], q3, q4⟩
/-- what is said -/
def sayV (M : Mem) (p : Int32) : Int32 := if p = -1 then 0 else rI M 80 (ix p)
theorem says_c {Z : Shp} {M : Mem} (hZ : OKZ Z) (hF : Fix M) {t b : Nat} {w y : Int32} (ht : t ≤ 16) (hb : b < 12) (h1 : rI M 24 3 = nI t) (hT : ∀ x, x < t → txOk Z M x) (hB : btOk Z M b) : fX2_says Z M 24 w (rR M 8 b) y = some (sayV M (lstI (spB Z M w (rR M 8 b) y) t)) := by
  have hs := speaker_c (w := w) (y := y) hZ hF ht hb h1 hT hB
  unfold fX2_says
  rw [if_pos (tg_24 hZ), hs, Option.bind_some]
  rcases lst_or (spB Z M w (rR M 8 b) y) t with ⟨e, -⟩ | ⟨p, hp, e, -⟩
  · have hw : fX11_within (-1) 0 (nI t - 1) = 0 := (w_iff _ _ _).mpr (fun h => absurd h.1 (by decide))
    rw [e]
    simp [fX2_textNumbered, tg_24 hZ, h1, hw, sayV]
  · have hixp : ix (nI p) = p := ix_nI (by omega)
    have a26 : aok Z 26 114 (nI p) := aok_nI (tg_26 hZ) (by omega) (by decide)
    have hw : ¬ fX11_within (nI p) 0 (nI t - 1) = 0 := by
      have e1 := nI_toInt (n := p) (by omega)
      have e2 := nI_predI (n := t) (by omega)
      refine w_of (by rw [e1]; exact Int.natCast_nonneg _) (by rw [e1, e2]; omega)
    obtain ⟨⟨u1, u2⟩, -, u3, -⟩ := hT p hp
    rw [e]
    simp [fX2_textNumbered, tg_24 hZ, h1, hw, fr_24_2 hF, if_pos a26, hixp, show ¬ rR M 26 p = 0 by omega, u2, u3, sayV, nm1 (show p < 2 ^ 31 by omega)]
theorem says_m {Z : Shp} {M M0 : Mem} (hZ : OKZ Z) (hF : Fix M) {t b : Nat} {w y : Int32} (ht : t ≤ 16) (hb : b < 12) (h1 : rI M 51 35 = nI t) (hT : ∀ x, x < t → txOk Z M x) (hB : btOk Z M b) {L : List (Nat × Option Nat)} {ts : List Nat} (h89 : (89, none) ∈ L) (hd : dis L FRd = true) (w0 : Wr Z L ts [] M M0) : ∃ M1, fX12_says Z M0 51 w (nI b) y = some (sayV M (lstI (spB Z M w (rR M 8 b) y) t), M1) ∧ Wr Z L ts [] M M1 ∧ Wr Z F89 [] [] M0 M1 := by
  obtain ⟨M1, g1, g2, g3⟩ := speaker_m (w := w) (y := y) hZ hF ht hb h1 hT hB h89 hd w0
  have hF1 : Fix M1 := g2.fix hF (by decide)
  refine ⟨M1, ?_, g2, g3⟩
  unfold fX12_says
  rw [if_pos (tg_51 hZ), g1, Option.bind_some]
  rcases lst_or (spB Z M w (rR M 8 b) y) t with ⟨e, -⟩ | ⟨p, hp, e, -⟩
  · rw [e]
    simp [sayV]
  · have hixp : ix (nI p) = p := ix_nI (by omega)
    have a80 : aok Z 80 100 (nI p) := aok_nI (tg_80 hZ) (by omega) (by decide)
    have r80 := g2.row hd (a := 80) (by simp) (by omega) p
    rw [e]
    simp [nm1 (show p < 2 ^ 31 by omega), fr_51_37 hF1, if_pos a80, hixp, r80, sayV]
theorem say_bd {Z : Shp} {M : Mem} {f : Nat → Bool} {t : Nat} (ht : t ≤ 16) (hT : ∀ x, x < t → txOk Z M x) : 0 ≤ (sayV M (lstI f t)).toInt ∧ (sayV M (lstI f t)).toInt ≤ 9999 := by
  rcases lst_or f t with ⟨e, -⟩ | ⟨p, hp, e, -⟩
  · rw [e, sayV, if_pos rfl]; decide
  · rw [e, sayV, if_neg (nm1 (by omega)), ix_nI (by omega)]
    exact (hT p hp).2.2.2.2.2.1
theorem op_speaks {Z : Shp} {M : Mem} (hZ : OKZ Z) (hF : Fix M) (hT : ITexts Z M) (hB : IBoat Z M) (x1 x2 x3 : Int32) : ∃ r M2, fX11_speaks Z M 2 x1 x2 x3 = some r ∧ fX12_speaks Z M 51 x1 x2 x3 = some (r, M2) ∧ Wr Z F89 [] [] M M2 := by
  obtain ⟨t, ht, t1, t2, t3, -⟩ := hT
  obtain ⟨n, hn, b1, b2, b3, -⟩ := hB
  by_cases c1 : fX11_within x1 0 1 = 0
  · exact ⟨-102, M, by simp [fX11_speaks, c1], by simp [fX12_speaks, fX12_refusal, tg_51 hZ, in_m1_e, in_0_e, in_0_1, in_0_2, in_0_23, in_0_3, in_0_4, in_0_40, in_0_5, in_0_50, in_0_599, in_0_6, in_0_7, in_0_9, in_0_99, in_0_999, in_0_9999, in_0_99999, in_0_999999, in_1_100, in_1_200, in_1_6, in_1_9, in_1_999, in_10_17, in_10_200, in_48_57, in_6_17, in_e_99, in_e_9999, in_within, c1], Wr.rf⟩
  by_cases c2 : fX11_within x3 0 99 = 0
  · exact ⟨-102, M, by simp [fX11_speaks, c1, c2], by simp [fX12_speaks, fX12_refusal, fX12_isDay, tg_51 hZ, in_m1_e, in_0_e, in_0_1, in_0_2, in_0_23, in_0_3, in_0_4, in_0_40, in_0_5, in_0_50, in_0_599, in_0_6, in_0_7, in_0_9, in_0_99, in_0_999, in_0_9999, in_0_99999, in_0_999999, in_1_100, in_1_200, in_1_6, in_1_9, in_1_999, in_10_17, in_10_200, in_48_57, in_6_17, in_e_99, in_e_9999, in_within, c1, c2], Wr.rf⟩
  by_cases c3 : fX11_within x2 0 (nI n - 1) = 0
  · exact ⟨-101, M, by simp [fX11_speaks, fX3_boatNumbered, c1, c2, tg_2 hZ, tg_3 hZ, tg_4 hZ, tg_5 hZ, tg_6 hZ, tg_7 hZ, tg_8 hZ, tg_24 hZ, tg_25 hZ, tg_26 hZ, tg_27 hZ, tg_28 hZ, tg_29 hZ, tg_30 hZ, tg_31 hZ, tg_32 hZ, tg_33 hZ, tg_34 hZ, tg_35 hZ, tg_36 hZ, tg_37 hZ, tg_38 hZ, tg_39 hZ, tg_40 hZ, tg_41 hZ, tg_42 hZ, tg_43 hZ, tg_44 hZ, tg_45 hZ, tg_46 hZ, tg_47 hZ, tg_48 hZ, tg_49 hZ, tg_50 hZ, fr_2_0 hF, fr_3_0 hF, fr_3_1 hF, fr_3_2 hF, fr_3_3 hF, fr_3_4 hF, fr_2_1 hF, fr_24_0 hF, fr_24_2 hF, fr_2_2 hF, fr_27_0 hF, fr_27_1 hF, fr_27_2 hF, fr_27_8 hF, fr_2_3 hF, fr_32_0 hF, fr_32_1 hF, fr_32_3 hF, fr_32_4 hF, fr_32_5 hF, fr_32_6 hF, fr_2_4 hF, fr_39_0 hF, fr_39_1 hF, fr_39_2 hF, fr_39_3 hF, fr_39_4 hF, fr_39_5 hF, fr_39_6 hF, fr_2_5 hF, fr_47_0 hF, fr_47_1 hF, fr_47_2 hF, b1, c3], by simp [fX12_speaks, fX12_refusal, fX12_isDay, fX12_isBoat, tg_51 hZ, b2, in_m1_e, in_0_e, in_0_1, in_0_2, in_0_23, in_0_3, in_0_4, in_0_40, in_0_5, in_0_50, in_0_599, in_0_6, in_0_7, in_0_9, in_0_99, in_0_999, in_0_9999, in_0_99999, in_0_999999, in_1_100, in_1_200, in_1_6, in_1_9, in_1_999, in_10_17, in_10_200, in_48_57, in_6_17, in_e_99, in_e_9999, in_within, c1, c2, c3], Wr.rf⟩
  obtain ⟨b, hb, rfl⟩ := wT (by omega) c3
  have hbn := bn_c hZ hF hn hb b1 c3
  have hBb := b3 b hb
  have hs := speaker_c (w := x1) (y := x3) hZ hF ht (show b < 12 by omega) t1 t3 hBb
  obtain ⟨M1, g1, g2, -⟩ := speaker_m (w := x1) (y := x3) hZ hF ht (show b < 12 by omega) t2 t3 hBb (L := F89) (ts := []) (by simp) (by decide) Wr.rf
  have h0 : ¬ rR M 8 b = 0 := by
    have := hBb.1.1
    omega
  exact ⟨lstI (spB Z M x1 (rR M 8 b) x3) t, M1, by simp [fX11_speaks, c1, c2, tg_2 hZ, tg_3 hZ, tg_4 hZ, tg_5 hZ, tg_6 hZ, tg_7 hZ, tg_8 hZ, tg_24 hZ, tg_25 hZ, tg_26 hZ, tg_27 hZ, tg_28 hZ, tg_29 hZ, tg_30 hZ, tg_31 hZ, tg_32 hZ, tg_33 hZ, tg_34 hZ, tg_35 hZ, tg_36 hZ, tg_37 hZ, tg_38 hZ, tg_39 hZ, tg_40 hZ, tg_41 hZ, tg_42 hZ, tg_43 hZ, tg_44 hZ, tg_45 hZ, tg_46 hZ, tg_47 hZ, tg_48 hZ, tg_49 hZ, tg_50 hZ, fr_2_0 hF, fr_3_0 hF, fr_3_1 hF, fr_3_2 hF, fr_3_3 hF, fr_3_4 hF, fr_2_1 hF, fr_24_0 hF, fr_24_2 hF, fr_2_2 hF, fr_27_0 hF, fr_27_1 hF, fr_27_2 hF, fr_27_8 hF, fr_2_3 hF, fr_32_0 hF, fr_32_1 hF, fr_32_3 hF, fr_32_4 hF, fr_32_5 hF, fr_32_6 hF, fr_2_4 hF, fr_39_0 hF, fr_39_1 hF, fr_39_2 hF, fr_39_3 hF, fr_39_4 hF, fr_39_5 hF, fr_39_6 hF, fr_2_5 hF, fr_47_0 hF, fr_47_1 hF, fr_47_2 hF, hbn, h0, hs], by simp [fX12_speaks, fX12_refusal, fX12_isDay, fX12_isBoat, tg_51 hZ, b2, in_m1_e, in_0_e, in_0_1, in_0_2, in_0_23, in_0_3, in_0_4, in_0_40, in_0_5, in_0_50, in_0_599, in_0_6, in_0_7, in_0_9, in_0_99, in_0_999, in_0_9999, in_0_99999, in_0_999999, in_1_100, in_1_200, in_1_6, in_1_9, in_1_999, in_10_17, in_10_200, in_48_57, in_6_17, in_e_99, in_e_9999, in_within, c1, c2, c3, g1], g2⟩
theorem op_toll {Z : Shp} {M : Mem} (hZ : OKZ Z) (hF : Fix M) (hT : ITexts Z M) (hB : IBoat Z M) (x1 x2 : Int32) : ∃ r M2, fX11_toll Z M 2 x1 x2 = some r ∧ fX12_toll Z M 51 x1 x2 = some (r, M2) ∧ Wr Z F89 [] [] M M2 := by
  obtain ⟨t, ht, t1, t2, t3, -⟩ := hT
  obtain ⟨n, hn, b1, b2, b3, -⟩ := hB
  by_cases c3 : fX11_within x1 0 (nI n - 1) = 0
  · exact ⟨-101, M, by simp [fX11_toll, fX3_boatNumbered, tg_2 hZ, tg_3 hZ, tg_4 hZ, tg_5 hZ, tg_6 hZ, tg_7 hZ, tg_8 hZ, tg_24 hZ, tg_25 hZ, tg_26 hZ, tg_27 hZ, tg_28 hZ, tg_29 hZ, tg_30 hZ, tg_31 hZ, tg_32 hZ, tg_33 hZ, tg_34 hZ, tg_35 hZ, tg_36 hZ, tg_37 hZ, tg_38 hZ, tg_39 hZ, tg_40 hZ, tg_41 hZ, tg_42 hZ, tg_43 hZ, tg_44 hZ, tg_45 hZ, tg_46 hZ, tg_47 hZ, tg_48 hZ, tg_49 hZ, tg_50 hZ, fr_2_0 hF, fr_3_0 hF, fr_3_1 hF, fr_3_2 hF, fr_3_3 hF, fr_3_4 hF, fr_2_1 hF, fr_24_0 hF, fr_24_2 hF, fr_2_2 hF, fr_27_0 hF, fr_27_1 hF, fr_27_2 hF, fr_27_8 hF, fr_2_3 hF, fr_32_0 hF, fr_32_1 hF, fr_32_3 hF, fr_32_4 hF, fr_32_5 hF, fr_32_6 hF, fr_2_4 hF, fr_39_0 hF, fr_39_1 hF, fr_39_2 hF, fr_39_3 hF, fr_39_4 hF, fr_39_5 hF, fr_39_6 hF, fr_2_5 hF, fr_47_0 hF, fr_47_1 hF, fr_47_2 hF, b1, c3], by simp [fX12_toll, fX12_isBoat, tg_51 hZ, b2, in_m1_e, in_0_e, in_0_1, in_0_2, in_0_23, in_0_3, in_0_4, in_0_40, in_0_5, in_0_50, in_0_599, in_0_6, in_0_7, in_0_9, in_0_99, in_0_999, in_0_9999, in_0_99999, in_0_999999, in_1_100, in_1_200, in_1_6, in_1_9, in_1_999, in_10_17, in_10_200, in_48_57, in_6_17, in_e_99, in_e_9999, in_within, c3], Wr.rf⟩
  obtain ⟨b, hb, rfl⟩ := wT (by omega) c3
  have hbn := bn_c hZ hF hn hb b1 c3
  have hBb := b3 b hb
  have h0 : ¬ rR M 8 b = 0 := by
    have := hBb.1.1
    omega
  by_cases c2 : fX11_within x2 0 99 = 0
  · exact ⟨-102, M, by simp [fX11_toll, c2, tg_2 hZ, tg_3 hZ, tg_4 hZ, tg_5 hZ, tg_6 hZ, tg_7 hZ, tg_8 hZ, tg_24 hZ, tg_25 hZ, tg_26 hZ, tg_27 hZ, tg_28 hZ, tg_29 hZ, tg_30 hZ, tg_31 hZ, tg_32 hZ, tg_33 hZ, tg_34 hZ, tg_35 hZ, tg_36 hZ, tg_37 hZ, tg_38 hZ, tg_39 hZ, tg_40 hZ, tg_41 hZ, tg_42 hZ, tg_43 hZ, tg_44 hZ, tg_45 hZ, tg_46 hZ, tg_47 hZ, tg_48 hZ, tg_49 hZ, tg_50 hZ, fr_2_0 hF, fr_3_0 hF, fr_3_1 hF, fr_3_2 hF, fr_3_3 hF, fr_3_4 hF, fr_2_1 hF, fr_24_0 hF, fr_24_2 hF, fr_2_2 hF, fr_27_0 hF, fr_27_1 hF, fr_27_2 hF, fr_27_8 hF, fr_2_3 hF, fr_32_0 hF, fr_32_1 hF, fr_32_3 hF, fr_32_4 hF, fr_32_5 hF, fr_32_6 hF, fr_2_4 hF, fr_39_0 hF, fr_39_1 hF, fr_39_2 hF, fr_39_3 hF, fr_39_4 hF, fr_39_5 hF, fr_39_6 hF, fr_2_5 hF, fr_47_0 hF, fr_47_1 hF, fr_47_2 hF, hbn, h0], by simp [fX12_toll, fX12_isBoat, fX12_isDay, tg_51 hZ, b2, in_m1_e, in_0_e, in_0_1, in_0_2, in_0_23, in_0_3, in_0_4, in_0_40, in_0_5, in_0_50, in_0_599, in_0_6, in_0_7, in_0_9, in_0_99, in_0_999, in_0_9999, in_0_99999, in_0_999999, in_1_100, in_1_200, in_1_6, in_1_9, in_1_999, in_10_17, in_10_200, in_48_57, in_6_17, in_e_99, in_e_9999, in_within, c2, c3], Wr.rf⟩
  have hs := says_c (w := 0) (y := x2) hZ hF ht (show b < 12 by omega) t1 t3 hBb
  obtain ⟨M1, g1, g2, -⟩ := says_m (w := 0) (y := x2) hZ hF ht (show b < 12 by omega) t2 t3 hBb (L := F89) (ts := []) (by simp) (by decide) Wr.rf
  have hF1 : Fix M1 := g2.fix hF (by decide)
  have hd : dis F89 [(67, none), (68, none), (69, none)] = true := by decide
  have hix : ix (nI b) = b := ix_nI (by omega)
  have a69 : aok Z 69 100 (nI b) := aok_nI (tg_69 hZ) (by omega) (by decide)
  have r67 := g2.row hd (a := 67) (by simp) (by omega) b
  have r68 := g2.row hd (a := 68) (by simp) (by omega) b
  have r69 := g2.row hd (a := 69) (by simp) (by omega) b
  obtain ⟨⟨u1, u2⟩, e0, e1, e2, e3, e4, e5, -⟩ := hBb
  refine ⟨_, M1, by simp [fX11_toll, fX1_tonMiles, c2, tg_2 hZ, tg_3 hZ, tg_4 hZ, tg_5 hZ, tg_6 hZ, tg_7 hZ, tg_8 hZ, tg_24 hZ, tg_25 hZ, tg_26 hZ, tg_27 hZ, tg_28 hZ, tg_29 hZ, tg_30 hZ, tg_31 hZ, tg_32 hZ, tg_33 hZ, tg_34 hZ, tg_35 hZ, tg_36 hZ, tg_37 hZ, tg_38 hZ, tg_39 hZ, tg_40 hZ, tg_41 hZ, tg_42 hZ, tg_43 hZ, tg_44 hZ, tg_45 hZ, tg_46 hZ, tg_47 hZ, tg_48 hZ, tg_49 hZ, tg_50 hZ, fr_2_0 hF, fr_3_0 hF, fr_3_1 hF, fr_3_2 hF, fr_3_3 hF, fr_3_4 hF, fr_2_1 hF, fr_24_0 hF, fr_24_2 hF, fr_2_2 hF, fr_27_0 hF, fr_27_1 hF, fr_27_2 hF, fr_27_8 hF, fr_2_3 hF, fr_32_0 hF, fr_32_1 hF, fr_32_3 hF, fr_32_4 hF, fr_32_5 hF, fr_32_6 hF, fr_2_4 hF, fr_39_0 hF, fr_39_1 hF, fr_39_2 hF, fr_39_3 hF, fr_39_4 hF, fr_39_5 hF, fr_39_6 hF, fr_2_5 hF, fr_47_0 hF, fr_47_1 hF, fr_47_2 hF, hbn, h0, hs, u2, e1, e5]; rfl, ?_, g2⟩
  simp [fX12_toll, fX12_tollOf, fX12_isBoat, fX12_isDay, tg_51 hZ, b2, in_m1_e, in_0_e, in_0_1, in_0_2, in_0_23, in_0_3, in_0_4, in_0_40, in_0_5, in_0_50, in_0_599, in_0_6, in_0_7, in_0_9, in_0_99, in_0_999, in_0_9999, in_0_99999, in_0_999999, in_1_100, in_1_200, in_1_6, in_1_9, in_1_999, in_10_17, in_10_200, in_48_57, in_6_17, in_e_99, in_e_9999, in_within, c2, c3, g1, fr_51_24 hF1, if_pos a69, hix, miles_m hZ hF1 (show b < 12 by omega), r67, r68, r69, Int32.mul_assoc]
def qS (f : Nat → Bool) (M : Mem) (p : Nat) : Nat → Int32
  | 0 => 0
  | k + 1 => if f k = true then (if rI M 80 k = rI M 80 p then qS f M p k + 0 else qS f M p k + 1) else qS f M p k + 0
theorem add0 (x : Int32) : x + 0 = x := by simp
theorem qS_end {f : Nat → Bool} {M : Mem} {p t : Nat} (h : ∀ j, p < j → j < t → f j = false) : ∀ d, p + 1 + d ≤ t → qS f M p (p + 1 + d) = qS f M p p := by
  intro d
  induction d with
  | zero =>
    intro _
    rw [Nat.add_zero, qS, if_pos rfl, add0]
    split <;> rfl
  | succ d ih =>
    intro hd
    rw [← Nat.add_assoc, qS, h (p + 1 + d) (by omega) (by omega), if_neg (by decide), ih (by omega), add0]
theorem op_quarrel {Z : Shp} {M : Mem} (hZ : OKZ Z) (hF : Fix M) (hT : ITexts Z M) (hB : IBoat Z M) (x1 x2 x3 : Int32) : ∃ r M2, fX11_quarrel Z M 2 x1 x2 x3 = some r ∧ fX12_quarrel Z M 51 x1 x2 x3 = some (r, M2) ∧ Wr Z F89 [] [] M M2 := by
  obtain ⟨t, ht, t1, t2, t3, -⟩ := hT
  obtain ⟨n, hn, b1, b2, b3, -⟩ := hB
  by_cases c1 : fX11_within x1 0 1 = 0
  · exact ⟨-102, M, by simp [fX11_quarrel, c1], by simp [fX12_quarrel, fX12_refusal, tg_51 hZ, in_m1_e, in_0_e, in_0_1, in_0_2, in_0_23, in_0_3, in_0_4, in_0_40, in_0_5, in_0_50, in_0_599, in_0_6, in_0_7, in_0_9, in_0_99, in_0_999, in_0_9999, in_0_99999, in_0_999999, in_1_100, in_1_200, in_1_6, in_1_9, in_1_999, in_10_17, in_10_200, in_48_57, in_6_17, in_e_99, in_e_9999, in_within, c1], Wr.rf⟩
  by_cases c2 : fX11_within x3 0 99 = 0
  · exact ⟨-102, M, by simp [fX11_quarrel, c1, c2], by simp [fX12_quarrel, fX12_refusal, fX12_isDay, tg_51 hZ, in_m1_e, in_0_e, in_0_1, in_0_2, in_0_23, in_0_3, in_0_4, in_0_40, in_0_5, in_0_50, in_0_599, in_0_6, in_0_7, in_0_9, in_0_99, in_0_999, in_0_9999, in_0_99999, in_0_999999, in_1_100, in_1_200, in_1_6, in_1_9, in_1_999, in_10_17, in_10_200, in_48_57, in_6_17, in_e_99, in_e_9999, in_within, c1, c2], Wr.rf⟩
  by_cases c3 : fX11_within x2 0 (nI n - 1) = 0
  · exact ⟨-101, M, by simp [fX11_quarrel, fX3_boatNumbered, c1, c2, tg_2 hZ, tg_3 hZ, tg_4 hZ, tg_5 hZ, tg_6 hZ, tg_7 hZ, tg_8 hZ, tg_24 hZ, tg_25 hZ, tg_26 hZ, tg_27 hZ, tg_28 hZ, tg_29 hZ, tg_30 hZ, tg_31 hZ, tg_32 hZ, tg_33 hZ, tg_34 hZ, tg_35 hZ, tg_36 hZ, tg_37 hZ, tg_38 hZ, tg_39 hZ, tg_40 hZ, tg_41 hZ, tg_42 hZ, tg_43 hZ, tg_44 hZ, tg_45 hZ, tg_46 hZ, tg_47 hZ, tg_48 hZ, tg_49 hZ, tg_50 hZ, fr_2_0 hF, fr_3_0 hF, fr_3_1 hF, fr_3_2 hF, fr_3_3 hF, fr_3_4 hF, fr_2_1 hF, fr_24_0 hF, fr_24_2 hF, fr_2_2 hF, fr_27_0 hF, fr_27_1 hF, fr_27_2 hF, fr_27_8 hF, fr_2_3 hF, fr_32_0 hF, fr_32_1 hF, fr_32_3 hF, fr_32_4 hF, fr_32_5 hF, fr_32_6 hF, fr_2_4 hF, fr_39_0 hF, fr_39_1 hF, fr_39_2 hF, fr_39_3 hF, fr_39_4 hF, fr_39_5 hF, fr_39_6 hF, fr_2_5 hF, fr_47_0 hF, fr_47_1 hF, fr_47_2 hF, b1, c3], by simp [fX12_quarrel, fX12_refusal, fX12_isDay, fX12_isBoat, tg_51 hZ, b2, in_m1_e, in_0_e, in_0_1, in_0_2, in_0_23, in_0_3, in_0_4, in_0_40, in_0_5, in_0_50, in_0_599, in_0_6, in_0_7, in_0_9, in_0_99, in_0_999, in_0_9999, in_0_99999, in_0_999999, in_1_100, in_1_200, in_1_6, in_1_9, in_1_999, in_10_17, in_10_200, in_48_57, in_6_17, in_e_99, in_e_9999, in_within, c1, c2, c3], Wr.rf⟩
  obtain ⟨b, hb, rfl⟩ := wT (by omega) c3
  have hbn := bn_c hZ hF hn hb b1 c3
  have hBb := b3 b hb
  have hs := speaker_c (w := x1) (y := x3) hZ hF ht (show b < 12 by omega) t1 t3 hBb
  obtain ⟨M1, g1, g2, -⟩ := speaker_m (w := x1) (y := x3) hZ hF ht (show b < 12 by omega) t2 t3 hBb (L := F89) (ts := []) (by simp) (by decide) Wr.rf
  have h0 : ¬ rR M 8 b = 0 := by
    have := hBb.1.1
    omega
  have hd : dis F89 [(51, none), (80, none)] = true := by decide
  have hm : ∀ o, fX12_refusal Z M 51 x1 (nI b) x3 = some 0 → (loop (fun s7 : Int32 × Int32 × Mem => (if (rI s7.2.2 51 35) ≤ s7.2.1 then some (Sum.inr (s7.1, s7.2.2)) else (if (lstI (spB Z M x1 (rR M 8 b) x3) t) = (-1 : Int32) then (pu ((s7.1 + (0 : Int32))) (fun z12 => some (Sum.inl (z12, (s7.2.1 + (1 : Int32)), s7.2.2)))) else (Option.bind (fX12_binds Z s7.2.2 51 s7.2.1 x1 (nI b) x3) (fun v13 => (if v13.1 = 0 then (pu ((s7.1 + (0 : Int32))) (fun z16 => some (Sum.inl (z16, (s7.2.1 + (1 : Int32)), v13.2)))) else (if aok Z (rR v13.2 51 37) 100 s7.2.1 then (if aok Z (rR v13.2 51 37) 100 (lstI (spB Z M x1 (rR M 8 b) x3) t) then (if (rI v13.2 (rR v13.2 51 37) (ix s7.2.1)) = (rI v13.2 (rR v13.2 51 37) (ix (lstI (spB Z M x1 (rR M 8 b) x3) t))) then (pu ((s7.1 + (0 : Int32))) (fun z20 => some (Sum.inl (z20, (s7.2.1 + (1 : Int32)), v13.2)))) else (pu ((s7.1 + (1 : Int32))) (fun z21 => some (Sum.inl (z21, (s7.2.1 + (1 : Int32)), v13.2))))) else none) else none))))))) ((0 : Int32), (0 : Int32), M1)) = o → fX12_quarrel Z M 51 x1 (nI b) x3 = o := by
    intro o hr ho
    unfold fX12_quarrel
    rw [if_pos (tg_51 hZ), hr, Option.bind_some, if_pos rfl, g1, Option.bind_some]
    exact ho
  have hrf : fX12_refusal Z M 51 x1 (nI b) x3 = some 0 := by simp [fX12_refusal, fX12_isDay, fX12_isBoat, tg_51 hZ, b2, in_m1_e, in_0_e, in_0_1, in_0_2, in_0_23, in_0_3, in_0_4, in_0_40, in_0_5, in_0_50, in_0_599, in_0_6, in_0_7, in_0_9, in_0_99, in_0_999, in_0_9999, in_0_99999, in_0_999999, in_1_100, in_1_200, in_1_6, in_1_9, in_1_999, in_10_17, in_10_200, in_48_57, in_6_17, in_e_99, in_e_9999, in_within, c1, c2, c3]
  rcases lst_or (spB Z M x1 (rR M 8 b) x3) t with ⟨e, -⟩ | ⟨p, hp, e, hpt, hlast⟩
  · rw [e] at hs hm
    refine ⟨0, M1, ?_, hm _ hrf ?_, g2⟩
    · have hq : fX2_quarrelling Z M 24 x1 (rR M 8 b) x3 = some 0 := by
        unfold fX2_quarrelling
        rw [if_pos (tg_24 hZ), hs, Option.bind_some]
        exact loop_done (by simp [show (-1 : Int32) ≤ 0 by decide])
      simp [fX11_quarrel, c1, c2, tg_2 hZ, tg_3 hZ, tg_4 hZ, tg_5 hZ, tg_6 hZ, tg_7 hZ, tg_8 hZ, tg_24 hZ, tg_25 hZ, tg_26 hZ, tg_27 hZ, tg_28 hZ, tg_29 hZ, tg_30 hZ, tg_31 hZ, tg_32 hZ, tg_33 hZ, tg_34 hZ, tg_35 hZ, tg_36 hZ, tg_37 hZ, tg_38 hZ, tg_39 hZ, tg_40 hZ, tg_41 hZ, tg_42 hZ, tg_43 hZ, tg_44 hZ, tg_45 hZ, tg_46 hZ, tg_47 hZ, tg_48 hZ, tg_49 hZ, tg_50 hZ, fr_2_0 hF, fr_3_0 hF, fr_3_1 hF, fr_3_2 hF, fr_3_3 hF, fr_3_4 hF, fr_2_1 hF, fr_24_0 hF, fr_24_2 hF, fr_2_2 hF, fr_27_0 hF, fr_27_1 hF, fr_27_2 hF, fr_27_8 hF, fr_2_3 hF, fr_32_0 hF, fr_32_1 hF, fr_32_3 hF, fr_32_4 hF, fr_32_5 hF, fr_32_6 hF, fr_2_4 hF, fr_39_0 hF, fr_39_1 hF, fr_39_2 hF, fr_39_3 hF, fr_39_4 hF, fr_39_5 hF, fr_39_6 hF, fr_2_5 hF, fr_47_0 hF, fr_47_1 hF, fr_47_2 hF, hbn, h0, hq]
    · have r35 : rI M1 51 35 = nI t := by rw [g2.row hd (a := 51) (by simp) (by omega), t2]
      refine loop_for (fun k => ((0 : Int32), nI k, M1)) t rfl (fun k hk => ?_) (by simp [r35])
      have hle := nle hk (by omega)
      simp [r35, hle, pu, nI_succ]
  · rw [e] at hs hm
    have hpm : ¬ nI p = -1 := nm1 (by omega)
    have hixp : ix (nI p) = p := ix_nI (by omega)
    have a80p : aok Z 80 100 (nI p) := aok_nI (tg_80 hZ) (by omega) (by decide)
    have a26p : aok Z 26 114 (nI p) := aok_nI (tg_26 hZ) (by omega) (by decide)
    have hend := qS_end (f := spB Z M x1 (rR M 8 b) x3) (M := M) hlast (t - (p + 1)) (by omega)
    rw [show p + 1 + (t - (p + 1)) = t by omega] at hend
    have hqc : fX2_quarrelling Z M 24 x1 (rR M 8 b) x3 = some (qS (spB Z M x1 (rR M 8 b) x3) M p t) := by
      unfold fX2_quarrelling
      rw [if_pos (tg_24 hZ), hs, Option.bind_some, hend]
      refine loop_for (fun k => (qS (spB Z M x1 (rR M 8 b) x3) M p k, nI k)) p rfl (fun k hk => ?_) (by simp)
      have hle := nle hk (by omega)
      have hix : ix (nI k) = k := ix_nI (by omega)
      have a26 : aok Z 26 114 (nI k) := aok_nI (tg_26 hZ) (by omega) (by decide)
      obtain ⟨v1, -⟩ := sp_val (w := x1) (y := x3) hZ hF (show k < 16 by omega) (show b < 12 by omega) (t3 k (by omega)) hBb
      have n1 := (t3 k (by omega)).2.2.1
      have n2 := (t3 p hp).2.2.1
      have u1 := (t3 k (by omega)).1.2
      have u2 := (t3 p hp).1.2
      by_cases q : rI M 80 k = rI M 80 p
      · by_cases s : spB Z M x1 (rR M 8 b) x3 k = true
        · simp [hle, fr_24_2 hF, if_pos a26, if_pos a26p, hix, hixp, u1, u2, n1, n2, q, qS, s, nI_succ]
        · simp [hle, fr_24_2 hF, if_pos a26, if_pos a26p, hix, hixp, u1, u2, n1, n2, q, qS, s, nI_succ]
      · by_cases s : spB Z M x1 (rR M 8 b) x3 k = true
        · rw [s] at v1
          simp [hle, fr_24_2 hF, if_pos a26, if_pos a26p, hix, hixp, u1, u2, n1, n2, q, qS, s, v1, bI, nI_succ]
        · have s2 : spB Z M x1 (rR M 8 b) x3 k = false := by simpa using s
          rw [s2] at v1
          simp [hle, fr_24_2 hF, if_pos a26, if_pos a26p, hix, hixp, u1, u2, n1, n2, q, qS, s2, v1, bI, nI_succ]
    obtain ⟨r, q1, q2, q3⟩ := loop_inv (f := fun s7 : Int32 × Int32 × Mem => (if (rI s7.2.2 51 35) ≤ s7.2.1 then some (Sum.inr (s7.1, s7.2.2)) else (if nI p = (-1 : Int32) then (pu ((s7.1 + (0 : Int32))) (fun z12 => some (Sum.inl (z12, (s7.2.1 + (1 : Int32)), s7.2.2)))) else (Option.bind (fX12_binds Z s7.2.2 51 s7.2.1 x1 (nI b) x3) (fun v13 => (if v13.1 = 0 then (pu ((s7.1 + (0 : Int32))) (fun z16 => some (Sum.inl (z16, (s7.2.1 + (1 : Int32)), v13.2)))) else (if aok Z (rR v13.2 51 37) 100 s7.2.1 then (if aok Z (rR v13.2 51 37) 100 (nI p) then (if (rI v13.2 (rR v13.2 51 37) (ix s7.2.1)) = (rI v13.2 (rR v13.2 51 37) (ix (nI p))) then (pu ((s7.1 + (0 : Int32))) (fun z20 => some (Sum.inl (z20, (s7.2.1 + (1 : Int32)), v13.2)))) else (pu ((s7.1 + (1 : Int32))) (fun z21 => some (Sum.inl (z21, (s7.2.1 + (1 : Int32)), v13.2))))) else none) else none)))))))
      (fun s => ∃ k, k ≤ t ∧ s.2.1 = nI k ∧ s.1 = qS (spB Z M x1 (rR M 8 b) x3) M p k ∧ Wr Z F89 [] [] M s.2.2) (fun r => r.1 = qS (spB Z M x1 (rR M 8 b) x3) M p t ∧ Wr Z F89 [] [] M r.2) (fun s => t - ix s.2.1) (by
      rintro ⟨u, s, M3⟩ ⟨k, hk, e1, e2, w3⟩
      dsimp only at e1 e2 w3
      subst e1 e2
      have r35 : rI M3 51 35 = nI t := by rw [w3.row hd (a := 51) (by simp) (by omega), t2]
      by_cases hkt : k = t
      · subst hkt
        exact Or.inr ⟨_, by simp [r35]; rfl, rfl, w3⟩
      have hkt : k < t := by omega
      have hle := nle hkt (by omega)
      have hix : ix (nI k) = k := ix_nI (by omega)
      obtain ⟨-, v2⟩ := sp_val (w := x1) (y := x3) hZ hF (show k < 16 by omega) (show b < 12 by omega) (t3 k hkt) hBb
      obtain ⟨M4, k1, k2, -⟩ := v2 F89 [] M3 (by simp) (by decide) w3
      have hF4 : Fix M4 := k2.fix hF (by decide)
      have a80 : aok Z 80 100 (nI k) := aok_nI (tg_80 hZ) (by omega) (by decide)
      have r80 := k2.row hd (a := 80) (by simp) (by omega) k
      have r80p := k2.row hd (a := 80) (by simp) (by omega) p
      have hmu : t - ix (nI (k + 1)) < t - ix (nI k) := by
        rw [ix_nI (by omega), ix_nI (by omega)]
        omega
      refine Or.inl ⟨(qS (spB Z M x1 (rR M 8 b) x3) M p (k + 1), nI (k + 1), M4), ?_, ⟨k + 1, by omega, rfl, rfl, k2⟩, hmu⟩
      by_cases s : spB Z M x1 (rR M 8 b) x3 k = true
      · rw [s] at k1
        by_cases q : rI M 80 k = rI M 80 p
        · simp [r35, hle, hpm, k1, bI, fr_51_37 hF4, if_pos a80, if_pos a80p, hix, hixp, r80, r80p, q, qS, s, pu, nI_succ]
        · simp [r35, hle, hpm, k1, bI, fr_51_37 hF4, if_pos a80, if_pos a80p, hix, hixp, r80, r80p, q, qS, s, pu, nI_succ]
      · have s2 : spB Z M x1 (rR M 8 b) x3 k = false := by simpa using s
        rw [s2] at k1
        simp [r35, hle, hpm, k1, bI, qS, s2, pu, nI_succ]) ((0 : Int32), (0 : Int32), M1) ⟨0, by omega, rfl, rfl, g2⟩
    refine ⟨_, r.2, by simp [fX11_quarrel, c1, c2, tg_2 hZ, tg_3 hZ, tg_4 hZ, tg_5 hZ, tg_6 hZ, tg_7 hZ, tg_8 hZ, tg_24 hZ, tg_25 hZ, tg_26 hZ, tg_27 hZ, tg_28 hZ, tg_29 hZ, tg_30 hZ, tg_31 hZ, tg_32 hZ, tg_33 hZ, tg_34 hZ, tg_35 hZ, tg_36 hZ, tg_37 hZ, tg_38 hZ, tg_39 hZ, tg_40 hZ, tg_41 hZ, tg_42 hZ, tg_43 hZ, tg_44 hZ, tg_45 hZ, tg_46 hZ, tg_47 hZ, tg_48 hZ, tg_49 hZ, tg_50 hZ, fr_2_0 hF, fr_3_0 hF, fr_3_1 hF, fr_3_2 hF, fr_3_3 hF, fr_3_4 hF, fr_2_1 hF, fr_24_0 hF, fr_24_2 hF, fr_2_2 hF, fr_27_0 hF, fr_27_1 hF, fr_27_2 hF, fr_27_8 hF, fr_2_3 hF, fr_32_0 hF, fr_32_1 hF, fr_32_3 hF, fr_32_4 hF, fr_32_5 hF, fr_32_6 hF, fr_2_4 hF, fr_39_0 hF, fr_39_1 hF, fr_39_2 hF, fr_39_3 hF, fr_39_4 hF, fr_39_5 hF, fr_39_6 hF, fr_2_5 hF, fr_47_0 hF, fr_47_1 hF, fr_47_2 hF, hbn, h0, hqc]; rfl, hm _ hrf ?_, q3⟩
    rw [← q2]
    exact q1
