/-! turns: the class lays its order out -/
def rs (n : Nat) (d : Nat → Nat) (k : Nat) : Nat := (2 ^ n - 1) ^^^ sOr d k
theorem rs_bit {n : Nat} {d : Nat → Nat} {k c : Nat} (hc : c < n) : (rs n d k).testBit c = true ↔ (sOr d k).testBit c = false := by
  unfold rs
  rw [Nat.testBit_xor, Nat.testBit_two_pow_sub_one, decide_eq_true hc]
  cases (sOr d k).testBit c <;> decide
theorem rs_lt {n : Nat} {d : Nat → Nat} {k : Nat} (h : ∀ j, j < k → d j < n) : rs n d k < 2 ^ n := by
  unfold rs
  have := Nat.two_pow_pos n
  exact Nat.xor_lt_two_pow (by omega) (sOr_lt k h)
theorem rs_step {n : Nat} {d : Nat → Nat} {k : Nat} (hn : n ≤ 8) (h : ∀ j, j < k + 1 → d j < n) (hb : (sOr d k).testBit (d k) = false) : rs n d (k + 1) = rs n d k ^^^ 2 ^ d k := by
  have h256 : 2 ^ n ≤ 256 := by
    have h4 : 2 ^ n ≤ 2 ^ 8 := Nat.pow_le_pow_right (by decide) hn
    have h5 : (2 : Nat) ^ 8 = 256 := by decide
    omega
  have h1 := sOr_lt (n := n) k (fun j hj => h j (by omega))
  have h2 := h k (by omega)
  unfold rs
  rw [sOr, bf2 (d k) (by omega) (sOr d k) (by omega) hb, Nat.xor_assoc]
theorem fit_row {M : Mem} {T L : Nat} {D D1 : Mem} {y s f t c : Nat} (h : ∀ k, rI D1 T k = rI D T k) : fit M T L D1 y s f t c ↔ fit M T L D y s f t c := by
  unfold fit
  rw [h]
theorem least_c {Z : Shp} {M : Mem} {n T F L : Nat} {D : Mem} (hZ : OKZ Z) (hn : n ≤ 8) (hT : tOk M n) (h : CL Z M n T F L D) {y s f t : Nat} (hy : y < 2 ^ n) (hs : s < 2) (hf : f ≤ n) (ht : t < 1000) (hex : ∃ c, c < n ∧ fit M T L D y s f t c) : ∃ c, fX9_leastThatFits Z D 27 (nI y) (nI s) (nI f) (nI t - 1) = some (nI c) ∧ c < n ∧ fit M T L D y s f t c ∧ ∀ c', c' < c → ¬ fit M T L D y s f t c' := by
  obtain ⟨h1, h6, h7, hF, hL⟩ := id h
  obtain ⟨a1, a2, a3, a4, a5, a6, a7, a8⟩ := id h1
  obtain ⟨x, hx, hfx⟩ := hex
  have h256 : 2 ^ n ≤ 256 := by
    have h4 : 2 ^ n ≤ 2 ^ 8 := Nat.pow_le_pow_right (by decide) hn
    have h5 : (2 : Nat) ^ 8 = 256 := by decide
    omega
  have hz : nI n - 1 = nI (n - 1) := nI_prd (by omega)
  unfold fX9_leastThatFits
  obtain ⟨r, q1, c, q2, q3, q4, q5⟩ := loop_inv (f := (fun s1 : Int32 => (if tg Z 27 = (10, 10) then (if ((rI D 27 3) - (1 : Int32)) ≤ s1 then some (Sum.inr s1) else (if (fX11_hasBit (nI y) s1) = 0 then some (Sum.inl (s1 + (1 : Int32))) else (Option.bind (fX9_hourOf Z D 27 s1 (nI t - 1)) (fun v7 => (Option.bind (fX9_spends Z D 27 s1 (nI s)) (fun v9 => (Option.bind (fX9_latestOf Z D 27 s1 (nI y) (nI f - v9)) (fun v11 => (if v7 ≤ v11 then some (Sum.inr s1) else some (Sum.inl (s1 + (1 : Int32))))))))))))  else none)))
    (fun s' : Int32 => ∃ c, c < n ∧ s' = nI c ∧ ∀ c', c' < c → ¬ fit M T L D y s f t c') (fun r : Int32 => ∃ c, r = nI c ∧ c < n ∧ fit M T L D y s f t c ∧ ∀ c', c' < c → ¬ fit M T L D y s f t c') (fun s' => n - ix s') (by
    rintro s' ⟨c, hc, e, hv⟩
    subst e
    have hxc : ¬ x < c := fun q => hv x q hfx
    by_cases hcn : c = n - 1
    · subst hcn
      have e : x = n - 1 := by omega
      subst e
      refine Or.inr ⟨nI (n - 1), ?_, n - 1, rfl, hc, hfx, hv⟩
      rw [if_pos (tg_27 hZ), a2, hz, if_pos]
      rw [i32_le]
      exact Int.le_refl _
    have hle := nle (show c < n - 1 by omega) (by omega)
    have hmu : n - ix (nI (c + 1)) < n - ix (nI c) := by
      rw [ix_nI (by omega), ix_nI (by omega)]
      omega
    obtain ⟨f1, f2, f3, f4, f5⟩ := bf1 c (by omega) y (by omega)
    obtain ⟨sp1, -⟩ := spend_c hZ hn hT h1 hc hs
    have hup : ¬ fit M T L D y s f t c → ∀ c', c' < c + 1 → ¬ fit M T L D y s f t c' := fun q c' hc' => by
      by_cases e : c' = c
      · subst e; exact q
      · exact hv c' (by omega)
    rw [if_pos (tg_27 hZ), a2, hz, if_neg hle]
    by_cases d1 : y.testBit c = false
    · left
      rw [if_pos (f3.mpr d1), nI_1]
      refine ⟨_, rfl, ⟨c + 1, by omega, rfl, hup (fun q => ?_)⟩, hmu⟩
      rw [q.1] at d1
      cases d1
    have d2 : y.testBit c = true := by simpa using d1
    obtain ⟨w, w1, w2, w3⟩ := lateOf_c hZ hn hT h hy hs hf hc d2
    have ub := (hT c hc).2.1.2
    have e1 := nI_toInt (n := max t (tf M c)) (by omega)
    rw [if_neg (mt f3.mp d1), hour_c hZ hn hT h1 hc ht, Option.bind_some, sp1, Option.bind_some, w1, Option.bind_some]
    have hw : nI (max t (tf M c)) ≤ w ↔ fit M T L D y s f t c := by
      rw [i32_le, e1]
      exact w3 t
    by_cases d3 : fit M T L D y s f t c
    · right
      rw [if_pos (hw.mpr d3)]
      exact ⟨_, rfl, c, rfl, hc, d3, hv⟩
    · left
      rw [if_neg (mt hw.mp d3), nI_1]
      exact ⟨_, rfl, ⟨c + 1, by omega, rfl, hup d3⟩, hmu⟩) (0 : Int32) ⟨0, by omega, rfl, fun c' h0 => absurd h0 (by omega)⟩
  rw [q2] at q1
  exact ⟨c, q1, q3, q4, q5⟩
theorem trn_mono (M : Mem) (d : Nat → Nat) : ∀ m k, k ≤ m → (trn M d k).1 ≤ (trn M d m).1 ∧ (trn M d k).2.2 ≤ (trn M d m).2.2 := by
  intro m
  induction m with
  | zero =>
    intro k hk
    rw [show k = 0 by omega]
    exact ⟨Nat.le_refl _, Nat.le_refl _⟩
  | succ m ih =>
    intro k hk
    by_cases e : k = m + 1
    · subst e
      exact ⟨Nat.le_refl _, Nat.le_refl _⟩
    · obtain ⟨s1, s2, s3⟩ := trn_step M d m
      have := ih k (by omega)
      omega
theorem vl_low {M : Mem} {n : Nat} {d : Nat → Nat} : ∀ m, vl M n m d → ∀ k, k ≤ m → vl M n k d := by
  intro m
  induction m with
  | zero =>
    intro h k hk
    rw [show k = 0 by omega]
    exact h
  | succ m ih =>
    intro h k hk
    by_cases e : k = m + 1
    · rw [e]; exact h
    · exact ih (vl_pre h).1 k (by omega)
/-- an order that reaches the goal fits the table at every step -/
theorem fits {M : Mem} {n T F L : Nat} {D : Mem} (hn : n ≤ 8) (hT : tOk M n) (hG : ∀ y, y < 2 ^ n → GE M n T F L D y) {q : Nat → Nat} (hq : Feas M n q) (hF : fls M n q = F) (hL : lst M n q = L) : ∀ j, j < n → ∀ k, k + j + 1 = n → fit M T L D (rs n q k) (b2n (trn M q k).2.1) (F - (trn M q k).2.2) (trn M q k).1 (q k) := by
  obtain ⟨hv, hs⟩ := set_full hq
  have hp0 : 0 < 2 ^ n := Nat.two_pow_pos n
  have key : ∀ k, k < n → ((((trn M q (k + 1)).1 : Nat) : Int) - 1 ≤ (rI D T (cellN (rs n q (k + 1)) (b2n (trn M q (k + 1)).2.1) (F - (trn M q (k + 1)).2.2))).toInt) → fit M T L D (rs n q k) (b2n (trn M q k).2.1) (F - (trn M q k).2.2) (trn M q k).1 (q k) := by
    intro k hk h0
    have v1 := vl_low n hv (k + 1) (by omega)
    obtain ⟨v2, v3, v4⟩ := vl_pre v1
    obtain ⟨s1, s2, s3⟩ := trn_step M q k
    have hm := trn_mono M q n (k + 1) (by omega)
    unfold fls at hF
    unfold lst at hL
    rw [rs_step hn v1.1 v3, s2, s3, s1, show F - ((trn M q k).2.2 + spd M (q k) (b2n (trn M q k).2.1)) = F - (trn M q k).2.2 - spd M (q k) (b2n (trn M q k).2.1) by omega] at h0
    refine ⟨(rs_bit (hv.1 k hk)).mpr v3, by omega, v4, by omega, ?_⟩
    omega
  intro j
  induction j with
  | zero =>
    intro _ k hk
    refine key k (by omega) ?_
    have e : k + 1 = n := by omega
    rw [e]
    have hr : rs n q n = 0 := by
      unfold rs
      rw [hs, Nat.xor_self]
    have hb := vl_bd hn hT hv
    unfold fls at hF
    rw [hr, show F - (trn M q n).2.2 = 0 by omega]
    exact (hG 0 hp0 _ 0 _ (b2n_lt _) (by omega) (by omega)).mpr (Or.inl ⟨rfl, rfl⟩)
  | succ j ih =>
    intro hj k hk
    refine key k (by omega) ?_
    have hb := vl_bd hn hT (vl_low n hv (k + 1) (by omega))
    have hk1 : k + 1 < n := by omega
    exact (hG _ (rs_lt (fun i hi => hv.1 i (by omega))) _ _ _ (b2n_lt _) (by omega) (by omega)).mpr (Or.inr ⟨q (k + 1), hv.1 _ hk1, ih (by omega) (k + 1) (by omega)⟩)
theorem CL.wr {Z : Shp} {M : Mem} {n T F L : Nat} {D D1 : Mem} (h : CL Z M n T F L D) (w : Wr Z [(31, none)] [] [] D D1) : CL Z M n T F L D1 := by
  obtain ⟨h1, h2, h3, h4, h5⟩ := h
  have hd : dis [(31, none)] [(27, none), (28, none), (29, none), (30, none)] = true := by decide
  refine ⟨h1.cg (fun a k ha => ?_) (fun a k => w.2 a k (by simp) (by simp)), by rw [w.row hd (by simp) (by omega), h2], by rw [w.row hd (by simp) (by omega), h3], h4, h5⟩
  rcases ha with rfl | rfl | rfl | ⟨rfl, rfl⟩
  · exact w.row hd (by simp) (by omega) k
  · exact w.row hd (by simp) (by omega) k
  · exact w.row hd (by simp) (by omega) k
  · exact w.row hd (by simp) (by omega) 3
theorem lay_c {Z : Shp} {M : Mem} {n T F L : Nat} {D : Mem} (hZ : OKZ Z) (hn : n ≤ 8) (hT : tOk M n) (h : CL Z M n T F L D) (hG : ∀ y, y < 2 ^ n → GE M n T F L D y) (hGL : GL M n F L) : ∃ D1, fX9_layOut Z D 27 = some D1 ∧ Wr Z [(31, none)] [] [] D D1 ∧ BSx M n 16777216 (nI F) (nI L - 1) (rI D1 31) := by
  obtain ⟨h1, h6, h7, hF, hL⟩ := id h
  obtain ⟨a1, a2, a3, a4, a5, a6, a7, a8⟩ := id h1
  have hp0 : 0 < 2 ^ n := Nat.two_pow_pos n
  have h256 : 2 ^ n ≤ 256 := by
    have h4 : 2 ^ n ≤ 2 ^ 8 := Nat.pow_le_pow_right (by decide) hn
    have h5 : (2 : Nat) ^ 8 = 256 := by decide
    omega
  have hz2 : nI (2 ^ n) - 1 = nI (2 ^ n - 1) := nI_prd (by omega)
  have hsh := sh8 hn
  obtain ⟨p0, p01, p02, p03⟩ := hGL.1
  unfold fX9_layOut
  rw [if_pos (tg_27 hZ), a2, hsh, hz2, h6]
  simp only [pu]
  refine loop_inv (fun s : Int32 × Int32 × Int32 × Int32 × Int32 × Mem => ∃ k o, k ≤ n ∧ vl M n k o ∧ s.1 = nI (rs n o k) ∧ s.2.1 = nI (b2n (trn M o k).2.1) ∧ (trn M o k).2.2 ≤ F ∧ s.2.2.1 = nI (F - (trn M o k).2.2) ∧ s.2.2.2.1 = nI (trn M o k).1 - 1 ∧ s.2.2.2.2.1 = nI k ∧ (trn M o k).1 ≤ L ∧ Wr Z [(31, none)] [] [] D s.2.2.2.2.2 ∧ (∀ j, j < k → rI s.2.2.2.2.2 31 j = nI (o j)) ∧ (((trn M o k).1 : Nat) : Int) - 1 ≤ (rI D T (cellN (rs n o k) (b2n (trn M o k).2.1) (F - (trn M o k).2.2))).toInt ∧ ∀ q, Feas M n q → fls M n q = F → lst M n q = L → (∀ j, j < k → o j = q j) ∨ ∃ i, i < k ∧ (∀ j, j < i → o j = q j) ∧ o i < q i) (fun D1 => Wr Z [(31, none)] [] [] D D1 ∧ BSx M n 16777216 (nI F) (nI L - 1) (rI D1 31)) (fun s => n - ix s.2.2.2.2.1) ?_ _ ?_
  case refine_2 =>
    refine ⟨0, id, by omega, ⟨fun k hk => absurd hk (by omega), fun i j hi => absurd hi (by omega), rfl⟩, ?_, rfl, Nat.zero_le _, ?_, ?_, rfl, Nat.zero_le _, Wr.rf, fun j hj => absurd hj (by omega), ?_, fun q _ _ _ => Or.inl (fun j hj => absurd hj (by omega))⟩
    · show nI (2 ^ n - 1) = nI (rs n id 0)
      unfold rs
      rw [sOr, Nat.xor_zero]
    · show nI F = nI (F - 0)
      rfl
    · show (-1 : Int32) = nI 0 - 1
      decide
    · show ((0 : Nat) : Int) - 1 ≤ _
      by_cases c : n = 0
      · have hF0 : F = 0 := by omega
        have hr : rs n id 0 = 0 := by
          unfold rs
          rw [c]
          rfl
        rw [hr]
        refine (hG 0 hp0 _ _ 0 (b2n_lt _) (by omega) (by omega)).mpr (Or.inl ⟨rfl, ?_⟩)
        omega
      · have := fits hn hT hG p01 p02 p03 (n - 1) (by omega) 0 (by omega)
        refine (hG (rs n id 0) (rs_lt (fun j hj => absurd hj (by omega))) _ _ 0 (b2n_lt _) (by omega) (by omega)).mpr (Or.inr ⟨p0 0, p01.1.1 0 (by omega), this⟩)
  rintro ⟨y, s, f, t, i, D3⟩ ⟨k, o, hk, hv, e1, e2, e3, e4, e5, e6, e7, w, hrow, hok, hbest⟩
  dsimp only at e1 e2 e3 e4 e5 e6 e7 w hrow hok hbest
  subst e1 e2 e4 e5 e6
  have hC3 := h.wr w
  have eT : ∀ j, rI D3 T j = rI D T j := fun j => w.dyn (by decide) a7 (by simp) j
  have b3 := hC3.1.2.1
  have hb := vl_bd hn hT hv
  by_cases hkn : k = n
  · subst hkn
    right
    refine ⟨D3, by simp [b3], w, Or.inr ?_⟩
    have hfe : Feas M k o := ⟨⟨hv.1, hv.2.1⟩, hv.2.2⟩
    have hr : rs k o k = 0 := by
      unfold rs
      rw [(set_full hfe).2, Nat.xor_self]
    rw [hr] at hok
    have hf0 : F - (trn M o k).2.2 = 0 := by
      rcases (hG 0 hp0 _ _ _ (b2n_lt _) (by omega) (by omega)).mp hok with c | ⟨c, -, c1, -⟩
      · exact c.2
      · rw [Nat.zero_testBit] at c1
        cases c1
    have g1 : fls M k o = F := by
      unfold fls
      omega
    have g2 : lst M k o = L := by
      have := hGL.2 o hfe
      unfold lst at this ⊢
      omega
    refine ⟨o, hfe, cdo_top hn hfe.1, by rw [g1], by rw [g2], hrow, fun q hq _ => ?_⟩
    unfold ble
    rw [g1, g2]
    rcases hGL.2 q hq with c | ⟨c1, c2⟩
    · exact Or.inl c
    · right
      refine ⟨c1, ?_⟩
      by_cases c3 : L < lst M k q
      · exact Or.inl c3
      · right
        refine ⟨by omega, ?_⟩
        rcases hbest q hq c1.symm (by omega) with d | ⟨i, d1, d2, d3⟩
        · rw [cdo_congr k d]
          exact Nat.le_refl _
        · exact Nat.le_of_lt (cdo_lt d2 d3 k d1 (fun j hj => by have := hv.1 j hj; omega))
  have hk : k < n := by omega
  have hle := nle hk (by omega)
  have hrl := rs_lt (n := n) (d := o) (k := k) hv.1
  have hr0 : ¬ rs n o k = 0 := by
    intro q
    have hs : sOr o k = 2 ^ n - 1 := by
      refine Nat.eq_of_testBit_eq fun v => ?_
      have := congrArg (fun x => x.testBit v) q
      unfold rs at this
      simp only [Nat.testBit_xor, Nat.zero_testBit] at this
      cases e : (sOr o k).testBit v with
      | true =>
        rw [e] at this
        cases e2 : (2 ^ n - 1).testBit v with
        | true => rfl
        | false => rw [e2] at this; cases this
      | false =>
        rw [e] at this
        cases e2 : (2 ^ n - 1).testBit v with
        | false => rfl
        | true => rw [e2] at this; cases this
    have := (full_set hv hs).1
    omega
  have hex : ∃ c, c < n ∧ fit M T L D (rs n o k) (b2n (trn M o k).2.1) (F - (trn M o k).2.2) (trn M o k).1 c := by
    rcases (hG _ hrl _ _ _ (b2n_lt _) (by omega) (by omega)).mp hok with c | c
    · exact absurd c.1 hr0
    · exact c
  obtain ⟨c, l1, l2, l3, l4⟩ := least_c hZ hn hT hC3 hrl (b2n_lt (trn M o k).2.1) (show F - (trn M o k).2.2 ≤ n by omega) (show (trn M o k).1 < 1000 by omega) (by
    obtain ⟨c, c1, c2⟩ := hex
    exact ⟨c, c1, (fit_row eT).mpr c2⟩)
  have l3 := (fit_row eT).mp l3
  have l4 := fun c' hc' => mt (fit_row (M := M) (L := L) (y := rs n o k) (s := b2n (trn M o k).2.1) (f := F - (trn M o k).2.2) (t := (trn M o k).1) (c := c') eT).mpr (l4 c' hc')
  have a31 : aok Z 31 100 (nI k) := aok_nI (tg_31 hZ) (by omega) (by decide)
  have hix : ix (nI k) = k := ix_nI (by omega)
  have w4 : Wr Z [(31, none)] [] [] D (wI D3 31 k (nI c)) := w.sI (by simp [inF])
  have hC4 := h.wr w4
  obtain ⟨sp1, sp2⟩ := spend_c hZ hn hT hC4.1 l2 (b2n_lt (trn M o k).2.1)
  have hho := hour_c hZ hn hT hC4.1 l2 (show (trn M o k).1 < 1000 by omega)
  obtain ⟨m1, m2, m3, m4, m5⟩ := l3
  have hbit := (rs_bit l2).mp m1
  obtain ⟨x1, x2, x3, x4⟩ := vl_ext hv l2 hbit m3
  obtain ⟨s1, s2, s3⟩ := trn_step M (upd1 o k c) k
  rw [x3, x4] at s1 s3
  rw [x4] at s2
  have hrs : rs n (upd1 o k c) (k + 1) = rs n o k ^^^ 2 ^ c := by
    have he : ∀ j, j < k → upd1 o k c j = o j := fun j hj => by
      unfold upd1
      rw [if_neg (by omega)]
    rw [rs_step hn x1.1 (by rw [sOr_congr k he, x4]; exact hbit), x4]
    unfold rs
    rw [sOr_congr k he]
  left
  refine ⟨(nI (rs n o k ^^^ 2 ^ c), nI (stb M c), nI (F - (trn M o k).2.2 - spd M c (b2n (trn M o k).2.1)), nI (max (trn M o k).1 (tf M c)), nI (k + 1), wI D3 31 k (nI c)), ?_, ⟨k + 1, upd1 o k c, by omega, x1, ?_, ?_, ?_, ?_, ?_, rfl, ?_, w4, ?_, ?_, ?_⟩, ?_⟩
  · dsimp only
    rw [b3, if_neg hle, l1, Option.bind_some, fr_27_8 hC3.1.1, if_pos a31, hix, hho, Option.bind_some, sp1, Option.bind_some, sp2, Option.bind_some, (bf1 c (by omega) (rs n o k) (by omega)).2.1, pk_sub m2, nI_1]
  · dsimp only
    rw [hrs]
  · dsimp only
    rw [s2]
  · omega
  · dsimp only
    rw [s3, show F - ((trn M o k).2.2 + spd M c (b2n (trn M o k).2.1)) = F - (trn M o k).2.2 - spd M c (b2n (trn M o k).2.1) by omega]
  · dsimp only
    rw [s1, nI_prd (by omega), Nat.add_sub_cancel]
  · omega
  · intro j hj
    dsimp only
    rw [rI_wI]
    unfold upd1
    by_cases e : j = k
    · rw [if_pos ⟨rfl, e⟩, if_pos e]
    · rw [if_neg (fun q => e q.2), if_neg e, hrow j (by omega)]
  · rw [hrs, s2, s3, s1, show F - ((trn M o k).2.2 + spd M c (b2n (trn M o k).2.1)) = F - (trn M o k).2.2 - spd M c (b2n (trn M o k).2.1) by omega]
    omega
  · intro q hq hqF hqL
    have he : ∀ j, j < k → upd1 o k c j = o j := fun j hj => by
      unfold upd1
      rw [if_neg (by omega)]
    rcases hbest q hq hqF hqL with d | ⟨i, d1, d2, d3⟩
    · have hfq := fits hn hT hG hq hqF hqL (n - 1 - k) (by omega) k (by omega)
      unfold rs at hfq
      rw [← sOr_congr k d, ← trn_congr k d] at hfq
      have hcq : ¬ q k < c := fun z => l4 (q k) z hfq
      by_cases e : c = q k
      · left
        intro j hj
        by_cases ej : j = k
        · rw [ej, x4, e]
        · rw [he j (by omega), d j (by omega)]
      · right
        exact ⟨k, by omega, fun j hj => by rw [he j hj, d j hj], by rw [x4]; omega⟩
    · right
      exact ⟨i, by omega, fun j hj => by rw [he j (by omega), d2 j hj], by rw [he i d1]; exact d3⟩
  · dsimp only
    rw [ix_nI (by omega), ix_nI (by omega)]
    omega
