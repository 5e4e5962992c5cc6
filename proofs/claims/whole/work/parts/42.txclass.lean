/-! texts: the class reads a condition -/
theorem wd_not {w : Int64 × Int64 × Int64} {c : CB} {C : List CB} (h : wd w (c :: C)) : wd (w.1, w.2.1, w.2.2 ^^^ 1) ((c.1, c.2.1, !c.2.2) :: C) := by
  obtain ⟨h0, h1, h2, h3⟩ := h
  refine ⟨by simpa using h0, by simpa using h1, by simpa using h2, ?_⟩
  dsimp only
  rw [h3, List.map_cons, bn, wl_x1]
  rfl
theorem wd_open {w : Int64 × Int64 × Int64} {C : List CB} (h : wd w C) (hl : C.length ≤ 61) : wd (w.1 <<< ((1 : Int32).toInt64 &&& 63), (w.2.1 <<< ((1 : Int32).toInt64 &&& 63)) ||| 1, w.2.2 <<< ((1 : Int32).toInt64 &&& 63)) ((false, true, false) :: C) := by
  obtain ⟨h0, h1, h2, h3⟩ := h
  have a1 := bn_map (fun c : CB => c.1) h0
  have a2 := bn_map (fun c : CB => c.2.1) h0
  have a3 := bn_map (fun c : CB => c.2.2) h0
  refine ⟨by simp; omega, ?_, ?_, ?_⟩
  · dsimp only
    rw [h1, wl_s _ (by omega)]
    rfl
  · dsimp only
    rw [h2, wl_s _ (by omega), wl_o1]
    rfl
  · dsimp only
    rw [h3, wl_s _ (by omega)]
    rfl
theorem wd_pop {w : Int64 × Int64 × Int64} {c : CB} {C : List CB} (h : wd w (c :: C)) : wd ((w.1.toUInt64 >>> ((1 : Int32).toInt64.toUInt64 &&& Int64.toUInt64 63)).toInt64, (w.2.1.toUInt64 >>> ((1 : Int32).toInt64.toUInt64 &&& Int64.toUInt64 63)).toInt64, (w.2.2.toUInt64 >>> ((1 : Int32).toInt64.toUInt64 &&& Int64.toUInt64 63)).toInt64) C := by
  obtain ⟨h0, h1, h2, h3⟩ := h
  have a1 := bn_map (fun c : CB => c.1) h0
  have a2 := bn_map (fun c : CB => c.2.1) h0
  have a3 := bn_map (fun c : CB => c.2.2) h0
  rw [List.map_cons, bn] at a1 a2 a3 h1 h2 h3
  refine ⟨by simp at h0; omega, ?_, ?_, ?_⟩
  · dsimp only
    rw [h1, wl_sr _ (by omega)]
  · dsimp only
    rw [h2, wl_sr _ (by omega)]
  · dsimp only
    rw [h3, wl_sr _ (by omega)]
theorem wd_bar {w : Int64 × Int64 × Int64} {c : CB} {C : List CB} (h : wd w (c :: C)) : wd (w.1 ||| (w.2.1 &&& 1), w.2.1 ||| 1, w.2.2) ((c.1 || c.2.1, true, c.2.2) :: C) := by
  obtain ⟨h0, h1, h2, h3⟩ := h
  rw [List.map_cons, bn] at h1 h2
  refine ⟨by simpa using h0, ?_, ?_, by simpa using h3⟩
  · dsimp only
    rw [h1, h2, wl_a1, wl_oa]
    rfl
  · dsimp only
    rw [h2, wl_o1]
    rfl
theorem wd_val {w : Int64 × Int64 × Int64} {c : CB} {C : List CB} (h : wd w (c :: C)) : lg_cmp ((w.1 ||| w.2.1) &&& 1) 0 = 0 ↔ (c.1 || c.2.1) = false := by
  obtain ⟨h0, h1, h2, h3⟩ := h
  rw [List.map_cons, bn] at h1 h2
  rw [h1, h2, wl_oa1, lN_b]
theorem wd_t {w : Int64 × Int64 × Int64} {c : CB} {C : List CB} (h : wd w (c :: C)) : lg_cmp (w.2.2 &&& 1) 0 = 0 ↔ c.2.2 = false := by
  obtain ⟨h0, h1, h2, h3⟩ := h
  rw [List.map_cons, bn] at h3
  rw [h3, wl_a1, lN_b]
/-- a factor ends -/
def fnl (w : Int64 × Int64 × Int64) (v : Bool) : Int64 × Int64 × Int64 := if v = (!decide (lg_cmp (w.2.2 &&& 1) 0 = 0)) then (w.1, w.2.1 &&& (-2), w.2.2 &&& (-2)) else (w.1, w.2.1, w.2.2 &&& (-2))
theorem wd_fin {w : Int64 × Int64 × Int64} {c : CB} {C : List CB} (h : wd w (c :: C)) (v : Bool) : wd (fnl w v) ((c.1, c.2.1 && (v != c.2.2), false) :: C) := by
  have ht := wd_t h
  have hh := h
  obtain ⟨h0, h1, h2, h3⟩ := h
  have a2 := bn_map (fun c : CB => c.2.1) h0
  have a3 := bn_map (fun c : CB => c.2.2) h0
  rw [List.map_cons, bn] at a2 a3 h2 h3
  have e3 : w.2.2 &&& (-2) = lN (bn (((c.1, c.2.1 && (v != c.2.2), false) :: C).map (fun c => c.2.2))) := by
    rw [h3, wl_m2 _ (by omega)]
    rfl
  have e1 : w.1 = lN (bn (((c.1, c.2.1 && (v != c.2.2), false) :: C).map (fun c => c.1))) := by simpa using h1
  have e0 : ((c.1, c.2.1 && (v != c.2.2), false) :: C).length ≤ 62 := by simpa using h0
  unfold fnl
  by_cases q : c.2.2 = false
  · have q2 := ht.mpr q
    rw [decide_eq_true q2]
    cases v with
    | true =>
      rw [if_neg (by decide)]
      refine ⟨e0, e1, ?_, e3⟩
      dsimp only
      rw [h2, q]
      simp [bn]
    | false =>
      rw [if_pos (by decide)]
      refine ⟨e0, e1, ?_, e3⟩
      dsimp only
      rw [h2, wl_m2 _ (by omega), q]
      simp [bn]
  · have q2 := mt ht.mp q
    have q3 : c.2.2 = true := by simpa using q
    rw [decide_eq_false q2]
    cases v with
    | false =>
      rw [if_neg (by decide)]
      refine ⟨e0, e1, ?_, e3⟩
      dsimp only
      rw [h2, q3]
      simp [bn]
    | true =>
      rw [if_pos (by decide)]
      refine ⟨e0, e1, ?_, e3⟩
      dsimp only
      rw [h2, wl_m2 _ (by omega), q3]
      simp [bn]
/-! numbers -/
def nv (g : Nat → Int32) (i : Nat) : Nat → Int32
  | 0 => 0
  | d + 1 => 10 * nv g i d + g (i + d) - 48
def drun (g : Nat → Int32) (i : Nat) : Nat → Nat
  | 0 => 0
  | f + 1 => if fX2_isDigit (g i) = 0 then 0 else drun g (i + 1) f + 1
theorem drun_dig {g : Nat → Int32} : ∀ f i d, d < drun g i f → ¬ fX2_isDigit (g (i + d)) = 0 ∧ d < f := by
  intro f
  induction f with
  | zero => exact fun i d h => absurd h (by simp [drun])
  | succ f ih =>
    intro i d h
    rw [drun] at h
    split at h
    · exact absurd h (by omega)
    · rename_i q
      cases d with
      | zero => exact ⟨q, by omega⟩
      | succ d =>
        have := ih (i + 1) d (by omega)
        rw [show i + 1 + d = i + (d + 1) by omega] at this
        exact ⟨this.1, by omega⟩
theorem drun_end {g : Nat → Int32} : ∀ f i, drun g i f ≤ f ∧ (drun g i f = f ∨ fX2_isDigit (g (i + drun g i f)) = 0) := by
  intro f
  induction f with
  | zero => exact fun i => ⟨by simp [drun], Or.inl rfl⟩
  | succ f ih =>
    intro i
    rw [drun]
    split
    · rename_i q
      exact ⟨by omega, Or.inr q⟩
    · have := ih (i + 1)
      refine ⟨by omega, ?_⟩
      rcases this.2 with h | h
      · left; omega
      · right
        rw [show i + (drun g (i + 1) f + 1) = i + 1 + drun g (i + 1) f by omega]
        exact h
/-- digits as far as d, and then an end -/
theorem drun_eq {g : Nat → Int32} {i f d : Nat} (hd : d ≤ f) (h1 : ∀ k, k < d → ¬ fX2_isDigit (g (i + k)) = 0) (h2 : d = f ∨ fX2_isDigit (g (i + d)) = 0) : drun g i f = d := by
  have e := drun_end (g := g) f i
  by_cases c : drun g i f < d
  · exfalso
    rcases e.2 with h | h
    · omega
    · exact h1 _ c h
  · by_cases c2 : d < drun g i f
    · exfalso
      have := drun_dig f i d c2
      rcases h2 with h | h
      · omega
      · exact this.1 h
    · omega
def told (g : Nat → Int32) (n i : Nat) : Int32 := nv g i (drun g i (n - i))
def lval (e : En) (x : Int32) : Int32 := if x = 99 then e 3 else if x = 103 then e 2 else if x = 108 then e 0 else if x = 109 then e 1 else e 4
def ccmp (v t sg : Int32) : Bool := if sg = 60 then decide (v < t) else if sg = 61 then decide (v = t) else decide (t < v)
def cmpB (g : Nat → Int32) (n : Nat) (e : En) (s : Nat) : Bool := ccmp (lval e (g (s - 1))) (told g n (s + 1)) (g s)
/-- the boat b and the day x as the class sees them -/
def enC (M : Mem) (b : Nat) (x : Int32) : En := fun k => match k with
  | 0 => rI M b 1
  | 1 => rI M b 5
  | 2 => rI M b 3
  | 3 => rI M b 4
  | _ => x
theorem lval_c {Z : Shp} {M : Mem} {b : Nat} (hb : tg Z b = (2, 10)) (x y : Int32) : fX8_valueOf Z M y b x = some (lval (enC M b x) y) := by
  unfold fX8_valueOf lval
  by_cases c1 : y = 99
  · simp [c1, hb, enC]
  by_cases c2 : y = 103
  · simp [c2, hb, enC]
  by_cases c3 : y = 108
  · simp [c3, hb, enC]
  by_cases c4 : y = 109
  · simp [c4, hb, enC]
  simp [c1, c2, c3, c4, enC]
theorem cmps_c {Z : Shp} {M : Mem} {a b n s : Nat} (ha : tg Z a = (9, 6)) (hA : tg Z (rR M a 0) = (102, n)) (hn : n ≤ 60) (hs : s < n) (hs0 : 0 < s) (hb : tg Z b = (2, 10)) (x : Int32) : fX8_compares Z M a (nI s) b x = some (if cmpB (rI M (rR M a 0)) n (enC M b x) s = true then 1 else 0) := by
  have hx1 : nI s - 1 = nI (s - 1) := nI_prd (by omega)
  have aA : aok Z (rR M a 0) 102 (nI (s - 1)) := aok_nI hA (by omega) (by omega)
  have aB : aok Z (rR M a 0) 102 (nI s) := aok_nI hA (by omega) (by omega)
  have hixA : ix (nI (s - 1)) = s - 1 := ix_nI (by omega)
  have hixB : ix (nI s) = s := ix_nI (by omega)
  have hs1 : ¬ nI s ≤ 0 := nI_nle hs0 (by omega)
  unfold fX8_compares
  rw [if_neg hs1, if_pos ha, hx1, if_pos aA, hixA, Option.bind_some, lval_c hb, Option.bind_some]
  simp only [pu]
  rw [nI_1]
  have e := drun_end (g := rI M (rR M a 0)) (n - (s + 1)) (s + 1)
  refine bindL (loop_for (fun d => (nv (rI M (rR M a 0)) (s + 1) d, nI (s + 1 + d))) (drun (rI M (rR M a 0)) (s + 1) (n - (s + 1))) (r := told (rI M (rR M a 0)) n (s + 1)) rfl (fun d hd => ?_) ?_) ?_
  · have h1 := drun_dig _ _ _ hd
    have ad : aok Z (rR M a 0) 102 (nI (s + 1 + d)) := aok_nI hA (by omega) (by omega)
    have hixd : ix (nI (s + 1 + d)) = s + 1 + d := ix_nI (by omega)
    have hle : ¬ nI n ≤ nI (s + 1 + d) := nle (by omega) (by omega)
    dsimp only
    rw [if_pos ha]
    simp only [hA, if_true]
    rw [if_neg hle, if_pos ad, hixd, if_neg h1.1, nv, nI_1]
    rfl
  · dsimp only
    rw [if_pos ha]
    simp only [hA, if_true]
    by_cases q : s + 1 + drun (rI M (rR M a 0)) (s + 1) (n - (s + 1)) = n
    · rw [q, if_pos (by rw [i32_le]; omega)]
      rfl
    · have h2 : fX2_isDigit (rI M (rR M a 0) (s + 1 + drun (rI M (rR M a 0)) (s + 1) (n - (s + 1)))) = 0 := by
        rcases e.2 with h | h
        · omega
        · exact h
      have ad : aok Z (rR M a 0) 102 (nI (s + 1 + drun (rI M (rR M a 0)) (s + 1) (n - (s + 1)))) := aok_nI hA (by omega) (by omega)
      have hixd : ix (nI (s + 1 + drun (rI M (rR M a 0)) (s + 1) (n - (s + 1)))) = s + 1 + drun (rI M (rR M a 0)) (s + 1) (n - (s + 1)) := ix_nI (by omega)
      rw [if_neg (nle (by omega) (by omega)), if_pos ad, hixd, if_pos h2]
      rfl
  · rw [if_pos ha, if_pos aB, hixB]
    unfold cmpB ccmp
    by_cases c1 : rI M (rR M a 0) s = 60
    · rw [if_pos c1, if_pos c1]
      by_cases c : told (rI M (rR M a 0)) n (s + 1) ≤ lval (enC M b x) (rI M (rR M a 0) (s - 1))
      · rw [if_pos c, decide_eq_false (by rw [i32_lt]; rw [i32_le] at c; omega)]
        rfl
      · rw [if_neg c, decide_eq_true (by rw [i32_lt]; rw [i32_le] at c; omega)]
        rfl
    · rw [if_neg c1, if_neg c1]
      by_cases c2 : rI M (rR M a 0) s = 61
      · rw [if_pos c2, if_pos c2]
        by_cases c : lval (enC M b x) (rI M (rR M a 0) (s - 1)) = told (rI M (rR M a 0)) n (s + 1)
        · rw [if_pos c, decide_eq_true c]
          rfl
        · rw [if_neg c, decide_eq_false c]
          rfl
      · rw [if_neg c2, if_neg c2]
        by_cases c : lval (enC M b x) (rI M (rR M a 0) (s - 1)) ≤ told (rI M (rR M a 0)) n (s + 1)
        · rw [if_pos c, decide_eq_false (by rw [i32_lt]; rw [i32_le] at c; omega)]
          rfl
        · rw [if_neg c, decide_eq_true (by rw [i32_lt]; rw [i32_le] at c; omega)]
          rfl
def cst (g : Nat → Int32) (n : Nat) (e : En) (i : Nat) (w : Int64 × Int64 × Int64) : Int64 × Int64 × Int64 :=
  if g i = 33 then (w.1, w.2.1, w.2.2 ^^^ 1)
  else if g i = 40 then (w.1 <<< ((1 : Int32).toInt64 &&& 63), (w.2.1 <<< ((1 : Int32).toInt64 &&& 63)) ||| 1, w.2.2 <<< ((1 : Int32).toInt64 &&& 63))
  else if g i = 41 then fnl ((w.1.toUInt64 >>> ((1 : Int32).toInt64.toUInt64 &&& Int64.toUInt64 63)).toInt64, (w.2.1.toUInt64 >>> ((1 : Int32).toInt64.toUInt64 &&& Int64.toUInt64 63)).toInt64, (w.2.2.toUInt64 >>> ((1 : Int32).toInt64.toUInt64 &&& Int64.toUInt64 63)).toInt64) (!decide (lg_cmp ((w.1 ||| w.2.1) &&& 1) 0 = 0))
  else if g i = 124 then (w.1 ||| (w.2.1 &&& 1), w.2.1 ||| 1, w.2.2)
  else if fX8_isSign (g i) = 0 then w else fnl w (cmpB g n e i)
def cw (g : Nat → Int32) (n : Nat) (e : En) (q : Nat) : Nat → Int64 × Int64 × Int64
  | 0 => (0, 1, 0)
  | d + 1 => cst g n e (q + d) (cw g n e q d)
def cval (g : Nat → Int32) (n : Nat) (e : En) (q : Nat) : Int32 := if lg_cmp (((cw g n e q (n - q)).1 ||| (cw g n e q (n - q)).2.1) &&& 1) 0 = 0 then 0 else 1
theorem cond_c {Z : Shp} {M : Mem} {a b n q : Nat} (ha : tg Z a = (9, 6)) (hA : tg Z (rR M a 0) = (102, n)) (hn : n ≤ 60) (hq : rI M a 3 = nI q) (hqn : q < n) (hq0 : 0 < q) (hb : tg Z b = (2, 10)) (x : Int32) : fX8_conditionHolds Z M a b x = some (cval (rI M (rR M a 0)) n (enC M b x) q) := by
  unfold fX8_conditionHolds
  rw [if_pos ha]
  simp only [pu]
  rw [hq]
  refine bindL (loop_for (fun d => ((cw (rI M (rR M a 0)) n (enC M b x) q d).1, (cw (rI M (rR M a 0)) n (enC M b x) q d).2.1, (cw (rI M (rR M a 0)) n (enC M b x) q d).2.2, nI (q + d))) (n - q) (r := ((cw (rI M (rR M a 0)) n (enC M b x) q (n - q)).1, (cw (rI M (rR M a 0)) n (enC M b x) q (n - q)).2.1)) rfl (fun d hd => ?_) ?_) ?_
  · have ad : aok Z (rR M a 0) 102 (nI (q + d)) := aok_nI hA (by omega) (by omega)
    have hixd : ix (nI (q + d)) = q + d := ix_nI (by omega)
    have hle : ¬ nI n ≤ nI (q + d) := nle (by omega) (by omega)
    have hN : nI (q + (d + 1)) = nI (q + d) + 1 := by rw [nI_1]; rfl
    have k1 : ¬ (1 : Int32) = 0 := by decide
    dsimp only
    simp only [hA, if_true]
    rw [if_neg hle, if_pos ad, hixd, hN]
    generalize hw : cw (rI M (rR M a 0)) n (enC M b x) q d = w
    have hw2 : cw (rI M (rR M a 0)) n (enC M b x) q (d + 1) = cst (rI M (rR M a 0)) n (enC M b x) (q + d) w := by rw [cw, hw]
    rw [hw2]
    unfold cst
    have hfin : ∀ (w1 : Int64 × Int64 × Int64) (v : Bool), (Option.bind (if lg_cmp (w1.2.2 &&& 1) 0 = 0 then some (0 : Int32) else some 1) (fun v40 => Option.bind (if (if v = true then (1 : Int32) else 0) = v40 then some (0 : Int32) else some 1) (fun v44 => if v44 = 0 then some (Sum.inl (β := Int64 × Int64) (w1.1, w1.2.1 &&& (-2), w1.2.2 &&& (-2), nI (q + d) + 1)) else some (Sum.inl (w1.1, w1.2.1, w1.2.2 &&& (-2), nI (q + d) + 1))))) = some (Sum.inl ((fnl w1 v).1, (fnl w1 v).2.1, (fnl w1 v).2.2, nI (q + d) + 1)) := by
      intro w1 v
      unfold fnl
      by_cases c : lg_cmp (w1.2.2 &&& 1) 0 = 0
      · rw [if_pos c, decide_eq_true c]
        cases v <;> simp
      · rw [if_neg c, decide_eq_false c]
        cases v <;> simp
    by_cases c1 : rI M (rR M a 0) (q + d) = 33
    · simp [c1]
    by_cases c2 : rI M (rR M a 0) (q + d) = 40
    · simp [c2]
    by_cases c3 : rI M (rR M a 0) (q + d) = 41
    · rw [if_neg c1, if_neg c2, if_pos c3, if_neg c1, if_neg c2, if_pos c3]
      have hv : (if lg_cmp ((w.1 ||| w.2.1) &&& 1) 0 = 0 then some (0 : Int32) else some 1) = some (if (!decide (lg_cmp ((w.1 ||| w.2.1) &&& 1) 0 = 0)) = true then 1 else 0) := by
        by_cases c : lg_cmp ((w.1 ||| w.2.1) &&& 1) 0 = 0
        · rw [if_pos c, decide_eq_true c]; rfl
        · rw [if_neg c, decide_eq_false c]; rfl
      have h := hfin ((w.1.toUInt64 >>> ((1 : Int32).toInt64.toUInt64 &&& Int64.toUInt64 63)).toInt64, (w.2.1.toUInt64 >>> ((1 : Int32).toInt64.toUInt64 &&& Int64.toUInt64 63)).toInt64, (w.2.2.toUInt64 >>> ((1 : Int32).toInt64.toUInt64 &&& Int64.toUInt64 63)).toInt64) (!decide (lg_cmp ((w.1 ||| w.2.1) &&& 1) 0 = 0))
      rw [hv, Option.bind_some, Option.bind_some]
      dsimp only at h ⊢
      rw [if_neg k1]
      exact h
    by_cases c4 : rI M (rR M a 0) (q + d) = 124
    · simp [c4]
    rw [if_neg c1, if_neg c2, if_neg c3, if_neg c4, if_neg c1, if_neg c2, if_neg c3, if_neg c4]
    by_cases c5 : fX8_isSign (rI M (rR M a 0) (q + d)) = 0
    · simp [c5]
    · rw [if_neg c5, if_neg c5, cmps_c ha hA hn (by omega) (by omega) hb, Option.bind_some, Option.bind_some]
      have h := hfin w (cmpB (rI M (rR M a 0)) n (enC M b x) (q + d))
      dsimp only at h ⊢
      rw [if_neg k1]
      exact h
  · dsimp only
    simp only [hA, if_true]
    rw [show q + (n - q) = n by omega, if_pos (by rw [i32_le]; omega)]
  · dsimp only
    unfold cval
    split <;> rfl
