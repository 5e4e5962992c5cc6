/-! turns: the goal -/
theorem EC.low {M : Mem} {n T : Nat} {D D1 : Mem} {P Q : Nat → (Nat → Nat) → Prop} (h : EC M n T D P) (hm : ∀ k, (rI D1 T k).toInt ≤ (rI D T k).toInt) (hQ : ∀ m d, vl M n m d → Q m d → P m d) : EC M n T D1 Q := by
  intro m d hv hq
  have h1 := h m d hv (hQ m d hv hq)
  have h2 := hm (cellN (sOr d m) (b2n (trn M d m).2.1) (trn M d m).2.2)
  omega
theorem sOr_grow {M : Mem} {n m : Nat} {d : Nat → Nat} (hn : n ≤ 8) (hT : tOk M n) (h : vl M n (m + 1) d) : sOr d m < sOr d (m + 1) := by
  obtain ⟨p1, p2, p3⟩ := vl_pre h
  have hb := vl_bd hn hT p1
  have hd := h.1 m (by omega)
  rw [sOr]
  exact (bf1 (d m) (by omega) (sOr d m) (by omega)).2.2.2.1 p2
theorem early_c {Z : Shp} {M : Mem} {n T : Nat} {D : Mem} (hZ : OKZ Z) (hn : n ≤ 8) (hT : tOk M n) (h : CMs Z M n T D) : ∃ D1, fX9_fillEarliest Z D 27 = some D1 ∧ onT T D D1 ∧ ES M n T D1 ∧ EC M n T D1 (fun _ _ => True) := by
  obtain ⟨a1, a2, a3, a4, a5, a6, a7, a8⟩ := id h
  have m1000 : (1000 : Int32).toInt = 1000 := by decide
  have h256 : 2 ^ n ≤ 256 := by
    have h4 : 2 ^ n ≤ 2 ^ 8 := Nat.pow_le_pow_right (by decide) hn
    have h5 : (2 : Nat) ^ 8 = 256 := by decide
    omega
  have hp0 : 0 < 2 ^ n := Nat.two_pow_pos n
  have c000 : fX9_cell (0 : Int32) (0 : Int32) (0 : Int32) = nI (cellN 0 0 0) := cell_c (y := 0) (s := 0) (f := 0)
  have aT0 : aok Z T 100 (nI (cellN 0 0 0)) := aok_nI a8 (by decide) (by decide)
  have hix0 : ix (nI (cellN 0 0 0)) = cellN 0 0 0 := ix_nI (by decide)
  obtain ⟨D0, eD0⟩ : ∃ D0, D0 = wI (stN T 1000 D 4608) T (cellN 0 0 0) (-1) := ⟨_, rfl⟩
  have w0 : onT T D D0 := by
    rw [eD0]
    refine ⟨fun a k ha => ?_, fun a k => ?_, fun a k => ?_⟩
    · rw [rI_wI, if_neg (fun e => ha e.1), rI_stN, if_neg (fun e => ha e.1)]
    · rw [rJ_wI, rJ_stN]
    · rw [rR_wI, rR_stN]
  have r0 : ∀ y s f, y < 256 → s < 2 → f < 9 → rI D0 T (cellN y s f) = if cellN y s f = cellN 0 0 0 then -1 else 1000 := by
    intro y s f hy hs hf
    rw [eD0, rI_wI]
    by_cases c : cellN y s f = cellN 0 0 0
    · rw [if_pos ⟨rfl, c⟩, if_pos c]
    · rw [if_neg (fun e => c e.2), if_neg c, rI_stN, if_pos]
      refine ⟨rfl, ?_⟩
      unfold cellN
      omega
  have hES0 : ES M n T D0 := by
    intro y s f hy hs hf
    rw [r0 y s f hy hs hf]
    by_cases c : cellN y s f = cellN 0 0 0
    · obtain ⟨c1, c2, c3⟩ := cell_inj hs hf (by decide) (by decide) c
      right
      refine ⟨0, id, ⟨fun k hk => absurd hk (by omega), fun i j hi => absurd hi (by omega), rfl⟩, c1.symm, ?_, c3.symm, ?_⟩
      · rw [c2]; rfl
      · rw [if_pos c]
        exact (show (-1 : Int32) = nI 0 - 1 by decide)
    · left
      rw [if_neg c]
  have hEC0 : EC M n T D0 (fun m d => m = 0 ∨ sOr d (m - 1) < 0) := by
    intro m d hv hP
    have hm : m = 0 := by omega
    subst hm
    show (rI D0 T (cellN 0 0 0)).toInt ≤ ((0 : Nat) : Int) - 1
    rw [r0 0 0 0 (by omega) (by omega) (by omega), if_pos rfl]
    decide
  unfold fX9_fillEarliest
  rw [if_pos (tg_27 hZ), a6, fill_c a8 (by decide), Option.bind_some, rR_stN, a6, c000, if_pos aT0, hix0, pu, ← eD0]
  refine loop_inv (fun s : Int32 × Mem => ∃ x, x ≤ 2 ^ n ∧ s.1 = nI x ∧ onT T D s.2 ∧ ES M n T s.2 ∧ EC M n T s.2 (fun m d => m = 0 ∨ sOr d (m - 1) < x)) (fun D1 => onT T D D1 ∧ ES M n T D1 ∧ EC M n T D1 (fun _ _ => True)) (fun s => 2 ^ n - ix s.1) ?_ _ ⟨0, by omega, rfl, w0, hES0, hEC0⟩
  rintro ⟨s, D3⟩ ⟨x, hx, e, w, eS, eC⟩
  dsimp only at e w eS eC
  subst e
  have hC3 := h.onT w
  have b2 := hC3.2.1
  have hsh := sh8 hn
  by_cases hxn : x = 2 ^ n
  · subst hxn
    refine Or.inr ⟨D3, by simp [b2, hsh], w, eS, eC.low (fun _ => Int.le_refl _) (fun m d hv _ => ?_)⟩
    cases m with
    | zero => exact Or.inl rfl
    | succ m =>
      right
      have := vl_bd hn hT (vl_pre hv).1
      exact this.2.2.2.1
  have hx : x < 2 ^ n := by omega
  have hle := nle hx (by omega)
  left
  dsimp only
  rw [b2, hsh, if_neg hle]
  obtain ⟨o, o1, D4, o2, o3, o4, o5⟩ := loop_inv (f := fun s10 : Int32 × Mem => (if (rI s10.2 27 3) < s10.1 then some (Sum.inr (Sum.inl (β := Mem) ((nI x + (1 : Int32)), s10.2))) else (Option.bind (fX9_extend Z s10.2 27 (nI x) (0 : Int32) s10.1) (fun v14 => (Option.bind (fX9_extend Z v14 27 (nI x) (1 : Int32) s10.1) (fun v16 => some (Sum.inl ((s10.1 + (1 : Int32)), v16))))))))
    (fun s : Int32 × Mem => ∃ f, f ≤ n + 1 ∧ s.1 = nI f ∧ onT T D s.2 ∧ ES M n T s.2 ∧ EC M n T s.2 (fun m d => m = 0 ∨ sOr d (m - 1) < x ∨ (sOr d (m - 1) = x ∧ (trn M d (m - 1)).2.2 < f))) (fun o => ∃ D4, o = Sum.inl (nI (x + 1), D4) ∧ onT T D D4 ∧ ES M n T D4 ∧ EC M n T D4 (fun m d => m = 0 ∨ sOr d (m - 1) < x + 1)) (fun s => n + 1 - ix s.1) (by
    rintro ⟨s, D5⟩ ⟨f, hf, e, w5, eS5, eC5⟩
    dsimp only at e w5 eS5 eC5
    subst e
    have hC5 := h.onT w5
    have b5 := hC5.2.1
    have hlt : nI n < nI f ↔ n < f := nI_ltI (by omega) (by omega)
    by_cases hfn : n < f
    · refine Or.inr ⟨Sum.inl (nI (x + 1), D5), ?_, D5, rfl, w5, eS5, eC5.low (fun _ => Int.le_refl _) (fun m d hv hP => ?_)⟩
      · dsimp only
        rw [b5, if_pos (hlt.mpr hfn), nI_1]
      · cases m with
        | zero => exact Or.inl rfl
        | succ m =>
          right
          have hb := vl_bd hn hT (vl_pre hv).1
          simp only [Nat.add_sub_cancel] at hP ⊢
          omega
    have hf : f ≤ n := by omega
    obtain ⟨D6, g1, g2, g3, g4, g5, g6⟩ := extend_c hZ hn hT hC5 eS5 hx (show 0 < 2 by omega) hf
    have hC6 := hC5.onT g2
    obtain ⟨D7, k1, k2, k3, k4, k5, k6⟩ := extend_c hZ hn hT hC6 g3 hx (show 1 < 2 by omega) hf
    refine Or.inl ⟨(nI (f + 1), D7), ?_, ⟨f + 1, by omega, rfl, (w5.tr g2).tr k2, k3, ?_⟩, ?_⟩
    · dsimp only
      rw [b5, if_neg (mt hlt.mp hfn), show (0 : Int32) = nI 0 from rfl, g1, Option.bind_some, show (1 : Int32) = nI 1 from rfl, k1, Option.bind_some, ← nI_add]
    · intro m d hv hP
      show (rI D7 T (cellN (sOr d m) (b2n (trn M d m).2.1) (trn M d m).2.2)).toInt ≤ ((trn M d m).1 : Int) - 1
      have hmono : ∀ k, (rI D7 T k).toInt ≤ (rI D5 T k).toInt := fun k => Int.le_trans (k4 k) (g4 k)
      by_cases hold : m = 0 ∨ sOr d (m - 1) < x ∨ (sOr d (m - 1) = x ∧ (trn M d (m - 1)).2.2 < f)
      · have := eC5 m d hv hold
        have := hmono (cellN (sOr d m) (b2n (trn M d m).2.1) (trn M d m).2.2)
        omega
      · obtain ⟨m', rfl⟩ : ∃ m', m = m' + 1 := ⟨m - 1, by omega⟩
        simp only [Nat.add_sub_cancel] at hP hold
        have q1 : sOr d m' = x := by omega
        have q2 : (trn M d m').2.2 = f := by omega
        obtain ⟨p1, p2, p3⟩ := vl_pre hv
        have hpre := eC5 m' d p1 (by
          cases m' with
          | zero => exact Or.inl rfl
          | succ m'' =>
            right
            left
            have := sOr_grow hn hT p1
            simp only [Nat.add_sub_cancel]
            omega)
        rw [q1, q2] at hpre
        have hb := b2n_lt (trn M d m').2.1
        have hc : b2n (trn M d m').2.1 = 0 ∨ b2n (trn M d m').2.1 = 1 := by omega
        rcases hc with hc | hc
        · rw [hc] at hpre
          have := g6 m' d hv q1 hc q2 hpre
          have := k4 (cellN (sOr d (m' + 1)) (b2n (trn M d (m' + 1)).2.1) (trn M d (m' + 1)).2.2)
          omega
        · rw [hc] at hpre
          refine k6 m' d hv q1 hc q2 ?_
          have := g4 (cellN x 1 f)
          omega
    · dsimp only
      rw [ix_nI (by omega), ix_nI (by omega)]
      omega) ((0 : Int32), D3) ⟨0, by omega, rfl, w, eS, eC.low (fun _ => Int.le_refl _) (fun m d hv hP => by omega)⟩
  refine ⟨(nI (x + 1), D4), ?_, ⟨x + 1, by omega, rfl, o3, o4, o5⟩, ?_⟩
  · rw [o2] at o1
    exact o1
  · dsimp only
    rw [ix_nI (by omega), ix_nI (by omega)]
    omega
theorem full_set {M : Mem} {n m : Nat} {d : Nat → Nat} (hv : vl M n m d) (h : sOr d m = 2 ^ n - 1) : m = n ∧ Feas M n d := by
  have hm : m = n := by
    have h1 := inj_le hv.1 hv.2.1
    refine Classical.byContradiction fun hc => ?_
    have hall : ∀ v, v < n → ∃ k, k < m ∧ d k = v := by
      intro v hvn
      refine (sOr_bit d v m).mp ?_
      rw [h, Nat.testBit_two_pow_sub_one]
      exact decide_eq_true hvn
    have key : ∀ v, ∃ k, v < n → k < m ∧ d k = v := fun v => by
      by_cases q : v < n
      · obtain ⟨k, hk⟩ := hall v q
        exact ⟨k, fun _ => hk⟩
      · exact ⟨0, fun q2 => absurd q2 q⟩
    have := inj_le (m := n) (n := m) (f := fun v => Classical.choose (key v)) (fun v hv => (Classical.choose_spec (key v) hv).1) (fun i j hi hj e => by
      have e1 := (Classical.choose_spec (key i) hi).2
      have e2 := (Classical.choose_spec (key j) hj).2
      rw [← e1, e, e2])
    omega
  subst hm
  exact ⟨rfl, ⟨hv.1, hv.2.1⟩, hv.2.2⟩
theorem set_full {M : Mem} {n : Nat} {p : Nat → Nat} (h : Feas M n p) : vl M n n p ∧ sOr p n = 2 ^ n - 1 := by
  refine ⟨⟨h.1.1, h.1.2, h.2⟩, Nat.eq_of_testBit_eq fun v => ?_⟩
  rw [Nat.testBit_two_pow_sub_one]
  by_cases c : v < n
  · obtain ⟨k, k1, k2⟩ := inj_surj n p h.1.1 h.1.2 v c
    rw [decide_eq_true c, (sOr_bit p v n).mpr ⟨k, k1, k2⟩]
  · rw [decide_eq_false c]
    cases e : (sOr p n).testBit v with
    | false => rfl
    | true =>
      obtain ⟨k, k1, k2⟩ := (sOr_bit p v n).mp e
      have := h.1.1 k k1
      omega
/-- fewest fillings, and then the earliest end -/
def GL (M : Mem) (n f t : Nat) : Prop := (∃ p, Feas M n p ∧ fls M n p = f ∧ lst M n p = t) ∧ ∀ q, Feas M n q → f < fls M n q ∨ (f = fls M n q ∧ t ≤ lst M n q)
theorem goal_c {Z : Shp} {M : Mem} {n T : Nat} {D : Mem} (hZ : OKZ Z) (hn : n ≤ 8) (hT : tOk M n) (h : CMs Z M n T D) (hES : ES M n T D) (hEC : EC M n T D (fun _ _ => True)) : ∃ D1, fX9_chooseGoal Z D 27 = some D1 ∧ Wr Z [(27, some 6), (27, some 7)] [] [] D D1 ∧ ((rI D1 27 6 = -1 ∧ rI D1 27 7 = -1 ∧ ∀ q, ¬ Feas M n q) ∨ ∃ f t, f ≤ n ∧ t ≤ 31 ∧ rI D1 27 6 = nI f ∧ rI D1 27 7 = nI t - 1 ∧ GL M n f t) := by
  obtain ⟨a1, a2, a3, a4, a5, a6, a7, a8⟩ := id h
  have m1000 : (1000 : Int32).toInt = 1000 := by decide
  have h256 : 2 ^ n ≤ 256 := by
    have h4 : 2 ^ n ≤ 2 ^ 8 := Nat.pow_le_pow_right (by decide) hn
    have h5 : (2 : Nat) ^ 8 = 256 := by decide
    omega
  have hp0 : 0 < 2 ^ n := Nat.two_pow_pos n
  have hsh := sh8 hn
  have hz2 : nI (2 ^ n) - 1 = nI (2 ^ n - 1) := nI_prd (by omega)
  have hfe : ∀ q, Feas M n q → fls M n q ≤ n ∧ lst M n q ≤ 31 ∧ (rI D T (cellN (2 ^ n - 1) (b2n (trn M q n).2.1) (fls M n q))).toInt ≤ (lst M n q : Int) - 1 := by
    intro q hq
    obtain ⟨q1, q2⟩ := set_full hq
    have hb := vl_bd hn hT q1
    have := hEC n q q1 trivial
    rw [q2] at this
    unfold fls lst
    exact ⟨by omega, by omega, this⟩
  have hso : ∀ s f, s < 2 → f < 9 → rI D T (cellN (2 ^ n - 1) s f) = 1000 ∨ ∃ p, Feas M n p ∧ fls M n p = f ∧ rI D T (cellN (2 ^ n - 1) s f) = nI (lst M n p) - 1 := by
    intro s f hs hf
    rcases hES (2 ^ n - 1) s f (by omega) hs hf with c | ⟨m, d, c1, c2, c3, c4, c5⟩
    · exact Or.inl c
    · obtain ⟨e1, e2⟩ := full_set c1 c2
      subst e1
      exact Or.inr ⟨d, e2, c4, c5⟩
  have lint : ∀ t : Nat, t ≤ 31 → (nI t - 1).toInt = (t : Int) - 1 := by
    intro t ht
    have b1 : (1 : Int32).toInt = 1 := by decide
    have b2 := nI_toInt (n := t) (by omega)
    rw [subI (by omega) (by omega)]
    omega
  unfold fX9_chooseGoal
  rw [if_pos (tg_27 hZ), a2, hsh, hz2]
  simp only [pu]
  refine loop_inv (fun s : Int32 × Mem => ∃ f, f ≤ n + 1 ∧ s.1 = nI f ∧ Wr Z [(27, some 6), (27, some 7)] [] [] D s.2 ∧ ((rI s.2 27 6 = -1 ∧ rI s.2 27 7 = -1 ∧ ∀ q, Feas M n q → f ≤ fls M n q) ∨ ∃ g t, g ≤ n ∧ t ≤ 31 ∧ rI s.2 27 6 = nI g ∧ rI s.2 27 7 = nI t - 1 ∧ GL M n g t)) (fun D1 => Wr Z [(27, some 6), (27, some 7)] [] [] D D1 ∧ ((rI D1 27 6 = -1 ∧ rI D1 27 7 = -1 ∧ ∀ q, ¬ Feas M n q) ∨ ∃ f t, f ≤ n ∧ t ≤ 31 ∧ rI D1 27 6 = nI f ∧ rI D1 27 7 = nI t - 1 ∧ GL M n f t)) (fun s => n + 1 - ix s.1) ?_ _ ⟨0, by omega, rfl, (Wr.rf.sI (by simp [inF])).sI (by simp [inF]), Or.inl ⟨by simp [rI_wI], by simp [rI_wI], fun q _ => by omega⟩⟩
  rintro ⟨s, D3⟩ ⟨f, hf, e, w, hc⟩
  dsimp only at e w hc
  subst e
  have c3 : rI D3 27 3 = nI n := by rw [w.at (F := [(27, some 3)]) (by decide) (by simp) (by omega), a2]
  have cR : rR D3 27 9 = T := by rw [w.2 27 9 (by simp) (by simp), a6]
  have cT : ∀ k, rI D3 T k = rI D T k := fun k => w.dyn (by decide) a7 (by simp) k
  have hlt : nI n < nI f ↔ n < f := nI_ltI (by omega) (by omega)
  rcases hc with ⟨x1, x2, x3⟩ | ⟨g, t, x1, x2, x3, x4, x5⟩
  case inr =>
    right
    refine ⟨D3, ?_, w, Or.inr ⟨g, t, x1, x2, x3, x4, x5⟩⟩
    dsimp only
    rw [c3, x3]
    by_cases c : nI n < nI f
    · rw [if_pos c]
    · rw [if_neg c, if_neg (nm1 (by omega))]
  by_cases hfn : n < f
  · right
    refine ⟨D3, ?_, w, Or.inl ⟨x1, x2, fun q hq => ?_⟩⟩
    · dsimp only
      rw [c3, if_pos (hlt.mpr hfn)]
    · have := x3 q hq
      have := (hfe q hq).1
      omega
  have hf : f ≤ n := by omega
  have i0 : cellN (2 ^ n - 1) 0 f < 4608 := by unfold cellN; omega
  have i1 : cellN (2 ^ n - 1) 1 f < 4608 := by unfold cellN; omega
  have aT0 : aok Z T 100 (nI (cellN (2 ^ n - 1) 0 f)) := aok_nI a8 i0 (by decide)
  have aT1 : aok Z T 100 (nI (cellN (2 ^ n - 1) 1 f)) := aok_nI a8 i1 (by decide)
  have hc0 : fX9_cell (nI (2 ^ n - 1)) 0 (nI f) = nI (cellN (2 ^ n - 1) 0 f) := cell_c (s := 0)
  have hc1 : fX9_cell (nI (2 ^ n - 1)) 1 (nI f) = nI (cellN (2 ^ n - 1) 1 f) := cell_c (s := 1)
  left
  dsimp only
  rw [c3, if_neg (mt hlt.mp hfn), x1, if_pos rfl, cR, hc0, hc1, if_pos aT0, if_pos aT1, ix_nI (show cellN (2 ^ n - 1) 0 f < 2 ^ 31 by omega), ix_nI (show cellN (2 ^ n - 1) 1 f < 2 ^ 31 by omega), cT, cT]
  obtain ⟨z, ez⟩ : ∃ z, z = mnI (rI D T (cellN (2 ^ n - 1) 0 f)) (rI D T (cellN (2 ^ n - 1) 1 f)) := ⟨_, rfl⟩
  rw [← ez]
  have hzle : z.toInt ≤ (rI D T (cellN (2 ^ n - 1) 0 f)).toInt ∧ z.toInt ≤ (rI D T (cellN (2 ^ n - 1) 1 f)).toInt ∧ (z = rI D T (cellN (2 ^ n - 1) 0 f) ∨ z = rI D T (cellN (2 ^ n - 1) 1 f)) := by
    rw [ez]
    unfold mnI
    by_cases q : rI D T (cellN (2 ^ n - 1) 1 f) < rI D T (cellN (2 ^ n - 1) 0 f)
    · rw [if_pos q]
      rw [i32_lt] at q
      exact ⟨by omega, by omega, Or.inr rfl⟩
    · rw [if_neg q]
      rw [i32_lt] at q
      exact ⟨by omega, by omega, Or.inl rfl⟩
  have hzq : ∀ q, Feas M n q → fls M n q = f → z.toInt ≤ (lst M n q : Int) - 1 := by
    intro q hq e
    obtain ⟨y1, y2, y3⟩ := hfe q hq
    rw [e] at y3
    have hb := b2n_lt (trn M q n).2.1
    have hb2 : b2n (trn M q n).2.1 = 0 ∨ b2n (trn M q n).2.1 = 1 := by omega
    rcases hb2 with hb2 | hb2
    · rw [hb2] at y3; omega
    · rw [hb2] at y3; omega
  have hmu : n + 1 - ix (nI (f + 1)) < n + 1 - ix (nI f) := by
    rw [ix_nI (by omega), ix_nI (by omega)]
    omega
  by_cases c : z = 1000
  · refine ⟨(nI (f + 1), D3), by rw [if_pos c, nI_1], ⟨f + 1, by omega, rfl, w, Or.inl ⟨x1, x2, fun q hq => ?_⟩⟩, hmu⟩
    have y1 := x3 q hq
    by_cases e : fls M n q = f
    · have y2 := hzq q hq e
      have y3 := (hfe q hq).2.1
      rw [c, m1000] at y2
      omega
    · omega
  · obtain ⟨p, p1, p2, p3⟩ : ∃ p, Feas M n p ∧ fls M n p = f ∧ z = nI (lst M n p) - 1 := by
      rcases hzle.2.2 with e | e
      · rcases hso 0 f (by omega) (by omega) with y | ⟨p, y1, y2, y3⟩
        · exact absurd (e.trans y) c
        · exact ⟨p, y1, y2, e.trans y3⟩
      · rcases hso 1 f (by omega) (by omega) with y | ⟨p, y1, y2, y3⟩
        · exact absurd (e.trans y) c
        · exact ⟨p, y1, y2, e.trans y3⟩
    have p4 := (hfe p p1).2.1
    refine ⟨(nI (f + 1), wI (wI D3 27 6 (nI f)) 27 7 z), by rw [if_neg c, nI_1], ⟨f + 1, by omega, rfl, (w.sI (by simp [inF])).sI (by simp [inF]), Or.inr ⟨f, lst M n p, hf, p4, ?_, ?_, ⟨p, p1, p2, rfl⟩, fun q hq => ?_⟩⟩, hmu⟩
    · simp [rI_wI]
    · simp [rI_wI, p3]
    · have y1 := x3 q hq
      by_cases e : fls M n q = f
      · have y2 := hzq q hq e
        rw [p3, lint _ p4] at y2
        right
        omega
      · left
        omega
