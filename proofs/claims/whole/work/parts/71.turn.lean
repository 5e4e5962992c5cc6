/-! turn -/
theorem Feas_mem {M M1 : Mem} {n : Nat} (h0 : ∀ k, rI M1 90 k = rI M 90 k) (h1 : ∀ k, rI M1 91 k = rI M 91 k) (h2 : ∀ k, rI M1 92 k = rI M 92 k) (q : Nat → Nat) : Feas M1 n q ↔ Feas M n q := by
  unfold Feas
  rw [tlate_mem h0 h1 h2]
theorem BSx.mem {M M1 : Mem} {n X : Nat} {F L : Int32} {o : Nat → Int32} (h0 : ∀ k, rI M1 90 k = rI M 90 k) (h1 : ∀ k, rI M1 91 k = rI M 91 k) (h2 : ∀ k, rI M1 92 k = rI M 92 k) (h : BSx M n X F L o) : BSx M1 n X F L o := by
  have hf : ∀ q, fls M1 n q = fls M n q := fun q => by
    unfold fls
    rw [trn_mem h0 h1]
  have hl : ∀ q, lst M1 n q = lst M n q := fun q => by
    unfold lst
    rw [trn_mem h0 h1]
  rcases h with ⟨a, b⟩ | ⟨p, a1, a2, a3, a4, a5, a6⟩
  · exact Or.inl ⟨fun q hq => a q ((Feas_mem h0 h1 h2 q).mp hq), b⟩
  · refine Or.inr ⟨p, (Feas_mem h0 h1 h2 p).mpr a1, a2, by rw [hf]; exact a3, by rw [hl]; exact a4, a5, fun q hq hc => ?_⟩
    have := a6 q ((Feas_mem h0 h1 h2 q).mp hq) hc
    unfold ble at this ⊢
    rw [hf, hf, hl, hl]
    exact this
theorem BSx.uniq {M : Mem} {n X : Nat} {F L F1 L1 : Int32} {o o1 : Nat → Int32} (hn : n ≤ 8) (h : BSx M n X F L o) (h1 : BSx M n X F1 L1 o1) : F = F1 ∧ (F = -1 ∨ (L = L1 ∧ ∀ k, k < n → o k = o1 k)) := by
  rcases h with ⟨a, b⟩ | ⟨p, a1, a2, a3, a4, a5, a6⟩
  · rcases h1 with ⟨c, d⟩ | ⟨p1, c1, c2, c3, c4, c5, c6⟩
    · exact ⟨by rw [b, d], Or.inl b⟩
    · exact absurd c2 (a p1 c1)
  · rcases h1 with ⟨c, d⟩ | ⟨p1, c1, c2, c3, c4, c5, c6⟩
    · exact absurd a2 (c p a1)
    · have e1 := a6 p1 c1 c2
      have e2 := c6 p a1 a2
      unfold ble at e1 e2
      have f1 : fls M n p = fls M n p1 := by omega
      have f2 : lst M n p = lst M n p1 := by omega
      have f3 : cdo p n = cdo p1 n := by omega
      have f4 := same_code hn c1.1 a1.1 f3
      exact ⟨by rw [a3, c3, f1], Or.inr ⟨by rw [a4, c4, f2], fun k hk => by rw [a5 k hk, c5 k hk, f4 k hk]⟩⟩
theorem first_perm {n : Nat} (hn : n ≤ 8) {q : Nat → Nat} (hq : isP n q) : cdo id n ≤ cdo q n := by
  rcases fst_diff id q n with h | ⟨d, d1, d2, d3⟩
  · rw [cdo_congr n h]
    exact Nat.le_refl _
  · refine Nat.le_of_lt (cdo_lt d2 ?_ n d1 (fun k hk => by show k < 8; omega))
    show d < q d
    have d3 : d ≠ q d := d3
    by_cases c : q d < d
    · have h1 := d2 (q d) c
      have h1 : q d = q (q d) := h1
      have := hq.2 d (q d) d1 (by omega) h1
      omega
    · omega
theorem onT.wr {Z : Shp} {T : Nat} {D D1 : Mem} (h : onT T D D1) (h1 : 110 ≤ T) (h2 : tg Z T = (100, 4608)) {L : List (Nat × Option Nat)} {LR : List Nat} : Wr Z L [100] LR D D1 := by
  refine ⟨fun a k _ hb => ⟨h.1 a k (fun e => hb ?_), h.2.1 a k⟩, fun a k _ _ => h.2.2 a k⟩
  rw [e, h2]
  exact ⟨h1, by simp⟩
theorem fix27 {M : Mem} (hF : Fix M) {a b : Nat} (ha : 110 ≤ a) : Fix (wR (nw M a) 27 9 b) := by
  have key : FRl.all (fun p => decide (p.1 < 110 ∧ ¬ (p.1 = 27 ∧ p.2.1 = 9))) = true := by decide
  intro p hp
  have h := of_decide_eq_true (List.all_eq_true.mp key p hp)
  rw [rR_wR, if_neg h.2, rR_nw, if_neg (by omega)]
  exact hF p hp
abbrev FSol : List (Nat × Option Nat) := [(27, some 5), (27, some 6), (27, some 7), (31, none)]
def TbOk (Z : Shp) (M : Mem) : Prop := rR M 27 9 = 0 ∨ (110 ≤ rR M 27 9 ∧ tg Z (rR M 27 9) = (100, 4608))
def SoOk (M : Mem) (n : Nat) : Prop := BSx M n 16777216 (rI M 27 6) (rI M 27 7) (rI M 31) ∧ (rI M 27 6 = -1 → rI M 27 7 = -1)
/-- the table stands: what is found -/
theorem found_c {Z : Shp} {M D : Mem} (hZ : OKZ Z) {n T : Nat} (hn : n ≤ 8) (hT : tOk M n) (h : CMs Z M n T D) : ∃ D1, Option.bind (fX9_fillEarliest Z D 27) (fun v14 => (Option.bind (fX9_chooseGoal Z v14 27) (fun v16 => (if (rI v16 27 6) = (-1 : Int32) then some (Z, v16) else (Option.bind (fX9_fillLatest Z v16 27) (fun v19 => (Option.bind (fX9_layOut Z v19 27) (fun v21 => some (Z, v21))))))))) = some (Z, D1) ∧ Wr Z FSol [100] [] D D1 ∧ BSx M n 16777216 (rI D1 27 6) (rI D1 27 7) (rI D1 31) ∧ (rI D1 27 6 = -1 → rI D1 27 7 = -1) := by
  have h7 := h.2.2.2.2.2.2.1
  have h8 := h.2.2.2.2.2.2.2
  obtain ⟨D2, a1, a2, a3, a4⟩ := early_c hZ hn hT h
  have h2 := h.onT a2
  have w2 : Wr Z FSol [100] [] D D2 := a2.wr h7 h8
  obtain ⟨D3, b1, b2, b3⟩ := goal_c hZ hn hT h2 a3 a4
  have w3 : Wr Z FSol [100] [] D D3 := w2.tr (b2.mono (by simp) (by simp) (by simp))
  rw [a1, Option.bind_some, b1, Option.bind_some]
  rcases b3 with ⟨c1, c2, c3⟩ | ⟨F, L, c1, c2, c3, c4, c5⟩
  · exact ⟨D3, by rw [if_pos c1], w3, Or.inl ⟨fun q hq => absurd hq (c3 q), c1⟩, fun _ => c2⟩
  · have hd : dis [(27, some 6), (27, some 7)] [(27, some 3), (28, none), (29, none), (30, none)] = true := by decide
    have h3 : CMs Z M n T D3 := by
      refine h2.cg (fun a k ha => ?_) (fun a k => b2.2 a k (by simp) (by simp))
      rcases ha with rfl | rfl | rfl | ⟨rfl, rfl⟩
      · exact b2.row hd (by simp) (by omega) k
      · exact b2.row hd (by simp) (by omega) k
      · exact b2.row hd (by simp) (by omega) k
      · exact b2.at hd (by simp) (by omega)
    have hcl : CL Z M n T F L D3 := ⟨h3, c3, c4, c1, c2⟩
    obtain ⟨D4, d1, d2, d3⟩ := late_c hZ hn hT hcl
    obtain ⟨D5, e1, e2, e3⟩ := lay_c hZ hn hT (hcl.onT d2) d3 c5
    have k6 : rI D5 27 6 = nI F := by rw [e2.row (F := [(27, none)]) (by decide) (by simp) (by omega), d2.1 27 6 (by omega), c3]
    have k7 : rI D5 27 7 = nI L - 1 := by rw [e2.row (F := [(27, none)]) (by decide) (by simp) (by omega), d2.1 27 7 (by omega), c4]
    have hne : ¬ nI F = -1 := nm1 (by omega)
    refine ⟨D5, ?_, (w3.tr (d2.wr h7 h8)).tr (e2.mono (by simp) (by simp) (by simp)), by rw [k6, k7]; exact e3, fun q => absurd (k6.symm.trans q) hne⟩
    rw [c3, if_neg hne, d1, Option.bind_some, e1, Option.bind_some]
theorem solve_c {Z : Shp} {M : Mem} (hZ : OKZ Z) (hF : Fix M) (hI : ICome M) {n : Nat} (hn : n ≤ 8) (h3 : rI M 27 3 = nI n) (hT : tOk M n) (hB : TbOk Z M) (hS : rI M 27 5 = 0 ∨ SoOk M n) : ∃ Z1 M1, fX9_solve Z M 27 = some (Z1, M1) ∧ Ext Z Z1 ∧ Fix M1 ∧ TbOk Z1 M1 ∧ Wr Z1 FSol [100] [27] M M1 ∧ SoOk M1 n := by
  unfold fX9_solve
  rw [if_pos (tg_27 hZ)]
  by_cases c5 : rI M 27 5 = 0
  case neg =>
    rw [if_neg c5]
    exact ⟨Z, M, rfl, Ext_rf Z, hF, hB, Wr.rf, hS.resolve_left c5⟩
  rw [if_pos c5]
  obtain ⟨n', -, i3, -, i90, i91, i92, -⟩ := id hI
  simp only [pu, pu2]
  have w5 : Wr Z FSol [100] [27] M (wI M 27 5 1) := Wr.rf.sI (by simp [inF])
  -- D stands on its table
  have fin : ∀ (Z1 : Shp) (D : Mem), Ext Z Z1 → Wr Z1 FSol [100] [27] M D → Fix D → (110 ≤ rR D 27 9 ∧ tg Z1 (rR D 27 9) = (100, 4608)) → (∀ a k, a < 110 → ¬ (a = 27 ∧ k = 5) → rI D a k = rI M a k) → ∃ Z2 M1, (if tg Z1 27 = (10, 10) then Option.bind (fX9_fillEarliest Z1 D 27) (fun v14 => (Option.bind (fX9_chooseGoal Z1 v14 27) (fun v16 => (if (rI v16 27 6) = (-1 : Int32) then some (Z1, v16) else (Option.bind (fX9_fillLatest Z1 v16 27) (fun v19 => (Option.bind (fX9_layOut Z1 v19 27) (fun v21 => some (Z1, v21))))))))) else none) = some (Z2, M1) ∧ Ext Z Z2 ∧ Fix M1 ∧ TbOk Z2 M1 ∧ Wr Z2 FSol [100] [27] M M1 ∧ SoOk M1 n := by
    intro Z1 D hE w hFD h9 hr
    have hZ1 : OKZ Z1 := Ext_tr hZ hE
    have hC : CMs Z1 M n (rR D 27 9) D := ⟨hFD, by rw [hr 27 3 (by omega) (by omega), h3], fun k => by rw [hr 28 k (by omega) (by omega), i90], fun k => by rw [hr 29 k (by omega) (by omega), i91], fun k => by rw [hr 30 k (by omega) (by omega), i92], rfl, h9.1, h9.2⟩
    obtain ⟨D1, f1, f2, f3, f4⟩ := found_c hZ1 hn hT hC
    rw [if_pos (tg_27 hZ1)]
    have e9 : rR D1 27 9 = rR D 27 9 := f2.rowR (by omega) rfl 9
    have w1 : Wr Z1 FSol [100] [27] M D1 := w.tr (f2.mono (by simp) (by simp) (by simp))
    have hd : dis FSol [(90, none), (91, none), (92, none)] = true := by decide
    exact ⟨Z1, D1, f1, hE, f2.fix hFD (by decide), Or.inr (by rw [e9]; exact h9), w1, f3.mem (fun k => w1.row hd (by simp) (by omega) k) (fun k => w1.row hd (by simp) (by omega) k) (fun k => w1.row hd (by simp) (by omega) k), f4⟩
  by_cases c9 : rR M 27 9 = 0
  · rw [if_pos (show rR (wI M 27 5 1) 27 9 = 0 from c9), Option.bind_some]
    have hl := len_ok hZ
    obtain ⟨a, ea⟩ : ∃ a, a = Z.length + 2 := ⟨_, rfl⟩
    have hta := tg_app_new Z 100 4608
    have h4608 : ix (4608 : Int32) = 4608 := by decide
    rw [h4608]
    rw [← ea] at hta ⊢
    have hE : Ext Z (Z ++ [(100, 4608)]) := Ext_app _ _
    generalize Z ++ [(100, 4608)] = Z1 at hta hE ⊢
    refine fin Z1 (wR (nw (wI M 27 5 1) a) 27 9 a) hE ?_ (fix27 (hF.wI _ _ _) (by omega)) ?_ ?_
    · refine ((Wr.rf.sI (by simp [inF])).nw (by omega) ?_).sR (by simp)
      rw [hta]
      simp
    · rw [rR_wR, if_pos ⟨rfl, rfl⟩]
      exact ⟨by omega, hta⟩
    · intro b k hb hk
      rw [rI_wR, rI_nw, if_neg (by omega), rI_wI, if_neg hk]
  · rw [if_neg (show ¬ rR (wI M 27 5 1) 27 9 = 0 from c9), Option.bind_some]
    refine fin Z (wI M 27 5 1) (Ext_rf Z) w5 (hF.wI _ _ _) ?_ ?_
    · rw [rR_wI]
      exact hB.resolve_left c9
    · intro b k hb hk
      rw [rI_wI, if_neg hk]
def idO (D : Mem) : Nat → Mem
  | 0 => D
  | k + 1 => wI (idO D k) 93 k (nI k)
theorem rI_idO (D : Mem) (a k : Nat) : ∀ j, rI (idO D j) a k = if a = 93 ∧ k < j then nI k else rI D a k := by
  intro j
  induction j with
  | zero => rw [if_neg (by omega)]; rfl
  | succ j ih =>
    rw [idO, rI_wI, ih]
    by_cases c : a = 93 ∧ k = j
    · rw [if_pos c, if_pos (by omega), c.2]
    · rw [if_neg c]
      by_cases d : a = 93 ∧ k < j
      · rw [if_pos d, if_pos (by omega)]
      · rw [if_neg d, if_neg (by omega)]
theorem rR_idO (D : Mem) (a k : Nat) : ∀ j, rR (idO D j) a k = rR D a k := by
  intro j
  induction j with
  | zero => rfl
  | succ j ih => rw [idO, rR_wI, ih]
theorem Wr.ido {Z : Shp} {L : List (Nat × Option Nat)} {ts LR : List Nat} {M M1 : Mem} (h : Wr Z L ts LR M M1) (hm : (93, none) ∈ L) (j : Nat) : Wr Z L ts LR M (idO M1 j) := by
  induction j with
  | zero => exact h
  | succ j ih => exact ih.sI (Or.inl hm)
def ISolved (Z : Shp) (M : Mem) : Prop := TbOk Z M ∧ (∃ a, a ≤ 20 ∧ rI M 27 4 = nI a ∧ rI M 51 61 = nI a) ∧ (rI M 27 5 = 0 ∨ ∃ n, n ≤ 8 ∧ rI M 27 3 = nI n ∧ SoOk M n)
abbrev FTurn : List (Nat × Option Nat) := [(27, some 4), (27, some 5), (27, some 6), (27, some 7), (31, none), (93, none), (94, none), (51, some 64), (51, some 65), (51, some 61)]
theorem op_turn {Z : Shp} {M : Mem} (hZ : OKZ Z) (hF : Fix M) (hI : ICome M) (hS : ISolved Z M) (x1 : Int32) : ∃ r Z1 M1 M2, fX11_turn Z M 2 x1 = some (r, Z1, M1) ∧ fX12_turn Z1 M1 51 x1 = some (r, M2) ∧ Ext Z Z1 ∧ Fix M2 ∧ ISolved Z1 M2 ∧ Wr Z1 FTurn [100] [27] M M2 := by
  have i01 : fX12_in x1.toInt64 (0 : Int64) (1 : Int64) = fX11_within x1 0 1 := in_w (by decide) (by decide)
  have i17 : fX12_in x1.toInt64 (10 : Int64) (17 : Int64) = fX11_within x1 10 17 := in_w (by decide) (by decide)
  by_cases hr : fX11_within x1 0 1 = 0 ∧ fX11_within x1 10 17 = 0
  · refine ⟨-102, Z, M, M, ?_, ?_, Ext_rf Z, hF, hS, Wr.rf⟩
    · unfold fX11_turn
      rw [if_pos hr.1, if_pos hr.2]
      rfl
    · unfold fX12_turn
      rw [i01, i17, if_pos hr.1, if_pos hr.2]
      rfl
  obtain ⟨hB, ⟨a, ha, q4, q61⟩, hSo⟩ := id hS
  obtain ⟨n, hn, n3, n57, i90, i91, i92, hv⟩ := id hI
  have hT : tOk M n := tOk_of hv
  have jsc : ∀ G : Unit → Option (Int32 × Shp × Mem), js (if (fX11_within x1 (0 : Int32) (1 : Int32)) = 0 then (if (fX11_within x1 (10 : Int32) (17 : Int32)) = 0 then some (Sum.inr ((-102 : Int32), Z, M)) else some (Sum.inl ())) else some (Sum.inl ())) G = G () := by
    intro G
    by_cases c : fX11_within x1 0 1 = 0
    · rw [if_pos c, if_neg (fun h => hr ⟨c, h⟩)]
      rfl
    · rw [if_neg c]
      rfl
  have jsm : ∀ (M1 : Mem) (G : Unit → Option (Int32 × Mem)), js (if (fX11_within x1 (0 : Int32) (1 : Int32)) = 0 then (if (fX11_within x1 (10 : Int32) (17 : Int32)) = 0 then some (Sum.inr ((-102 : Int32), M1)) else some (Sum.inl ())) else some (Sum.inl ())) G = G () := by
    intro M1 G
    by_cases c : fX11_within x1 0 1 = 0
    · rw [if_pos c, if_neg (fun h => hr ⟨c, h⟩)]
      rfl
    · rw [if_neg c]
      rfl
  have hx : x1 = 0 ∨ x1 = 1 ∨ ∃ k, k < 8 ∧ x1 - 10 = nI k ∧ ¬ x1 = 0 ∧ ¬ x1 = 1 := by
    by_cases c : fX11_within x1 0 1 = 0
    · have c2 : ¬ fX11_within x1 10 17 = 0 := fun h => hr ⟨c, h⟩
      obtain ⟨r1, r2⟩ := w_rng c2
      have l1 : (10 : Int32).toInt = 10 := by decide
      have l2 : (17 : Int32).toInt = 17 := by decide
      have l3 : (0 : Int32).toInt = 0 := by decide
      have l4 : (1 : Int32).toInt = 1 := by decide
      have hs := subI (a := x1) (b := 10) (by omega) (by omega)
      right
      right
      refine ⟨(x1 - 10).toInt.toNat, by omega, ?_, fun e => by rw [e] at r1; omega, fun e => by rw [e] at r1; omega⟩
      rw [i32_eq, nI_toInt (by omega)]
      omega
    · obtain ⟨r1, r2⟩ := w_rng c
      have l3 : (0 : Int32).toInt = 0 := by decide
      have l4 : (1 : Int32).toInt = 1 := by decide
      by_cases z : x1.toInt = 0
      · left
        rw [i32_eq]
        omega
      · right
        left
        rw [i32_eq]
        omega
  by_cases c20 : a = 20
  · subst c20
    refine ⟨-103, Z, M, M, ?_, ?_, Ext_rf Z, hF, hS, Wr.rf⟩
    · unfold fX11_turn
      rw [jsc, if_pos (tg_2 hZ), fr_2_2 hF, if_pos (tg_27 hZ), q4, if_neg (by decide)]
    · unfold fX12_turn
      rw [i01, i17, jsm, if_pos (tg_51 hZ), q61, if_pos (by decide)]
  have ha : a < 20 := by omega
  have a20 : nI a < 20 := nI_lt (b := 20) ha (by decide)
  have a20' : ¬ nI a = 20 := fun e => by
    have := (nI_eq (a := a) (b := 20) (by omega) (by omega)).mp e
    omega
  -- the class
  obtain ⟨Mc, eMc⟩ : ∃ Mc, Mc = wI M 27 4 (nI (a + 1)) := ⟨_, rfl⟩
  have rc : ∀ b k, ¬ (b = 27 ∧ k = 4) → rI Mc b k = rI M b k := fun b k h => by rw [eMc, rI_wI, if_neg h]
  have hFc : Fix Mc := by rw [eMc]; exact hF.wI _ _ _
  have hIc : ICome Mc := by
    refine ⟨n, hn, by rw [rc _ _ (by omega), n3], by rw [rc _ _ (by omega), n57], fun k => by rw [rc _ _ (by omega), rc _ _ (by omega), i90], fun k => by rw [rc _ _ (by omega), rc _ _ (by omega), i91], fun k => by rw [rc _ _ (by omega), rc _ _ (by omega), i92], fun k hk => ?_⟩
    rw [rc _ _ (by omega), rc _ _ (by omega), rc _ _ (by omega)]
    exact hv k hk
  have hTc : tOk Mc n := by
    refine tOk_of (fun k hk => ?_)
    rw [rc _ _ (by omega), rc _ _ (by omega), rc _ _ (by omega)]
    exact hv k hk
  have hBc : TbOk Z Mc := by
    unfold TbOk
    rw [eMc, rR_wI]
    exact hB
  have hSc : rI Mc 27 5 = 0 ∨ SoOk Mc n := by
    rcases hSo with c | ⟨n', hn', c1, c2, c3⟩
    · left
      rw [rc _ _ (by omega), c]
    · right
      have : n' = n := (nI_eq (by omega) (by omega)).mp (c1.symm.trans n3)
      subst this
      unfold SoOk
      rw [rc 27 6 (by omega), rc 27 7 (by omega), show rI Mc 31 = rI M 31 from funext fun k => rc 31 k (by omega)]
      exact ⟨c2.mem (fun k => rc _ _ (by omega)) (fun k => rc _ _ (by omega)) (fun k => rc _ _ (by omega)), c3⟩
  obtain ⟨Z1, M1, s1, s2, s3, s4, s5, s6, s7⟩ := solve_c hZ hFc hIc hn (by rw [rc _ _ (by omega), n3]) hTc hBc hSc
  have hZ1 : OKZ Z1 := Ext_tr hZ s2
  have hd : dis FSol [(27, some 4), (27, some 3), (51, none), (90, none), (91, none), (92, none)] = true := by decide
  have w1 : Wr Z1 FTurn [100] [27] M M1 := by
    refine Wr.tr (M1 := Mc) ?_ (s5.mono (by simp) (by simp) (by simp))
    rw [eMc]
    exact Wr.rf.sI (by simp [inF])
  have m57 : rI M1 51 57 = nI n := by rw [s5.row hd (by simp) (by omega), rc _ _ (by omega), n57]
  have m61 : rI M1 51 61 = nI a := by rw [s5.row hd (by simp) (by omega), rc _ _ (by omega), q61]
  have m3 : rI M1 27 3 = nI n := by rw [s5.at hd (by simp) (by omega), rc _ _ (by omega), n3]
  have m4 : rI M1 27 4 = nI (a + 1) := by rw [s5.at hd (by simp) (by omega), eMc, rI_wI, if_pos ⟨rfl, rfl⟩]
  have hT1 : tOk M1 n := by
    intro c hc
    unfold tu tf tb
    rw [s5.row hd (a := 90) (by simp) (by omega), s5.row hd (a := 91) (by simp) (by omega), s5.row hd (a := 92) (by simp) (by omega)]
    exact hTc c hc
  -- the model
  obtain ⟨D0, eD0⟩ : ∃ D0, D0 = wI M1 51 61 (nI (a + 1)) := ⟨_, rfl⟩
  have hFD : Fix D0 := by rw [eD0]; exact s3.wI _ _ _
  have wD : Wr Z1 FTm [] [] D0 (idO D0 n) := Wr.rf.ido (by simp) n
  have dj : ∀ j, rI (idO D0 j) 51 57 = nI n := fun j => by rw [rI_idO, if_neg (by omega), eD0, rI_wI, if_neg (by omega), m57]
  have dR : ∀ j, rR (idO D0 j) 51 62 = 93 := fun j => by rw [rR_idO]; exact fr_51_62 hFD
  have hinit : loop (fun s12 : Int32 × Mem => (if (rI s12.2 51 57) ≤ s12.1 then some (Sum.inr s12.2) else (if aok Z1 (rR s12.2 51 62) 100 s12.1 then (pu (wI s12.2 (rR s12.2 51 62) (ix s12.1) s12.1) (fun M17 => some (Sum.inl ((s12.1 + (1 : Int32)), M17)))) else none))) ((0 : Int32), D0) = some (idO D0 n) := by
    refine loop_for (fun j => (nI j, idO D0 j)) n rfl (fun j hj => ?_) ?_
    · have a93 : aok Z1 93 100 (nI j) := aok_nI (tg_93 hZ1) (by omega) (by decide)
      dsimp only
      rw [dj, if_neg (nle hj (by omega)), dR, if_pos a93, ix_nI (by omega)]
      simp only [pu]
      rw [nI_1]
      rfl
    · dsimp only
      rw [dj, if_pos]
      rw [i32_le]
      exact Int.le_refl _
  have hJ : JO Z1 D0 n ((-1 : Int32), (0 : Int32), (1 : Int32), idO D0 n) := by
    refine ⟨wD, id, ⟨fun k hk => hk, fun i j _ _ e => e⟩, fun k hk => ?_, Or.inl ⟨rfl, Or.inl ⟨fun q hq c => ?_, rfl⟩⟩⟩
    · show rI (idO D0 n) 93 k = nI k
      rw [rI_idO, if_pos ⟨rfl, hk⟩]
    · have := first_perm hn hq.1
      omega
  have r0 : ∀ b k, ¬ (b = 51 ∧ k = 61) → rI D0 b k = rI M1 b k := fun b k h => by rw [eD0, rI_wI, if_neg h]
  have hT0 : tOk D0 n := by
    intro c hc
    unfold tu tf tb
    rw [r0 90 _ (by omega), r0 91 _ (by omega), r0 92 _ (by omega)]
    exact hT1 c hc
  have d57 : rI D0 51 57 = nI n := by rw [r0 _ _ (by omega), m57]
  obtain ⟨F, L, D1, o1, o2, o3⟩ := orders_m hZ1 hFD hn d57 hT0 hJ
  obtain ⟨u1, u2⟩ := BSx.uniq hn (s6.mem (fun k => r0 90 k (by omega)) (fun k => r0 91 k (by omega)) (fun k => r0 92 k (by omega))) o3
  have w0 : Wr Z1 FTurn [100] [27] M D0 := by
    rw [eD0]
    exact w1.sI (by simp [inF])
  have w2 : Wr Z1 FTurn [100] [27] M D1 := w0.tr (o2.mono (by simp) (by simp) (by simp))
  have hF2 : Fix D1 := o2.fix hFD (by decide)
  have hdm : dis FTm [(51, some 57), (51, some 61), (27, none), (31, none), (90, none), (91, none), (92, none)] = true := by decide
  have rw27 : ∀ k, rI D1 27 k = rI M1 27 k := fun k => by rw [o2.row hdm (by simp) (by omega), r0 _ _ (by omega)]
  have rw31 : rI D1 31 = rI M1 31 := funext fun k => by rw [o2.row hdm (by simp) (by omega), r0 _ _ (by omega)]
  have hS2 : ISolved Z1 D1 := by
    refine ⟨?_, ⟨a + 1, by omega, by rw [rw27, m4], by rw [o2.at hdm (by simp) (by omega), eD0, rI_wI, if_pos ⟨rfl, rfl⟩]⟩, Or.inr ⟨n, hn, by rw [rw27, m3], ?_⟩⟩
    · unfold TbOk
      rw [o2.2 27 9 (by simp) (by simp), eD0, rR_wI]
      exact s4
    · unfold SoOk
      rw [rw27, rw27, rw31]
      exact ⟨s6.mem (fun k => by rw [o2.row hdm (by simp) (by omega), r0 _ _ (by omega)]) (fun k => by rw [o2.row hdm (by simp) (by omega), r0 _ _ (by omega)]) (fun k => by rw [o2.row hdm (by simp) (by omega), r0 _ _ (by omega)]), s7⟩
  have hcls : ∀ r, (if x1 = 0 then some (rI M1 27 6, Z1, M1) else if x1 = 1 then some (rI M1 27 7, Z1, M1) else Option.bind (fX9_bestAt Z1 M1 27 (x1 - 10)) (fun v21 => some (v21, Z1, M1))) = some (r, Z1, M1) → fX11_turn Z M 2 x1 = some (r, Z1, M1) := by
    intro r h
    unfold fX11_turn
    rw [jsc, if_pos (tg_2 hZ), fr_2_2 hF, if_pos (tg_27 hZ), q4, if_pos a20]
    simp only [pu]
    rw [nI_1, ← eMc, fr_2_2 hFc, if_pos (tg_27 hZ), s1, Option.bind_some]
    simp only [tg_2 hZ1, fr_2_2 s3, tg_27 hZ1, eq_self, if_true]
    exact h
  have hmod : ∀ r, (if F = -1 then some (F, D1) else if x1 = 0 then some (F, D1) else if x1 = 1 then some (L, D1) else if nI n ≤ x1 - 10 then some (-1, D1) else if aok Z1 94 100 (x1 - 10) then some (rI D1 94 (ix (x1 - 10)), D1) else none) = some (r, D1) → fX12_turn Z1 M1 51 x1 = some (r, D1) := by
    intro r h
    unfold fX12_turn
    rw [i01, i17, jsm, if_pos (tg_51 hZ1), m61, if_neg a20']
    simp only [pu]
    simp only [pu] at hinit o1
    rw [nI_1, ← eD0, hinit, Option.bind_some, o1, Option.bind_some]
    dsimp only
    rw [o2.at hdm (a := 51) (k := 57) (by simp) (by omega), d57, fr_51_63 hF2]
    exact h
  by_cases cF : F = -1
  · have c6 : rI M1 27 6 = -1 := u1.trans cF
    refine ⟨-1, Z1, M1, D1, hcls _ ?_, hmod _ (by rw [if_pos cF, cF]), s2, hF2, hS2, w2⟩
    rcases hx with e | e | ⟨k, k1, k2, k3, k4⟩
    · rw [if_pos e, c6]
    · rw [if_neg (by rw [e]; decide), if_pos e, s7 c6]
    · rw [if_neg k3, if_neg k4]
      unfold fX9_bestAt
      rw [if_pos (tg_27 hZ1), if_pos c6]
      rfl
  have c6 : ¬ rI M1 27 6 = -1 := fun e => cF (u1.symm.trans e)
  obtain ⟨u3, u4⟩ := u2.resolve_left c6
  rcases hx with e | e | ⟨k, k1, k2, k3, k4⟩
  · exact ⟨F, Z1, M1, D1, hcls _ (by rw [if_pos e, u1]), hmod _ (by rw [if_neg cF, if_pos e]), s2, hF2, hS2, w2⟩
  · exact ⟨L, Z1, M1, D1, hcls _ (by rw [if_neg (by rw [e]; decide), if_pos e, u3]), hmod _ (by rw [if_neg cF, if_neg (by rw [e]; decide), if_pos e]), s2, hF2, hS2, w2⟩
  by_cases hk : k < n
  · have a94 : aok Z1 94 100 (nI k) := aok_nI (tg_94 hZ1) (by omega) (by decide)
    have a31 : aok Z1 31 100 (nI k) := aok_nI (tg_31 hZ1) (by omega) (by decide)
    have hix : ix (nI k) = k := ix_nI (by omega)
    refine ⟨rI D1 94 k, Z1, M1, D1, hcls _ ?_, hmod _ ?_, s2, hF2, hS2, w2⟩
    · rw [if_neg k3, if_neg k4, k2]
      have hw : ¬ fX11_within (nI k) 0 (nI n - 1) = 0 := by
        rw [nI_prd (by omega)]
        refine w_of ?_ ?_
        · rw [nI_toInt (by omega), show (0 : Int32).toInt = 0 by decide]
          omega
        · rw [nI_toInt (by omega), nI_toInt (by omega)]
          omega
      unfold fX9_bestAt
      rw [if_pos (tg_27 hZ1), if_neg c6, m3, if_neg hw, fr_27_8 s3, if_pos a31, hix, u4 k hk, Option.bind_some]
    · rw [if_neg cF, if_neg k3, if_neg k4, k2, if_neg (nle hk (by omega)), if_pos a94, hix]
  · refine ⟨-1, Z1, M1, D1, hcls _ ?_, hmod _ ?_, s2, hF2, hS2, w2⟩
    · rw [if_neg k3, if_neg k4, k2]
      have hw : fX11_within (nI k) 0 (nI n - 1) = 0 := by
        refine Classical.byContradiction fun h => ?_
        obtain ⟨p, p1, p2⟩ := wT (by omega) h
        have := (nI_eq (by omega) (by omega)).mp p2
        omega
      unfold fX9_bestAt
      rw [if_pos (tg_27 hZ1), if_neg c6, m3, if_pos hw, Option.bind_some]
    · rw [if_neg cF, if_neg k3, if_neg k4, k2, if_pos]
      exact (nI_leI (by omega) (by omega)).mpr (by omega)
