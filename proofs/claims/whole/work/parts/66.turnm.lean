/-! turns: the model's best -/
theorem trn_mem {M M1 : Mem} (h0 : ∀ k, rI M1 90 k = rI M 90 k) (h1 : ∀ k, rI M1 91 k = rI M 91 k) (d : Nat → Nat) : ∀ k, trn M1 d k = trn M d k := by
  intro k
  induction k with
  | zero => rfl
  | succ k ih => rw [trn, trn, ih, tst, tst, tu, tu, tf, tf, h0, h1]
theorem tlate_mem {M M1 : Mem} (h0 : ∀ k, rI M1 90 k = rI M 90 k) (h1 : ∀ k, rI M1 91 k = rI M 91 k) (h2 : ∀ k, rI M1 92 k = rI M 92 k) (d : Nat → Nat) : ∀ k, tlate M1 d k = tlate M d k := by
  intro k
  induction k with
  | zero => rfl
  | succ k ih => rw [tlate, tlate, ih, trn_mem h0 h1, tf, tf, tb, tb, h1, h2]
theorem trn_congr {M : Mem} {p q : Nat → Nat} : ∀ n, (∀ k, k < n → p k = q k) → trn M p n = trn M q n := by
  intro n
  induction n with
  | zero => exact fun _ => rfl
  | succ n ih =>
    intro h
    rw [trn, trn, ih (fun k hk => h k (by omega)), h n (by omega)]
theorem tlate_congr {M : Mem} {p q : Nat → Nat} : ∀ n, (∀ k, k < n → p k = q k) → tlate M p n = tlate M q n := by
  intro n
  induction n with
  | zero => exact fun _ => rfl
  | succ n ih =>
    intro h
    rw [tlate, tlate, ih (fun k hk => h k (by omega)), h n (by omega), trn_congr n (fun k hk => h k (by omega))]
def Feas (M : Mem) (n : Nat) (p : Nat → Nat) : Prop := isP n p ∧ tlate M p n = none
def fls (M : Mem) (n : Nat) (p : Nat → Nat) : Nat := (trn M p n).2.2
def lst (M : Mem) (n : Nat) (p : Nat → Nat) : Nat := (trn M p n).1
def ble (M : Mem) (n : Nat) (p q : Nat → Nat) : Prop := fls M n p < fls M n q ∨ (fls M n p = fls M n q ∧ (lst M n p < lst M n q ∨ (lst M n p = lst M n q ∧ cdo p n ≤ cdo q n)))
/-- the best of the orders ahead of X -/
def BSx (M : Mem) (n X : Nat) (F L : Int32) (o : Nat → Int32) : Prop := ((∀ q, Feas M n q → ¬ cdo q n < X) ∧ F = -1) ∨ ∃ p, Feas M n p ∧ cdo p n < X ∧ F = nI (fls M n p) ∧ L = nI (lst M n p) - 1 ∧ (∀ k, k < n → o k = nI (p k)) ∧ ∀ q, Feas M n q → cdo q n < X → ble M n p q
theorem cdo_bd {p : Nat → Nat} : ∀ n, n ≤ 8 → (∀ k, k < n → p k < 8) → cdo p n < 8 ^ n := by
  intro n
  induction n with
  | zero => exact fun _ _ => by rw [cdo]; decide
  | succ n ih =>
    intro hn h
    have h1 := ih (by omega) (fun k hk => h k (by omega))
    have h2 := h n (by omega)
    rw [cdo, Nat.pow_succ]
    omega
theorem cdo_top {n : Nat} {p : Nat → Nat} (hn : n ≤ 8) (hp : isP n p) : cdo p n < 16777216 := by
  have h1 := cdo_bd (p := p) n hn (fun k hk => by have := hp.1 k hk; omega)
  have h2 : 8 ^ n ≤ 8 ^ 8 := Nat.pow_le_pow_right (by decide) hn
  have h3 : (8 : Nat) ^ 8 = 16777216 := by decide
  omega
theorem BSx.mono {M : Mem} {n X Y : Nat} {F L : Int32} {o : Nat → Int32} (h : BSx M n X F L o) (hXY : ∀ q, Feas M n q → (cdo q n < X ↔ cdo q n < Y)) : BSx M n Y F L o := by
  rcases h with ⟨h1, h2⟩ | ⟨p, h1, h2, h3, h4, h5, h6⟩
  · exact Or.inl ⟨fun q hq => fun c => h1 q hq ((hXY q hq).mpr c), h2⟩
  · exact Or.inr ⟨p, h1, (hXY p h1).mp h2, h3, h4, h5, fun q hq c => h6 q hq ((hXY q hq).mpr c)⟩
theorem same_code {n : Nat} {p q : Nat → Nat} (hn : n ≤ 8) (hp : isP n p) (hq : isP n q) (h : cdo q n = cdo p n) : ∀ k, k < n → q k = p k := cdo_eq (fun k hk => by have := hq.1 k hk; omega) (fun k hk => by have := hp.1 k hk; omega) h
/-- the order p is looked at too -/
theorem BSx.late {M : Mem} {n : Nat} {F L : Int32} {o : Nat → Int32} {p : Nat → Nat} (hn : n ≤ 8) (h : BSx M n (cdo p n) F L o) (hp : isP n p) (hl : ¬ tlate M p n = none) : BSx M n (cdo p n + 1) F L o := by
  refine h.mono (fun q hq => ⟨fun c => by omega, fun c => ?_⟩)
  by_cases e : cdo q n = cdo p n
  · exfalso
    have := same_code hn hp hq.1 e
    rw [tlate_congr n (fun k hk => (this k hk).symm)] at hl
    exact hl hq.2
  · omega
theorem key_eq {M : Mem} {n : Nat} {p q : Nat → Nat} (h : ∀ k, k < n → q k = p k) : fls M n q = fls M n p ∧ lst M n q = lst M n p := by
  unfold fls lst
  rw [trn_congr n h]
  exact ⟨rfl, rfl⟩
theorem BSx.new {M : Mem} {n : Nat} {F L : Int32} {o o1 : Nat → Int32} {p : Nat → Nat} (hn : n ≤ 8) (h : BSx M n (cdo p n) F L o) (hp : Feas M n p) (ho : ∀ k, k < n → o1 k = nI (p k)) (hb : ∀ q, Feas M n q → F = nI (fls M n q) → L = nI (lst M n q) - 1 → ¬ F = -1 → fls M n p < fls M n q ∨ (fls M n p = fls M n q ∧ lst M n p < lst M n q)) (hF : ∀ q, Feas M n q → ¬ nI (fls M n q) = -1) : BSx M n (cdo p n + 1) (nI (fls M n p)) (nI (lst M n p) - 1) o1 := by
  refine Or.inr ⟨p, hp, by omega, rfl, rfl, ho, fun q hq c => ?_⟩
  by_cases e : cdo q n = cdo p n
  · obtain ⟨k1, k2⟩ := key_eq (M := M) (same_code hn hp.1 hq.1 e)
    unfold ble
    omega
  · rcases h with ⟨h1, h2⟩ | ⟨r, h1, h2, h3, h4, h5, h6⟩
    · exact absurd (show cdo q n < cdo p n by omega) (h1 q hq)
    · have g1 := hb r h1 h3 h4 (by rw [h3]; exact hF r h1)
      have g2 := h6 q hq (by omega)
      unfold ble at g2 ⊢
      omega
theorem BSx.old {M : Mem} {n : Nat} {F L : Int32} {o : Nat → Int32} {p : Nat → Nat} (hn : n ≤ 8) (h : BSx M n (cdo p n) F L o) (hp : Feas M n p) (hne : ¬ F = -1) (hb : ∀ q, Feas M n q → F = nI (fls M n q) → L = nI (lst M n q) - 1 → fls M n q < fls M n p ∨ (fls M n q = fls M n p ∧ lst M n q ≤ lst M n p)) : BSx M n (cdo p n + 1) F L o := by
  rcases h with ⟨h1, h2⟩ | ⟨r, h1, h2, h3, h4, h5, h6⟩
  · exact absurd h2 hne
  · refine Or.inr ⟨r, h1, by omega, h3, h4, h5, fun q hq c => ?_⟩
    by_cases e : cdo q n = cdo p n
    · obtain ⟨k1, k2⟩ := key_eq (M := M) (same_code hn hp.1 hq.1 e)
      have := hb r h1 h3 h4
      unfold ble
      omega
    · exact h6 q hq (by omega)
abbrev FTm : List (Nat × Option Nat) := [(93, none), (94, none), (51, some 64), (51, some 65)]
def cP (n : Nat) (D : Mem) : Nat := cdo (fun k => ix (rI D 93 k)) n
def JO (Z : Shp) (M : Mem) (n : Nat) (s : Int32 × Int32 × Int32 × Mem) : Prop := Wr Z FTm [] [] M s.2.2.2 ∧ ∃ p, isP n p ∧ (∀ k, k < n → rI s.2.2.2 93 k = nI (p k)) ∧ ((s.2.2.1 = 1 ∧ BSx M n (cdo p n) s.1 s.2.1 (rI s.2.2.2 94)) ∨ (s.2.2.1 = 0 ∧ BSx M n 16777216 s.1 s.2.1 (rI s.2.2.2 94)))
noncomputable def muO (n : Nat) (s : Int32 × Int32 × Int32 × Mem) : Nat := if s.2.2.1 = 0 then 0 else 16777217 - cP n s.2.2.2
theorem cP_eq {n : Nat} {D : Mem} {p : Nat → Nat} (hn : n ≤ 8) (hp : isP n p) (hr : ∀ k, k < n → rI D 93 k = nI (p k)) : cP n D = cdo p n := cdo_congr n (fun k hk => by
  have := hp.1 k hk
  show ix (rI D 93 k) = p k
  rw [hr k hk, ix_nI (by omega)])
theorem turn_next {Z : Shp} {M D : Mem} (hZ : OKZ Z) (hFM : Fix M) {n : Nat} (hn : n ≤ 8) (h57 : rI M 51 57 = nI n) (w : Wr Z FTm [] [] M D) {p : Nat → Nat} (hp : isP n p) (hr : ∀ k, k < n → rI D 93 k = nI (p k)) {F L : Int32} (hb : BSx M n (cdo p n + 1) F L (rI D 94)) : ∃ v M1, fX12_nextOrder Z D 51 = some (v, M1) ∧ JO Z M n (F, L, v, M1) ∧ muO n (F, L, v, M1) < 16777217 - cdo p n := by
  have hFD : Fix D := w.fix hFM (by decide)
  have hd : dis FTm [(51, some 57)] = true := by decide
  have hct := cdo_top hn hp
  rcases next_m hZ hFD hn (by rw [w.at hd (a := 51) (k := 57) (by simp) (by omega), h57]) hp hr with ⟨M1, g1, rfl, g2⟩ | ⟨M1, p1, g1, g2, g3, g4, g5, g6⟩
  · refine ⟨0, M1, g1, ⟨w, p, hp, hr, Or.inr ⟨rfl, hb.mono (fun q hq => ⟨fun c => ?_, fun c => ?_⟩)⟩⟩, ?_⟩
    · exact cdo_top hn hq.1
    · have := g2 q hq.1
      omega
    · unfold muO
      rw [if_pos rfl]
      omega
  · have e94 : rI M1 94 = rI D 94 := funext fun k => g2.row (F := [(94, none)]) (by decide) (by simp) (by omega) k
    have hct1 := cdo_top hn g3
    refine ⟨1, M1, g1, ⟨w.tr (g2.mono (by decide) (by simp) (by simp)), p1, g3, g4, Or.inl ⟨rfl, ?_⟩⟩, ?_⟩
    · dsimp only
      rw [e94]
      refine hb.mono (fun q hq => ⟨fun c => by omega, fun c => ?_⟩)
      by_cases e : cdo p n < cdo q n
      · have := g6 q hq.1 e
        omega
      · omega
    · unfold muO
      dsimp only
      rw [if_neg (by decide), cP_eq hn g3 g4]
      omega
def cpO (D : Mem) : Nat → Mem
  | 0 => D
  | k + 1 => wI (cpO D k) 94 k (rI D 93 k)
theorem rI_cpO (D : Mem) (a k : Nat) : ∀ j, rI (cpO D j) a k = if a = 94 ∧ k < j then rI D 93 k else rI D a k := by
  intro j
  induction j with
  | zero => rw [if_neg (by omega)]; rfl
  | succ j ih =>
    rw [cpO, rI_wI, ih]
    by_cases c : a = 94 ∧ k = j
    · rw [if_pos c, if_pos (by omega), c.2]
    · rw [if_neg c]
      by_cases d : a = 94 ∧ k < j
      · rw [if_pos d, if_pos (by omega)]
      · rw [if_neg d, if_neg (by omega)]
theorem rR_cpO (D : Mem) (a k : Nat) : ∀ j, rR (cpO D j) a k = rR D a k := by
  intro j
  induction j with
  | zero => rfl
  | succ j ih => rw [cpO, rR_wI, ih]
theorem Wr.cpo {Z : Shp} {L : List (Nat × Option Nat)} {ts LR : List Nat} {M M1 : Mem} (h : Wr Z L ts LR M M1) (hm : (94, none) ∈ L) (j : Nat) : Wr Z L ts LR M (cpO M1 j) := by
  induction j with
  | zero => exact h
  | succ j ih => exact ih.sI (Or.inl hm)
theorem orders_m {Z : Shp} {M D : Mem} (hZ : OKZ Z) (hFM : Fix M) {n : Nat} (hn : n ≤ 8) (h57 : rI M 51 57 = nI n) (hT : tOk M n) (hJ : JO Z M n ((-1 : Int32), (0 : Int32), (1 : Int32), D)) : ∃ F L D1, loop (fun s21 : Int32 × Int32 × Int32 × Mem => (if s21.2.2.1 = 0 then some (Sum.inr (s21.1, s21.2.1, s21.2.2.2)) else (Option.bind (fX12_workOff Z s21.2.2.2 51) (fun v25 => (Option.bind (if v25.1 = (-1 : Int32) then some (1 : Int32) else some (0 : Int32)) (fun v30 : Int32 => (if v30 = 0 then (Option.bind (fX12_nextOrder Z v25.2 51) (fun v32 => some (Sum.inl (s21.1, s21.2.1, v32.1, v32.2)))) else (js (if s21.1 = (-1 : Int32) then some (Sum.inl ()) else (if (rI v25.2 51 64) < s21.1 then some (Sum.inl ()) else (if (rI v25.2 51 64) = s21.1 then (if s21.2.1 ≤ (rI v25.2 51 65) then (Option.bind (fX12_nextOrder Z v25.2 51) (fun v41 => some (Sum.inr (Sum.inl (s21.1, s21.2.1, v41.1, v41.2))))) else some (Sum.inl ())) else (Option.bind (fX12_nextOrder Z v25.2 51) (fun v43 => some (Sum.inr (Sum.inl (s21.1, s21.2.1, v43.1, v43.2)))))))) (fun v37 : Unit => (pu ((rI v25.2 51 64)) (fun z45 => (pu ((rI v25.2 51 65)) (fun z46 => (loop (fun s47 : Int32 × Mem => (if (rI s47.2 51 57) ≤ s47.1 then (Option.bind (fX12_nextOrder Z s47.2 51) (fun v51 => some (Sum.inr (Sum.inl (z45, z46, v51.1, v51.2))))) else (if aok Z (rR s47.2 51 62) 100 s47.1 then (if aok Z (rR s47.2 51 63) 100 s47.1 then (pu (wI s47.2 (rR s47.2 51 63) (ix s47.1) (rI s47.2 (rR s47.2 51 62) (ix s47.1))) (fun M55 => some (Sum.inl ((s47.1 + (1 : Int32)), M55)))) else none) else none))) ((0 : Int32), v25.2))))))))))))))) ((-1 : Int32), (0 : Int32), (1 : Int32), D) = some (F, L, D1) ∧ Wr Z FTm [] [] M D1 ∧ BSx M n 16777216 F L (rI D1 94) := by
  have hdT : dis FTm [(51, some 57), (90, none), (91, none), (92, none)] = true := by decide
  obtain ⟨r, q1, q2, q3⟩ := loop_inv (f := (fun s21 : Int32 × Int32 × Int32 × Mem => (if s21.2.2.1 = 0 then some (Sum.inr (s21.1, s21.2.1, s21.2.2.2)) else (Option.bind (fX12_workOff Z s21.2.2.2 51) (fun v25 => (Option.bind (if v25.1 = (-1 : Int32) then some (1 : Int32) else some (0 : Int32)) (fun v30 : Int32 => (if v30 = 0 then (Option.bind (fX12_nextOrder Z v25.2 51) (fun v32 => some (Sum.inl (s21.1, s21.2.1, v32.1, v32.2)))) else (js (if s21.1 = (-1 : Int32) then some (Sum.inl ()) else (if (rI v25.2 51 64) < s21.1 then some (Sum.inl ()) else (if (rI v25.2 51 64) = s21.1 then (if s21.2.1 ≤ (rI v25.2 51 65) then (Option.bind (fX12_nextOrder Z v25.2 51) (fun v41 => some (Sum.inr (Sum.inl (s21.1, s21.2.1, v41.1, v41.2))))) else some (Sum.inl ())) else (Option.bind (fX12_nextOrder Z v25.2 51) (fun v43 => some (Sum.inr (Sum.inl (s21.1, s21.2.1, v43.1, v43.2)))))))) (fun v37 : Unit => (pu ((rI v25.2 51 64)) (fun z45 => (pu ((rI v25.2 51 65)) (fun z46 => (loop (fun s47 : Int32 × Mem => (if (rI s47.2 51 57) ≤ s47.1 then (Option.bind (fX12_nextOrder Z s47.2 51) (fun v51 => some (Sum.inr (Sum.inl (z45, z46, v51.1, v51.2))))) else (if aok Z (rR s47.2 51 62) 100 s47.1 then (if aok Z (rR s47.2 51 63) 100 s47.1 then (pu (wI s47.2 (rR s47.2 51 63) (ix s47.1) (rI s47.2 (rR s47.2 51 62) (ix s47.1))) (fun M55 => some (Sum.inl ((s47.1 + (1 : Int32)), M55)))) else none) else none))) ((0 : Int32), v25.2))))))))))))))))
    (fun s => JO Z M n s) (fun r : Int32 × Int32 × Mem => Wr Z FTm [] [] M r.2.2 ∧ BSx M n 16777216 r.1 r.2.1 (rI r.2.2 94)) (muO n) (by
    rintro ⟨F, L, v, D3⟩ ⟨w, p, hp, hr, hc⟩
    dsimp only at w hr hc
    rcases hc with ⟨rfl, hB⟩ | ⟨rfl, hB⟩
    case inr => exact Or.inr ⟨(F, L, D3), by simp, w, hB⟩
    have hF3 : Fix D3 := w.fix hFM (by decide)
    have k1 : ¬ (1 : Int32) = 0 := by decide
    have e90 := fun k => w.row hdT (a := 90) (by simp) (by omega) k
    have e91 := fun k => w.row hdT (a := 91) (by simp) (by omega) k
    have e92 := fun k => w.row hdT (a := 92) (by simp) (by omega) k
    have hT3 : tOk D3 n := by
      intro c hc
      unfold tu tf tb
      rw [e90, e91, e92]
      exact hT c hc
    have r57 : rI D3 51 57 = nI n := by rw [w.at hdT (a := 51) (k := 57) (by simp) (by omega), h57]
    have hwk := workOff_m hZ hF3 hn r57 hT3 (d := p) (fun k hk => ⟨hr k hk, hp.1 k hk⟩)
    rw [tlate_mem e90 e91 e92, trn_mem e90 e91] at hwk
    obtain ⟨D4, eD4⟩ : ∃ D4, D4 = wI (wI D3 51 64 (nI (fls M n p))) 51 65 (nI (lst M n p) - 1) := ⟨_, rfl⟩
    rw [show nI (trn M p n).2.2 = nI (fls M n p) from rfl, show nI (trn M p n).1 - 1 = nI (lst M n p) - 1 from rfl, ← eD4] at hwk
    have w4 : Wr Z FTm [] [] M D4 := by
      rw [eD4]
      exact (w.sI (by simp [inF])).sI (by simp [inF])
    have hF4 : Fix D4 := w4.fix hFM (by decide)
    have r93 : ∀ k, rI D4 93 k = rI D3 93 k := fun k => by rw [eD4, rI_wI, if_neg (by omega), rI_wI, if_neg (by omega)]
    have r94 : rI D4 94 = rI D3 94 := funext fun k => by rw [eD4, rI_wI, if_neg (by omega), rI_wI, if_neg (by omega)]
    have hr4 : ∀ k, k < n → rI D4 93 k = nI (p k) := fun k hk => by rw [r93, hr k hk]
    have q64 : rI D4 51 64 = nI (fls M n p) := by rw [eD4, rI_wI, if_neg (by omega), rI_wI, if_pos ⟨rfl, rfl⟩]
    have q65 : rI D4 51 65 = nI (lst M n p) - 1 := by rw [eD4, rI_wI, if_pos ⟨rfl, rfl⟩]
    have q57 : rI D4 51 57 = nI n := by rw [w4.at hdT (a := 51) (k := 57) (by simp) (by omega), h57]
    have hmu0 : muO n (F, L, (1 : Int32), D3) = 16777217 - cdo p n := by
      unfold muO
      dsimp only
      rw [if_neg k1, cP_eq hn hp hr]
    have bd : ∀ q, isP n q → fls M n q ≤ 8 ∧ lst M n q ≤ 31 := by
      intro q hq
      have := trn_bd (M := M) (d := q) (n := n) (fun k hk => (hT (q k) (hq.1 k hk)).2.1.2) n (Nat.le_refl n)
      unfold fls lst
      omega
    left
    dsimp only
    rw [if_neg k1, hwk, Option.bind_some, hmu0]
    by_cases hl : tlate M p n = none
    case neg =>
      have hne : ¬ lt32 (tlate M p n) = -1 := by
        cases e : tlate M p n with
        | none => exact absurd e hl
        | some z =>
          have := tlate_lt n z e
          exact nm1 (show z < 2 ^ 31 by omega)
      obtain ⟨v, M1, g1, g2, g3⟩ := turn_next hZ hFM hn h57 w4 hp hr4 (F := F) (L := L) (by rw [r94]; exact hB.late hn hp hl)
      refine ⟨(F, L, v, M1), ?_, g2, g3⟩
      dsimp only
      rw [if_neg hne, Option.bind_some, if_pos rfl, g1, Option.bind_some]
    have hfe : Feas M n p := ⟨hp, hl⟩
    have hm1 : lt32 (tlate M p n) = -1 := by rw [hl]; rfl
    have hFs : ∀ q, Feas M n q → ¬ nI (fls M n q) = -1 := fun q hq => nm1 (by have := (bd q hq.1).1; omega)
    -- the two ends
    have hold : (¬ F = -1 ∧ ∀ q, Feas M n q → F = nI (fls M n q) → L = nI (lst M n q) - 1 → fls M n q < fls M n p ∨ (fls M n q = fls M n p ∧ lst M n q ≤ lst M n p)) → ∃ v M1, fX12_nextOrder Z D4 51 = some (v, M1) ∧ JO Z M n (F, L, v, M1) ∧ muO n (F, L, v, M1) < 16777217 - cdo p n := by
      rintro ⟨x1, x2⟩
      exact turn_next hZ hFM hn h57 w4 hp hr4 (by rw [r94]; exact hB.old hn hfe x1 x2)
    have hnew : (∀ q, Feas M n q → F = nI (fls M n q) → L = nI (lst M n q) - 1 → ¬ F = -1 → fls M n p < fls M n q ∨ (fls M n p = fls M n q ∧ lst M n p < lst M n q)) → ∃ v M1, (loop (fun s47 : Int32 × Mem => (if (rI s47.2 51 57) ≤ s47.1 then (Option.bind (fX12_nextOrder Z s47.2 51) (fun v51 => some (Sum.inr (Sum.inl (β := Int32 × Int32 × Mem) (nI (fls M n p), nI (lst M n p) - 1, v51.1, v51.2))))) else (if aok Z (rR s47.2 51 62) 100 s47.1 then (if aok Z (rR s47.2 51 63) 100 s47.1 then (pu (wI s47.2 (rR s47.2 51 63) (ix s47.1) (rI s47.2 (rR s47.2 51 62) (ix s47.1))) (fun M55 => some (Sum.inl ((s47.1 + (1 : Int32)), M55)))) else none) else none))) ((0 : Int32), D4)) = some (Sum.inl (nI (fls M n p), nI (lst M n p) - 1, v, M1)) ∧ JO Z M n (nI (fls M n p), nI (lst M n p) - 1, v, M1) ∧ muO n (nI (fls M n p), nI (lst M n p) - 1, v, M1) < 16777217 - cdo p n := by
      intro x
      have hcr : ∀ k, k < n → rI (cpO D4 n) 93 k = nI (p k) := fun k hk => by rw [rI_cpO, if_neg (by omega), hr4 k hk]
      obtain ⟨v, M1, g1, g2, g3⟩ := turn_next hZ hFM hn h57 (w4.cpo (by simp) n) hp hcr (hB.new (o1 := rI (cpO D4 n) 94) hn hfe (fun k hk => by rw [rI_cpO, if_pos ⟨rfl, hk⟩, hr4 k hk]) x hFs)
      refine ⟨v, M1, ?_, g2, g3⟩
      refine loop_for (fun k => (nI k, cpO D4 k)) n rfl (fun k hk => ?_) ?_
      · have hle := nle hk (by omega)
        have hix : ix (nI k) = k := ix_nI (by omega)
        have a93 : aok Z 93 100 (nI k) := aok_nI (tg_93 hZ) (by omega) (by decide)
        have a94 : aok Z 94 100 (nI k) := aok_nI (tg_94 hZ) (by omega) (by decide)
        have y1 : rI (cpO D4 k) 51 57 = nI n := by rw [rI_cpO, if_neg (by omega), q57]
        have y2 : rI (cpO D4 k) 93 k = rI D4 93 k := by rw [rI_cpO, if_neg (by omega)]
        dsimp only
        rw [y1, if_neg hle, rR_cpO, fr_51_62 hF4, if_pos a93, rR_cpO, fr_51_63 hF4, if_pos a94, hix, y2, pu, nI_1]
        rfl
      · have y1 : rI (cpO D4 n) 51 57 = nI n := by rw [rI_cpO, if_neg (by omega), q57]
        dsimp only
        rw [y1, if_pos (by rw [i32_le]; omega), g1, Option.bind_some]
    have hpre : (if lt32 (tlate M p n) = -1 then some (1 : Int32) else some 0) = some 1 := by rw [if_pos hm1]
    have fp := bd p hp
    have lcmp : ∀ q, isP n q → (nI (lst M n q) - 1 ≤ nI (lst M n p) - 1 ↔ lst M n q ≤ lst M n p) := by
      intro q hq
      have fq := bd q hq
      have e1 := nI_toInt (n := lst M n q) (by omega)
      have e2 := nI_toInt (n := lst M n p) (by omega)
      have a1 : (1 : Int32).toInt = 1 := by decide
      rw [i32_le, subI (by omega) (by omega), subI (by omega) (by omega)]
      omega
    have fcmp : ∀ q, isP n q → (nI (fls M n p) < nI (fls M n q) ↔ fls M n p < fls M n q) := fun q hq => nI_ltI (by omega) (by have := bd q hq; omega)
    have fceq : ∀ q, isP n q → (nI (fls M n p) = nI (fls M n q) ↔ fls M n p = fls M n q) := fun q hq => nI_eq (by omega) (by have := bd q hq; omega)
    rw [hpre, Option.bind_some, if_neg k1]
    by_cases c0 : F = -1
    · obtain ⟨v, M1, g1, g2, g3⟩ := hnew (fun q _ _ _ h => absurd c0 h)
      refine ⟨_, ?_, g2, g3⟩
      rw [if_pos c0]
      simp only [js, Option.bind_some, pu, q64, q65]
      simp only [pu] at g1
      exact g1
    · by_cases c1 : nI (fls M n p) < F
      · obtain ⟨v, M1, g1, g2, g3⟩ := hnew (fun q hq e1 _ _ => Or.inl ((fcmp q hq.1).mp (by rw [← e1]; exact c1)))
        refine ⟨_, ?_, g2, g3⟩
        rw [if_neg c0, q64, if_pos c1]
        simp only [js, Option.bind_some, pu, q64, q65]
        simp only [pu] at g1
        exact g1
      · by_cases c2 : nI (fls M n p) = F
        · by_cases c3 : L ≤ nI (lst M n p) - 1
          · obtain ⟨v, M1, g1, g2, g3⟩ := hold ⟨c0, fun q hq e1 e2 => Or.inr ⟨((fceq q hq.1).mp (by rw [← e1]; exact c2)).symm, (lcmp q hq.1).mp (by rw [← e2]; exact c3)⟩⟩
            refine ⟨(F, L, v, M1), ?_, g2, g3⟩
            rw [if_neg c0, q64, if_neg c1, if_pos c2, q65, if_pos c3, g1]
            rfl
          · obtain ⟨v, M1, g1, g2, g3⟩ := hnew (fun q hq e1 e2 _ => Or.inr ⟨(fceq q hq.1).mp (by rw [← e1]; exact c2), by
              have := mt (lcmp q hq.1).mpr (by rw [← e2]; exact c3)
              omega⟩)
            refine ⟨_, ?_, g2, g3⟩
            rw [if_neg c0, q64, if_neg c1, if_pos c2, q65, if_neg c3]
            simp only [js, Option.bind_some, pu, q64, q65]
            simp only [pu] at g1
            exact g1
        · obtain ⟨v, M1, g1, g2, g3⟩ := hold ⟨c0, fun q hq e1 _ => Or.inl (by
            have x1 := mt (fcmp q hq.1).mpr (by rw [← e1]; exact c1)
            have x2 := mt (fceq q hq.1).mpr (by rw [← e1]; exact c2)
            omega)⟩
          refine ⟨(F, L, v, M1), ?_, g2, g3⟩
          rw [if_neg c0, q64, if_neg c1, if_neg c2, g1]
          rfl) ((-1 : Int32), (0 : Int32), (1 : Int32), D) hJ
  exact ⟨r.1, r.2.1, r.2.2, q1, q2, q3⟩
