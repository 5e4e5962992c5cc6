/-! turns: the class's table of the earliest hours -/
theorem bf1 : ∀ c, c < 8 → ∀ x, x < 256 → nI x ||| ((1 : Int32) <<< (nI c &&& 31)) = nI (x ||| 2 ^ c) ∧ nI x ^^^ ((1 : Int32) <<< (nI c &&& 31)) = nI (x ^^^ 2 ^ c) ∧ (fX11_hasBit (nI x) (nI c) = 0 ↔ x.testBit c = false) ∧ (x.testBit c = false → x < x ||| 2 ^ c) ∧ (x.testBit c = true → x ^^^ 2 ^ c < x) := by decide +kernel
theorem inj_le {m n : Nat} {f : Nat → Nat} (h1 : ∀ k, k < m → f k < n) (h2 : ∀ i j, i < m → j < m → f i = f j → i = j) : m ≤ n := by
  refine Classical.byContradiction fun hc => ?_
  obtain ⟨i, hi, e⟩ := inj_surj n f (fun k hk => h1 k (by omega)) (fun i j hi hj => h2 i j (by omega) (by omega)) (f n) (h1 n (by omega))
  have := h2 i n (by omega) (by omega) e
  omega
def sOr (d : Nat → Nat) : Nat → Nat
  | 0 => 0
  | k + 1 => sOr d k ||| 2 ^ d k
theorem sOr_bit (d : Nat → Nat) (v : Nat) : ∀ m, (sOr d m).testBit v = true ↔ ∃ k, k < m ∧ d k = v := by
  intro m
  induction m with
  | zero =>
    constructor
    · intro h
      rw [sOr, Nat.zero_testBit] at h
      cases h
    · rintro ⟨k, h, -⟩
      omega
  | succ m ih =>
    rw [sOr, Nat.testBit_or, Nat.testBit_two_pow, Bool.or_eq_true, ih, decide_eq_true_eq]
    constructor
    · rintro (⟨k, h1, h2⟩ | h)
      · exact ⟨k, by omega, h2⟩
      · exact ⟨m, by omega, h⟩
    · rintro ⟨k, h1, h2⟩
      by_cases c : k = m
      · right; rw [← c]; exact h2
      · left; exact ⟨k, by omega, h2⟩
theorem sOr_lt {d : Nat → Nat} {n : Nat} : ∀ m, (∀ k, k < m → d k < n) → sOr d m < 2 ^ n := by
  intro m
  induction m with
  | zero => exact fun _ => Nat.two_pow_pos n
  | succ m ih =>
    intro h
    exact Nat.or_lt_two_pow (ih (fun k hk => h k (by omega))) (Nat.pow_lt_pow_right (by decide) (h m (by omega)))
theorem sOr_congr {d e : Nat → Nat} : ∀ m, (∀ k, k < m → d k = e k) → sOr d m = sOr e m := by
  intro m
  induction m with
  | zero => exact fun _ => rfl
  | succ m ih =>
    intro h
    rw [sOr, sOr, ih (fun k hk => h k (by omega)), h m (by omega)]
def vl (M : Mem) (n m : Nat) (d : Nat → Nat) : Prop := (∀ k, k < m → d k < n) ∧ (∀ i j, i < m → j < m → d i = d j → i = j) ∧ tlate M d m = none
theorem vl_pre {M : Mem} {n m : Nat} {d : Nat → Nat} (h : vl M n (m + 1) d) : vl M n m d ∧ (sOr d m).testBit (d m) = false ∧ max (trn M d m).1 (tf M (d m)) ≤ tb M (d m) := by
  obtain ⟨h1, h2, h3⟩ := h
  rw [tlate] at h3
  cases e : tlate M d m with
  | some z => rw [e] at h3; cases h3
  | none =>
    rw [e] at h3
    dsimp only at h3
    refine ⟨⟨fun k hk => h1 k (by omega), fun i j hi hj => h2 i j (by omega) (by omega), e⟩, ?_, ?_⟩
    · cases e2 : (sOr d m).testBit (d m) with
      | false => rfl
      | true =>
        obtain ⟨k, k1, k2⟩ := (sOr_bit d (d m) m).mp e2
        have := h2 k m (by omega) (by omega) k2
        omega
    · by_cases c : tb M (d m) < max (trn M d m).1 (tf M (d m))
      · rw [if_pos c] at h3
        cases h3
      · omega
def b2n (b : Bool) : Nat := if b = true then 1 else 0
def spd (M : Mem) (c s : Nat) : Nat := if tu M c = true then 1 else if s = 0 then 1 else 0
def stb (M : Mem) (c : Nat) : Nat := if tu M c = true then 1 else 0
def cellN (y s f : Nat) : Nat := (2 * y + s) * 9 + f
theorem trn_step (M : Mem) (d : Nat → Nat) (m : Nat) : (trn M d (m + 1)).1 = max (trn M d m).1 (tf M (d m)) + 1 ∧ b2n (trn M d (m + 1)).2.1 = stb M (d m) ∧ (trn M d (m + 1)).2.2 = (trn M d m).2.2 + spd M (d m) (b2n (trn M d m).2.1) := by
  refine ⟨rfl, rfl, ?_⟩
  simp only [trn, tst]
  unfold spd b2n
  by_cases c : tu M (d m) = true
  · simp [c]
  · by_cases e : (trn M d m).2.1 = true
    · simp [c, e]
    · simp [c, e]
def upd1 (d : Nat → Nat) (m c : Nat) : Nat → Nat := fun k => if k = m then c else d k
theorem vl_ext {M : Mem} {n m c : Nat} {d : Nat → Nat} (h : vl M n m d) (hc : c < n) (hb : (sOr d m).testBit c = false) (ht : max (trn M d m).1 (tf M c) ≤ tb M c) : vl M n (m + 1) (upd1 d m c) ∧ sOr (upd1 d m c) (m + 1) = sOr d m ||| 2 ^ c ∧ trn M (upd1 d m c) m = trn M d m ∧ upd1 d m c m = c := by
  obtain ⟨h1, h2, h3⟩ := h
  have he : ∀ k, k < m → upd1 d m c k = d k := fun k hk => by
    unfold upd1
    rw [if_neg (by omega)]
  have hm : upd1 d m c m = c := by
    unfold upd1
    rw [if_pos rfl]
  have hno : ∀ k, k < m → d k ≠ c := fun k hk e => by
    rw [(sOr_bit d c m).mpr ⟨k, hk, e⟩] at hb
    cases hb
  refine ⟨⟨fun k hk => ?_, fun i j hi hj e => ?_, ?_⟩, ?_, trn_congr m he, hm⟩
  · by_cases q : k = m
    · rw [q, hm]; exact hc
    · rw [he k (by omega)]
      exact h1 k (by omega)
  · by_cases q1 : i = m
    · by_cases q2 : j = m
      · omega
      · rw [q1, hm, he j (by omega)] at e
        exact absurd e.symm (hno j (by omega))
    · by_cases q2 : j = m
      · rw [q2, hm, he i (by omega)] at e
        exact absurd e (hno i (by omega))
      · rw [he i (by omega), he j (by omega)] at e
        exact h2 i j (by omega) (by omega) e
  · rw [tlate, tlate_congr m he, h3, trn_congr m he, hm]
    dsimp only
    rw [if_neg (by omega)]
  · rw [sOr, sOr_congr m he, hm]
/-- the class's comers in D are those of M, its table is T -/
def CMs (Z : Shp) (M : Mem) (n T : Nat) (D : Mem) : Prop := Fix D ∧ rI D 27 3 = nI n ∧ (∀ k, rI D 28 k = rI M 90 k) ∧ (∀ k, rI D 29 k = rI M 91 k) ∧ (∀ k, rI D 30 k = rI M 92 k) ∧ rR D 27 9 = T ∧ 110 ≤ T ∧ tg Z T = (100, 4608)
theorem CMs.cg {Z : Shp} {M : Mem} {n T : Nat} {D D1 : Mem} (h : CMs Z M n T D) (h1 : ∀ a k, (a = 28 ∨ a = 29 ∨ a = 30 ∨ (a = 27 ∧ k = 3)) → rI D1 a k = rI D a k) (h2 : ∀ a k, rR D1 a k = rR D a k) : CMs Z M n T D1 := by
  obtain ⟨a1, a2, a3, a4, a5, a6, a7, a8⟩ := h
  refine ⟨fun p hp => by rw [h2]; exact a1 p hp, by rw [h1 27 3 (by omega), a2], fun k => by rw [h1 28 k (by omega), a3], fun k => by rw [h1 29 k (by omega), a4], fun k => by rw [h1 30 k (by omega), a5], by rw [h2, a6], a7, a8⟩
theorem cell_c {y s f : Nat} : fX9_cell (nI y) (nI s) (nI f) = nI (cellN y s f) := by
  unfold fX9_cell cellN
  rw [show (2 : Int32) = nI 2 from rfl, show (9 : Int32) = nI 9 from rfl, pk_mul, nI_add, pk_mul, nI_add]
theorem spend_c {Z : Shp} {M : Mem} {n T : Nat} {D : Mem} (hZ : OKZ Z) (hn : n ≤ 8) (hT : tOk M n) (h : CMs Z M n T D) {c s : Nat} (hc : c < n) (hs : s < 2) : fX9_spends Z D 27 (nI c) (nI s) = some (nI (spd M c s)) ∧ fX9_stateBehind Z D 27 (nI c) = some (nI (stb M c)) := by
  obtain ⟨a1, a2, a3, a4, a5, a6, a7, a8⟩ := h
  have hix : ix (nI c) = c := ix_nI (by omega)
  have a28 : aok Z 28 101 (nI c) := aok_nI (tg_28 hZ) (by omega) (by decide)
  have u1 := (hT c hc).1
  unfold spd stb
  by_cases q : tu M c = true
  · rw [if_pos q] at u1
    refine ⟨?_, ?_⟩
    · simp [fX9_spends, tg_27 hZ, fr_27_0 a1, if_pos a28, hix, a3, u1, q]; rfl
    · simp [fX9_stateBehind, tg_27 hZ, fr_27_0 a1, if_pos a28, hix, a3, u1, q]; rfl
  · rw [if_neg q] at u1
    have hs2 : s = 0 ∨ s = 1 := by omega
    refine ⟨?_, ?_⟩
    · rcases hs2 with rfl | rfl
      · simp [fX9_spends, tg_27 hZ, fr_27_0 a1, if_pos a28, hix, a3, u1, q, show nI 0 = 0 from rfl]; rfl
      · simp [fX9_spends, tg_27 hZ, fr_27_0 a1, if_pos a28, hix, a3, u1, q, show ¬ nI 1 = 0 by decide]; rfl
    · simp [fX9_stateBehind, tg_27 hZ, fr_27_0 a1, if_pos a28, hix, a3, u1, q]; rfl
theorem hour_c {Z : Shp} {M : Mem} {n T : Nat} {D : Mem} (hZ : OKZ Z) (hn : n ≤ 8) (hT : tOk M n) (h : CMs Z M n T D) {c t : Nat} (hc : c < n) (ht : t < 1000) : fX9_hourOf Z D 27 (nI c) (nI t - 1) = some (nI (max t (tf M c))) := by
  obtain ⟨a1, a2, a3, a4, a5, a6, a7, a8⟩ := h
  have hix : ix (nI c) = c := ix_nI (by omega)
  have a29 : aok Z 29 100 (nI c) := aok_nI (tg_29 hZ) (by omega) (by decide)
  obtain ⟨-, ⟨u2, u3⟩, -⟩ := hT c hc
  simp [fX9_hourOf, tg_27 hZ, fr_27_1 a1, if_pos a29, hix, nI_ps (show t < 100000 by omega), a4, u2, mxI_nI (show t < 2 ^ 31 by omega) (show tf M c < 2 ^ 31 by omega)]
def ES (M : Mem) (n T : Nat) (D : Mem) : Prop := ∀ y s f, y < 256 → s < 2 → f < 9 → rI D T (cellN y s f) = 1000 ∨ ∃ m d, vl M n m d ∧ sOr d m = y ∧ b2n (trn M d m).2.1 = s ∧ (trn M d m).2.2 = f ∧ rI D T (cellN y s f) = nI (trn M d m).1 - 1
def EC (M : Mem) (n T : Nat) (D : Mem) (P : Nat → (Nat → Nat) → Prop) : Prop := ∀ m d, vl M n m d → P m d → (rI D T (cellN (sOr d m) (b2n (trn M d m).2.1) (trn M d m).2.2)).toInt ≤ ((trn M d m).1 : Int) - 1
theorem vl_bd {M : Mem} {n m : Nat} {d : Nat → Nat} (hn : n ≤ 8) (hT : tOk M n) (h : vl M n m d) : m ≤ n ∧ (trn M d m).1 ≤ 23 + m ∧ (trn M d m).2.2 ≤ m ∧ sOr d m < 2 ^ n ∧ sOr d m < 256 := by
  have h1 := inj_le h.1 h.2.1
  have h2 := trn_bd (M := M) (d := d) (n := m) (fun k hk => (hT (d k) (h.1 k hk)).2.1.2) m (Nat.le_refl m)
  have h3 := sOr_lt m h.1
  have h4 : 2 ^ n ≤ 2 ^ 8 := Nat.pow_le_pow_right (by decide) hn
  have h5 : (2 : Nat) ^ 8 = 256 := by decide
  exact ⟨h1, h2.1, h2.2, h3, by omega⟩
theorem b2n_lt (b : Bool) : b2n b < 2 := by cases b <;> decide
theorem stb_lt (M : Mem) (c : Nat) : stb M c < 2 := by
  unfold stb
  split <;> omega
theorem cell_inj {y s f y1 s1 f1 : Nat} (hs : s < 2) (hf : f < 9) (hs1 : s1 < 2) (hf1 : f1 < 9) (h : cellN y s f = cellN y1 s1 f1) : y = y1 ∧ s = s1 ∧ f = f1 := by
  unfold cellN at h
  omega
/-- only the table is changed -/
def onT (T : Nat) (D D1 : Mem) : Prop := (∀ a k, a ≠ T → rI D1 a k = rI D a k) ∧ (∀ a k, rJ D1 a k = rJ D a k) ∧ ∀ a k, rR D1 a k = rR D a k
theorem onT.rf {T : Nat} {D : Mem} : onT T D D := ⟨fun _ _ _ => rfl, fun _ _ => rfl, fun _ _ => rfl⟩
theorem onT.tr {T : Nat} {D D1 D2 : Mem} (h : onT T D D1) (h2 : onT T D1 D2) : onT T D D2 := ⟨fun a k ha => (h2.1 a k ha).trans (h.1 a k ha), fun a k => (h2.2.1 a k).trans (h.2.1 a k), fun a k => (h2.2.2 a k).trans (h.2.2 a k)⟩
theorem onT.sI {T : Nat} {D D1 : Mem} (h : onT T D D1) (k : Nat) (v : Int32) : onT T D (wI D1 T k v) := ⟨fun a j ha => by rw [rI_wI, if_neg (fun e => ha e.1)]; exact h.1 a j ha, fun a j => by rw [rJ_wI]; exact h.2.1 a j, fun a j => by rw [rR_wI]; exact h.2.2 a j⟩
theorem CMs.onT {Z : Shp} {M : Mem} {n T : Nat} {D D1 : Mem} (h : CMs Z M n T D) (w : onT T D D1) : CMs Z M n T D1 := by
  have h7 := h.2.2.2.2.2.2.1
  exact h.cg (fun a k ha => w.1 a k (by omega)) w.2.2
theorem extend_c {Z : Shp} {M : Mem} {n T : Nat} {D : Mem} (hZ : OKZ Z) (hn : n ≤ 8) (hT : tOk M n) (h : CMs Z M n T D) (hES : ES M n T D) {x s f : Nat} (hx : x < 2 ^ n) (hs : s < 2) (hf : f ≤ n) : ∃ D1, fX9_extend Z D 27 (nI x) (nI s) (nI f) = some D1 ∧ onT T D D1 ∧ ES M n T D1 ∧ (∀ k, (rI D1 T k).toInt ≤ (rI D T k).toInt) ∧ (∀ y s f, y ≤ x → s < 2 → f < 9 → rI D1 T (cellN y s f) = rI D T (cellN y s f)) ∧ ∀ m d, vl M n (m + 1) d → sOr d m = x → b2n (trn M d m).2.1 = s → (trn M d m).2.2 = f → (rI D T (cellN x s f)).toInt ≤ ((trn M d m).1 : Int) - 1 → (rI D1 T (cellN (sOr d (m + 1)) (b2n (trn M d (m + 1)).2.1) (trn M d (m + 1)).2.2)).toInt ≤ ((trn M d (m + 1)).1 : Int) - 1 := by
  obtain ⟨a1, a2, a3, a4, a5, a6, a7, a8⟩ := id h
  have h256 : 2 ^ n ≤ 256 := by
    have h4 : 2 ^ n ≤ 2 ^ 8 := Nat.pow_le_pow_right (by decide) hn
    have h5 : (2 : Nat) ^ 8 = 256 := by decide
    omega
  have hci : cellN x s f < 4608 := by
    unfold cellN
    omega
  have aT : aok Z T 100 (nI (cellN x s f)) := aok_nI a8 hci (by decide)
  have hixT : ix (nI (cellN x s f)) = cellN x s f := ix_nI (by omega)
  have m1000 : (1000 : Int32).toInt = 1000 := by decide
  unfold fX9_extend
  rw [if_pos (tg_27 hZ), a6, cell_c, if_pos aT, hixT, pu]
  by_cases c0 : rI D T (cellN x s f) = 1000
  · refine ⟨D, by rw [if_pos c0], onT.rf, hES, fun _ => Int.le_refl _, fun _ _ _ _ _ _ => rfl, fun m d hv e1 e2 e3 e4 => ?_⟩
    exfalso
    have hb := vl_bd hn hT (vl_pre hv).1
    rw [c0, m1000] at e4
    omega
  rw [if_neg c0]
  obtain ⟨m0, d0, v0, v1, v2, v3, v4⟩ := (hES x s f (by omega) hs (by omega)).resolve_left c0
  have hb0 := vl_bd hn hT v0
  obtain ⟨t0, et0⟩ : ∃ t0, t0 = (trn M d0 m0).1 := ⟨_, rfl⟩
  rw [← et0] at v4 hb0
  rw [v4]
  obtain ⟨D1, q1, q2, q3, q4, q5, q6⟩ := loop_inv (f := fun s5 : Int32 × Mem => (if (rI s5.2 27 3) ≤ s5.1 then some (Sum.inr s5.2) else (Option.bind (fX9_hourOf Z s5.2 27 s5.1 (nI t0 - 1)) (fun v9 => (if (fX11_hasBit (nI x) s5.1) = 0 then (if aok Z (rR s5.2 27 2) 100 s5.1 then (if v9 ≤ (rI s5.2 (rR s5.2 27 2) (ix s5.1)) then (Option.bind (fX9_stateBehind Z s5.2 27 s5.1) (fun v14 => (Option.bind (fX9_spends Z s5.2 27 s5.1 (nI s)) (fun v16 => (pu ((fX9_cell ((nI x) ||| ((1 : Int32) <<< (s5.1 &&& 31))) v14 ((nI f) + v16))) (fun z18 => (if aok Z (rR s5.2 27 9) 100 z18 then (pu (wI s5.2 (rR s5.2 27 9) (ix z18) (mnI (rI s5.2 (rR s5.2 27 9) (ix z18)) v9)) (fun M20 => some (Sum.inl ((s5.1 + (1 : Int32)), M20)))) else none))))))) else some (Sum.inl ((s5.1 + (1 : Int32)), s5.2))) else none) else some (Sum.inl ((s5.1 + (1 : Int32)), s5.2)))))))
    (fun s' : Int32 × Mem => ∃ c, c ≤ n ∧ s'.1 = nI c ∧ onT T D s'.2 ∧ ES M n T s'.2 ∧ (∀ k, (rI s'.2 T k).toInt ≤ (rI D T k).toInt) ∧ (∀ y s f, y ≤ x → s < 2 → f < 9 → rI s'.2 T (cellN y s f) = rI D T (cellN y s f)) ∧ ∀ c', c' < c → x.testBit c' = false → max t0 (tf M c') ≤ tb M c' → (rI s'.2 T (cellN (x ||| 2 ^ c') (stb M c') (f + spd M c' s))).toInt ≤ (max t0 (tf M c') : Nat)) (fun D1 => onT T D D1 ∧ ES M n T D1 ∧ (∀ k, (rI D1 T k).toInt ≤ (rI D T k).toInt) ∧ (∀ y s f, y ≤ x → s < 2 → f < 9 → rI D1 T (cellN y s f) = rI D T (cellN y s f)) ∧ ∀ c', c' < n → x.testBit c' = false → max t0 (tf M c') ≤ tb M c' → (rI D1 T (cellN (x ||| 2 ^ c') (stb M c') (f + spd M c' s))).toInt ≤ (max t0 (tf M c') : Nat)) (fun s' => n - ix s'.1) (by
    rintro ⟨t, D3⟩ ⟨c, hc, e, w, eS, mo, kp, cv⟩
    dsimp only at e w eS mo kp cv
    subst e
    have hC3 := h.onT w
    obtain ⟨b1, b2, b3, b4, b5, b6, b7, b8⟩ := id hC3
    by_cases hcn : c = n
    · subst hcn
      exact Or.inr ⟨D3, by simp [b2], w, eS, mo, kp, cv⟩
    have hc : c < n := by omega
    have hle := nle hc (by omega)
    have hix : ix (nI c) = c := ix_nI (by omega)
    have a30 : aok Z 30 100 (nI c) := aok_nI (tg_30 hZ) (by omega) (by decide)
    have hmu : n - ix (nI (c + 1)) < n - ix (nI c) := by
      rw [ix_nI (by omega), ix_nI (by omega)]
      omega
    obtain ⟨f1, f2, f3, f4, f5⟩ := bf1 c (by omega) x (by omega)
    obtain ⟨-, ⟨u2, u3⟩, u4, u5⟩ := hT c hc
    have hh := hour_c hZ hn hT hC3 hc (show t0 < 1000 by omega)
    obtain ⟨sp1, sp2⟩ := spend_c hZ hn hT hC3 hc hs
    left
    by_cases d1 : x.testBit c = false
    case neg =>
      have d2 := mt f3.mp d1
      refine ⟨(nI (c + 1), D3), ?_, ⟨c + 1, by omega, rfl, w, eS, mo, kp, fun c' hc' h1 h2 => ?_⟩, hmu⟩
      · simp [b2, hle, hh, d2, nI_succ c]
      · by_cases q : c' = c
        · subst q; exact absurd h1 d1
        · exact cv c' (by omega) h1 h2
    have d2 := f3.mpr d1
    have hle2 : nI (max t0 (tf M c)) ≤ nI (tb M c) ↔ max t0 (tf M c) ≤ tb M c := nI_leI (by omega) (by omega)
    by_cases d3 : max t0 (tf M c) ≤ tb M c
    case neg =>
      have d4 := mt hle2.mp d3
      refine ⟨(nI (c + 1), D3), ?_, ⟨c + 1, by omega, rfl, w, eS, mo, kp, fun c' hc' h1 h2 => ?_⟩, hmu⟩
      · simp [b2, hle, hh, d2, fr_27_2 b1, if_pos a30, hix, b5, u4, d4, nI_succ c]
      · by_cases q : c' = c
        · subst q; exact absurd h2 d3
        · exact cv c' (by omega) h1 h2
    have d4 := hle2.mpr d3
    rw [← v1] at d1
    obtain ⟨x1, x2, x3, x4⟩ := vl_ext v0 hc d1 (by rw [← et0]; exact d3)
    rw [v1] at x2 d1
    have hbx := vl_bd hn hT x1
    have hst := trn_step M (upd1 d0 m0 c) m0
    rw [x3, x4, v2, v3, ← et0] at hst
    have hsp : f + spd M c s ≤ 8 := by omega
    have hs2 := stb_lt M c
    have hy : x ||| 2 ^ c < 256 := by omega
    obtain ⟨i, ei⟩ : ∃ i, i = cellN (x ||| 2 ^ c) (stb M c) (f + spd M c s) := ⟨_, rfl⟩
    have hi : i < 4608 := by
      rw [ei]
      unfold cellN
      omega
    have ai : aok Z T 100 (nI i) := aok_nI b8 hi (by decide)
    have hixi : ix (nI i) = i := ix_nI (by omega)
    have hcell : fX9_cell (nI x ||| ((1 : Int32) <<< (nI c &&& 31))) (nI (stb M c)) (nI f + nI (spd M c s)) = nI i := by
      rw [f1, nI_add, cell_c, ei]
    have hmt : (nI (max t0 (tf M c))).toInt = (max t0 (tf M c) : Nat) := nI_toInt (by omega)
    have hmn : (mnI (rI D3 T i) (nI (max t0 (tf M c)))).toInt ≤ (rI D3 T i).toInt ∧ (mnI (rI D3 T i) (nI (max t0 (tf M c)))).toInt ≤ (max t0 (tf M c) : Nat) ∧ (mnI (rI D3 T i) (nI (max t0 (tf M c))) = rI D3 T i ∨ mnI (rI D3 T i) (nI (max t0 (tf M c))) = nI (max t0 (tf M c))) := by
      unfold mnI
      by_cases q : nI (max t0 (tf M c)) < rI D3 T i
      · rw [if_pos q]
        rw [i32_lt] at q
        exact ⟨by omega, by omega, Or.inr rfl⟩
      · rw [if_neg q]
        rw [i32_lt] at q
        exact ⟨by omega, by omega, Or.inl rfl⟩
    refine ⟨(nI (c + 1), wI D3 T i (mnI (rI D3 T i) (nI (max t0 (tf M c))))), ?_, ⟨c + 1, by omega, rfl, w.sI _ _, ?_, fun k => ?_, ?_, fun c' hc' h1 h2 => ?_⟩, hmu⟩
    · simp [b2, hle, hh, d2, fr_27_2 b1, if_pos a30, hix, b5, u4, d4, sp1, sp2, hcell, pu, b6, if_pos ai, hixi, nI_succ c]
    · intro y' s' f' hy' hs' hf'
      rw [rI_wI]
      by_cases q : cellN y' s' f' = i
      · rw [if_pos ⟨rfl, q⟩]
        rw [ei] at q
        obtain ⟨y1, y2, y3⟩ := cell_inj hs' hf' hs2 (by omega) q
        rcases hmn.2.2 with q2 | q2
        · rw [q2, ei, ← y1, ← y2, ← y3]
          exact eS y' s' f' hy' hs' hf'
        · right
          refine ⟨m0 + 1, upd1 d0 m0 c, x1, by rw [x2, y1], by rw [hst.2.1, y2], by rw [hst.2.2, y3], ?_⟩
          rw [q2, hst.1, nI_pred]
      · rw [if_neg (fun e => q e.2)]
        exact eS y' s' f' hy' hs' hf'
    · rw [rI_wI]
      by_cases q : k = i
      · rw [if_pos ⟨rfl, q⟩]
        have := mo k
        rw [q] at this ⊢
        omega
      · rw [if_neg (fun e => q e.2)]
        exact mo k
    · intro y' s' f' hy' hs' hf'
      show rI (wI D3 T i (mnI (rI D3 T i) (nI (max t0 (tf M c))))) T (cellN y' s' f') = rI D T (cellN y' s' f')
      rw [rI_wI, if_neg, kp y' s' f' hy' hs' hf']
      rintro ⟨-, e⟩
      rw [ei] at e
      have := cell_inj hs' hf' hs2 (by omega) e
      have := f4 d1
      omega
    · show (rI (wI D3 T i (mnI (rI D3 T i) (nI (max t0 (tf M c))))) T (cellN (x ||| 2 ^ c') (stb M c') (f + spd M c' s))).toInt ≤ (max t0 (tf M c') : Nat)
      by_cases q : c' = c
      · subst q
        rw [← ei, rI_wI, if_pos ⟨rfl, rfl⟩]
        exact hmn.2.1
      · have old := cv c' (by omega) h1 h2
        rw [rI_wI]
        by_cases q2 : cellN (x ||| 2 ^ c') (stb M c') (f + spd M c' s) = i
        · rw [if_pos ⟨rfl, q2⟩]
          rw [q2] at old
          omega
        · rw [if_neg (fun e => q2 e.2)]
          exact old) ((0 : Int32), D) ⟨0, by omega, rfl, onT.rf, hES, fun _ => Int.le_refl _, fun _ _ _ _ _ _ => rfl, fun c' h => absurd h (by omega)⟩
  refine ⟨D1, q1, q2, q3, q4, q5, fun m d hv e1 e2 e3 e4 => ?_⟩
  obtain ⟨p1, p2, p3⟩ := vl_pre hv
  rw [e1] at p2
  have hst := trn_step M d m
  have hdm := hv.1 m (by omega)
  have e5 : (nI t0 - 1).toInt = (t0 : Int) - 1 := by
    have a1 : (1 : Int32).toInt = 1 := by decide
    have a2 := nI_toInt (n := t0) (by omega)
    rw [subI (by omega) (by omega)]
    omega
  rw [e5] at e4
  have := q6 (d m) hdm p2 (by omega)
  rw [sOr, e1, hst.2.1, hst.2.2, hst.1, e2, e3]
  omega
