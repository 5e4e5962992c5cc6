/-! turns: an order worked off -/
theorem mem_ext {M M1 : Mem} (h1 : ∀ a k, rI M a k = rI M1 a k) (h2 : ∀ a k, rJ M a k = rJ M1 a k) (h3 : ∀ a k, rR M a k = rR M1 a k) : M = M1 := Prod.ext (funext fun a => funext fun k => h1 a k) (Prod.ext (funext fun a => funext fun k => h2 a k) (funext fun a => funext fun k => h3 a k))
theorem wo_ww (M : Mem) (F H H1 F1 : Int32) : wI (wI (wI (wI M 51 64 F) 51 65 H) 51 65 H1) 51 64 F1 = wI (wI M 51 64 F1) 51 65 H1 := by
  refine mem_ext (fun a k => ?_) (fun a k => rfl) (fun a k => rfl)
  simp only [rI_wI]
  by_cases c : a = 51 ∧ k = 64
  · rw [if_pos c, if_neg (by omega), if_pos c]
  · rw [if_neg c]
    by_cases d : a = 51 ∧ k = 65
    · rw [if_pos d, if_pos d]
    · rw [if_neg d, if_neg d, if_neg d, if_neg c, if_neg c]
def tu (M : Mem) (c : Nat) : Bool := decide (¬ rI M 90 c = 0)
def tf (M : Mem) (c : Nat) : Nat := ix (rI M 91 c)
def tb (M : Mem) (c : Nat) : Nat := ix (rI M 92 c)
/-- the comers as numbers -/
def tOk (M : Mem) (n : Nat) : Prop := ∀ c, c < n → rI M 90 c = (if tu M c = true then 1 else 0) ∧ (rI M 91 c = nI (tf M c) ∧ tf M c ≤ 23) ∧ rI M 92 c = nI (tb M c) ∧ tb M c ≤ 99
theorem tOk_of {M : Mem} {n : Nat} (hv : ∀ k, k < n → (rI M 90 k = 0 ∨ rI M 90 k = 1) ∧ (0 ≤ (rI M 91 k).toInt ∧ (rI M 91 k).toInt ≤ 23) ∧ 0 ≤ (rI M 92 k).toInt ∧ (rI M 92 k).toInt ≤ 99) : tOk M n := by
  intro c hc
  obtain ⟨h0, ⟨h1, h2⟩, h3, h4⟩ := hv c hc
  obtain ⟨f, f1, f2, f3⟩ := rng_nI h1
  obtain ⟨b, b1, b2, b3⟩ := rng_nI h3
  refine ⟨?_, ⟨?_, ?_⟩, ?_, ?_⟩
  · rcases h0 with h | h
    · simp [tu, h]
    · simp [tu, h]
  · rw [tf, f2, ix_nI f1]
  · rw [tf, f2, ix_nI f1]; omega
  · rw [tb, b2, ix_nI b1]
  · rw [tb, b2, ix_nI b1]; omega
/-- the hour behind the last one, whether the lock is filled, fillings -/
def tst (M : Mem) (c : Nat) (s : Nat × Bool × Nat) : Nat × Bool × Nat := (max s.1 (tf M c) + 1, tu M c, s.2.2 + if tu M c = true then 1 else if s.2.1 = true then 0 else 1)
def trn (M : Mem) (d : Nat → Nat) : Nat → Nat × Bool × Nat
  | 0 => (0, false, 0)
  | k + 1 => tst M (d k) (trn M d k)
def tlate (M : Mem) (d : Nat → Nat) : Nat → Option Nat
  | 0 => none
  | k + 1 => match tlate M d k with
    | some x => some x
    | none => if tb M (d k) < max (trn M d k).1 (tf M (d k)) then some k else none
def lt32 (o : Option Nat) : Int32 := match o with
  | none => -1
  | some x => nI x
theorem trn_bd {M : Mem} {d : Nat → Nat} {n : Nat} (hT : ∀ k, k < n → tf M (d k) ≤ 23) : ∀ k, k ≤ n → (trn M d k).1 ≤ 23 + k ∧ (trn M d k).2.2 ≤ k := by
  intro k
  induction k with
  | zero => exact fun _ => ⟨by simp [trn], by simp [trn]⟩
  | succ k ih =>
    intro hk
    have h1 := ih (by omega)
    have h2 := hT k (by omega)
    simp only [trn, tst]
    constructor
    · omega
    · split
      · omega
      · split <;> omega
theorem tlate_lt {M : Mem} {d : Nat → Nat} : ∀ k x, tlate M d k = some x → x < k := by
  intro k
  induction k with
  | zero => intro x h; cases h
  | succ k ih =>
    intro x h
    rw [tlate] at h
    cases e : tlate M d k with
    | some z =>
      rw [e] at h
      have := ih z e
      cases h
      omega
    | none =>
      rw [e] at h
      dsimp only at h
      split at h
      · cases h; omega
      · cases h
theorem nI_ps {t : Nat} (h : t < 100000) : nI t - 1 + 1 = nI t := by
  have h1 := nI_toInt (n := t) (by omega)
  have m1 : (1 : Int32).toInt = 1 := by decide
  rw [i32_eq, addI (by rw [subI (by omega) (by omega)]; omega) (by rw [subI (by omega) (by omega)]; omega), subI (by omega) (by omega)]
  omega
theorem mxI_nI {a b : Nat} (ha : a < 2 ^ 31) (hb : b < 2 ^ 31) : mxI (nI a) (nI b) = nI (max a b) := by
  unfold mxI
  by_cases c : a < b
  · rw [if_pos (nI_lt c hb), Nat.max_eq_right (by omega)]
  · rw [if_neg (nI_nlt (by omega) ha), Nat.max_eq_left (by omega)]
theorem workOff_m {Z : Shp} {M : Mem} (hZ : OKZ Z) (hF : Fix M) {n : Nat} (hn : n ≤ 8) (h2 : rI M 51 57 = nI n) (hT : tOk M n) {d : Nat → Nat} (hd : ∀ k, k < n → rI M 93 k = nI (d k) ∧ d k < n) : fX12_workOff Z M 51 = some (lt32 (tlate M d n), wI (wI M 51 64 (nI (trn M d n).2.2)) 51 65 (nI (trn M d n).1 - 1)) := by
  have hb := trn_bd (M := M) (d := d) (n := n) (fun k hk => (hT (d k) (hd k hk).2).2.1.2)
  unfold fX12_workOff
  rw [if_pos (tg_51 hZ)]
  simp only [pu]
  refine loop_for (fun k => ((if (trn M d k).2.1 = true then (1 : Int32) else 0), lt32 (tlate M d k), nI k, wI (wI M 51 64 (nI (trn M d k).2.2)) 51 65 (nI (trn M d k).1 - 1))) n rfl (fun k hk => ?_) (by simp [rI_wI, h2])
  have hle := nle hk (by omega)
  have hix : ix (nI k) = k := ix_nI (by omega)
  obtain ⟨e1, e2⟩ := hd k hk
  obtain ⟨u1, ⟨u2, u3⟩, u4, u5⟩ := hT (d k) e2
  have hbk := hb k (by omega)
  have hixd : ix (nI (d k)) = d k := ix_nI (by omega)
  have a93 : aok Z 93 100 (nI k) := aok_nI (tg_93 hZ) (by omega) (by decide)
  have a90 : aok Z 90 101 (nI (d k)) := aok_nI (tg_90 hZ) (by omega) (by decide)
  have a91 : aok Z 91 100 (nI (d k)) := aok_nI (tg_91 hZ) (by omega) (by decide)
  have a92 : aok Z 92 100 (nI (d k)) := aok_nI (tg_92 hZ) (by omega) (by decide)
  have ps := nI_ps (t := (trn M d k).1) (by omega)
  have hH : (if nI (trn M d k).1 ≤ nI (tf M (d k)) then some (nI (tf M (d k))) else some (nI (trn M d k).1)) = some (nI (max (trn M d k).1 (tf M (d k)) + 1) - 1) := by
    rw [nI_pred]
    by_cases c : (trn M d k).1 ≤ tf M (d k)
    · rw [if_pos (nI_le c (by omega)), Nat.max_eq_right c]
    · rw [if_neg (nI_ge (by omega) (by omega)), Nat.max_eq_left (by omega)]
  have hL : (if lt32 (tlate M d k) = -1 then (if nI (max (trn M d k).1 (tf M (d k)) + 1) - 1 ≤ nI (tb M (d k)) then some (lt32 (tlate M d k)) else some (nI k)) else some (lt32 (tlate M d k))) = some (lt32 (tlate M d (k + 1))) := by
    rw [nI_pred, tlate]
    cases e : tlate M d k with
    | some z =>
      have := tlate_lt k z e
      have e3 : ¬ lt32 (some z) = -1 := nm1 (show z < 2 ^ 31 by omega)
      rw [if_neg e3]
    | none =>
      rw [if_pos (show lt32 none = -1 from rfl)]
      by_cases c : tb M (d k) < max (trn M d k).1 (tf M (d k))
      · rw [if_neg (nI_ge c (by omega))]
        simp only [if_pos c]
        rfl
      · rw [if_pos (nI_le (by omega) (by omega))]
        simp only [if_neg c]
  have hS : (if (if tu M (d k) = true then (1 : Int32) else 0) = 0 then (if (if (trn M d k).2.1 = true then (1 : Int32) else 0) = 0 then some (1 : Int32) else some 0) else some 1) = some (nI (if tu M (d k) = true then 1 else if (trn M d k).2.1 = true then 0 else 1)) := by
    by_cases c : tu M (d k) = true
    · simp [c]; rfl
    · by_cases c2 : (trn M d k).2.1 = true
      · simp [c, c2]; rfl
      · simp [c, c2]; rfl
  have n1 : ((57 : Nat) = 65) = False := by simp
  have n2 : ((57 : Nat) = 64) = False := by simp
  have n3 : ((64 : Nat) = 65) = False := by simp
  simp only [rI_wI, rR_wI, h2, true_and, n1, n2, n3, if_false, if_neg hle, fr_51_62 hF, fr_51_59 hF, fr_51_60 hF, fr_51_58 hF, if_pos a93, hix, show ∀ x, ¬ ((93 : Nat) = 51 ∧ x) from fun x h => absurd h.1 (by decide), show ∀ x, ¬ ((91 : Nat) = 51 ∧ x) from fun x h => absurd h.1 (by decide), show ∀ x, ¬ ((90 : Nat) = 51 ∧ x) from fun x h => absurd h.1 (by decide), show ∀ x, ¬ ((92 : Nat) = 51 ∧ x) from fun x h => absurd h.1 (by decide), e1, if_pos a91, if_pos a90, if_pos a92, hixd, u1, u2, u4, and_self, if_true, ps, hH, hL, hS, Option.bind_some, wo_ww, nI_add]
  rw [← nI_1 k]
  rfl
theorem cat_sh : ∀ n, n < 9 → ∀ k, k < n → ((((3 : Int32) * ((nI n - 1) - nI k)) &&& 31).toBitVec.smod 32).toNat = 3 * (n - 1 - k) := by decide +kernel
theorem cat_top : ∀ n, n < 9 → ((1 : Int32) <<< (((3 : Int32) * nI n) &&& 31)) - 1 = nI (8 ^ n - 1) ∧ 1 ≤ 8 ^ n ∧ 8 ^ n ≤ 16777216 := by decide +kernel
def dg (j n k : Nat) : Nat := j / 8 ^ (n - 1 - k) % 8
theorem cat_c {Z : Shp} {M : Mem} (hZ : OKZ Z) {n : Nat} (hn : n ≤ 8) (h1 : rI M 27 3 = nI n) {j k : Nat} (hj : j < 2 ^ 31) (hk : k < n) : fX9_comerAt Z M 27 (nI j) (nI k) = some (nI (dg j n k)) := by
  unfold fX9_comerAt
  rw [if_pos (tg_27 hZ), h1, pk_shrN hj _ (3 * (n - 1 - k)) (cat_sh n (by omega) k hk), pk_andN (k := 3) (Nat.lt_of_le_of_lt (Nat.div_le_self _ _) (by omega)) (by decide), Nat.pow_mul]
  rfl
def orUp (d : Nat → Nat) : Nat → Int32
  | 0 => 0
  | k + 1 => orUp d k ||| ((1 : Int32) <<< (nI (d k) &&& 31))
/-- the model's figures, from the last one on -/
def jdM (M : Mem) (j n : Nat) : Nat → Mem
  | 0 => M
  | t + 1 => wI (jdM M j n t) 93 (n - 1 - t) (nI (j / 8 ^ t % 8))
def jdS (j : Nat) : Nat → Int32
  | 0 => 0
  | t + 1 => jdS j t ||| ((1 : Int32) <<< (nI (j / 8 ^ t % 8) &&& 31))
theorem rR_jdM (M : Mem) (j n a k : Nat) : ∀ t, rR (jdM M j n t) a k = rR M a k := by
  intro t
  induction t with
  | zero => rfl
  | succ t ih => rw [jdM, rR_wI, ih]
theorem rI_jdM {M : Mem} {j n : Nat} (a k : Nat) : ∀ t, t ≤ n → rI (jdM M j n t) a k = if a = 93 ∧ n - t ≤ k ∧ k < n then nI (dg j n k) else rI M a k := by
  intro t
  induction t with
  | zero => intro _; rw [if_neg (by omega)]; rfl
  | succ t ih =>
    intro ht
    rw [jdM, rI_wI, ih (by omega)]
    by_cases c : a = 93 ∧ k = n - 1 - t
    · rw [if_pos c, if_pos (by omega), dg, show n - 1 - k = t by omega]
    · rw [if_neg c]
      by_cases e : a = 93 ∧ n - t ≤ k ∧ k < n
      · rw [if_pos e, if_pos (by omega)]
      · rw [if_neg e, if_neg (by omega)]
theorem Wr.jd {Z : Shp} {L : List (Nat × Option Nat)} {ts LR : List Nat} {M M1 : Mem} {j n : Nat} (h : Wr Z L ts LR M M1) (hm : (93, none) ∈ L) (t : Nat) : Wr Z L ts LR M (jdM M1 j n t) := by
  induction t with
  | zero => exact h
  | succ t ih => exact ih.sI (Or.inl hm)
theorem or_up {j n : Nat} : ∀ t, t ≤ n → orUp (dg j n) (n - t) ||| jdS j t = orUp (dg j n) n := by
  intro t
  induction t with
  | zero => intro _; simp [jdS]
  | succ t ih =>
    intro ht
    rw [← ih (by omega), show n - t = (n - (t + 1)) + 1 by omega, orUp, jdS, dg, show n - 1 - (n - (t + 1)) = t by omega]
    apply Int32.toBitVec_inj.mp
    simp only [Int32.toBitVec_or]
    rw [BitVec.or_assoc, BitVec.or_comm (jdS j t).toBitVec]
theorem jd_loop {Z : Shp} {M : Mem} (hZ : OKZ Z) (hF : Fix M) {n : Nat} (hn : n ≤ 8) (hn0 : 0 < n) {j : Nat} (hj : j < 2 ^ 31) : loop (fun s7 : Int32 × Int32 × Int32 × Mem => (if s7.2.2.1 < 0 then some (Sum.inr (s7.1, s7.2.1, s7.2.2.2)) else (if nI j < 0 then some (Sum.inr (s7.1, s7.2.1, s7.2.2.2)) else (if aok Z (rR s7.2.2.2 51 62) 100 s7.2.2.1 then (pu (wI s7.2.2.2 (rR s7.2.2.2 51 62) (ix s7.2.2.1) (s7.1 - s7.1 / (8 : Int32) * (8 : Int32))) (fun M13 => (pu ((s7.1 / (8 : Int32))) (fun z14 => (if aok Z (rR M13 51 62) 100 s7.2.2.1 then (pu ((s7.2.1 ||| ((1 : Int32) <<< ((rI M13 (rR M13 51 62) (ix s7.2.2.1)) &&& 31)))) (fun z16 => some (Sum.inl (z14, z16, (s7.2.2.1 + (-1 : Int32)), M13)))) else none))))) else none)))) (nI j, (0 : Int32), nI n - 1, M) = some (nI (j / 8 ^ n), jdS j n, jdM M j n n) := by
  refine loop_for (fun t => (nI (j / 8 ^ t), jdS j t, nI (n - t) - 1, jdM M j n t)) n (by simp [jdS, jdM]) (fun t ht => ?_) ?_
  · have hnt : nI (n - t) - 1 = nI (n - 1 - t) := by
      rw [show n - t = (n - 1 - t) + 1 by omega, nI_pred]
    have hnt2 : nI (n - (t + 1)) - 1 = nI (n - 1 - t) + (-1) := by
      rw [show n - (t + 1) = n - 1 - t by omega]
      have h1 := nI_toInt (n := n - 1 - t) (by omega)
      have m1 : (1 : Int32).toInt = 1 := by decide
      have m2 : (-1 : Int32).toInt = -1 := by decide
      rw [i32_eq, addI (by omega) (by omega), subI (by omega) (by omega)]
      omega
    have hix : ix (nI (n - 1 - t)) = n - 1 - t := ix_nI (by omega)
    have a93 : aok Z 93 100 (nI (n - 1 - t)) := aok_nI (tg_93 hZ) (by omega) (by decide)
    have hlt : j / 8 ^ t < 2 ^ 31 := Nat.lt_of_le_of_lt (Nat.div_le_self _ _) hj
    have hd := pk_div (d := 8) hlt (by decide) (by decide)
    have hm := pk_rem (d := 8) hlt (by decide) (by decide)
    rw [show nI 8 = 8 by decide] at hd hm
    rw [hd] at hm
    have hdd : j / 8 ^ (t + 1) = j / 8 ^ t / 8 := by rw [Nat.pow_succ, Nat.div_div_eq_div_mul]
    dsimp only
    rw [hnt, if_neg (nI_pos (by omega)), if_neg (nI_pos hj), rR_jdM, fr_51_62 hF, if_pos a93]
    simp only [pu, rR_wI, rR_jdM, fr_51_62 hF, if_pos a93, hix, hd, hm, rI_wI, and_self, if_true, hnt2, hdd, jdS, jdM]
  · simp [show nI 0 - 1 < 0 by decide]
abbrev FJudge : List (Nat × Option Nat) := [(93, none), (51, some 64), (51, some 65)]
theorem fill_j {Z : Shp} {M : Mem} (hZ : OKZ Z) (hF : Fix M) {n : Nat} (hn : n ≤ 8) (h1 : rI M 27 3 = nI n) (e1 : ∀ k, rI M 28 k = rI M 90 k) (e2 : ∀ k, rI M 29 k = rI M 91 k) (e3 : ∀ k, rI M 30 k = rI M 92 k) (hT : tOk M n) {j : Nat} (hj : j < 2 ^ 31) (hd : ∀ k, k < n → dg j n k < n) : fX9_fillingsOf Z M 27 (nI j) = some (match tlate M (dg j n) n with | none => nI (trn M (dg j n) n).2.2 | some x => -1000 - nI x) := by
  have hb := trn_bd (M := M) (d := dg j n) (n := n) (fun k hk => (hT (dg j n k) (hd k hk)).2.1.2)
  unfold fX9_fillingsOf
  have hls : ∀ k d x, tlate M (dg j n) k = some x → tlate M (dg j n) (k + d) = some x := by
    intro k d x h
    induction d with
    | zero => exact h
    | succ d ih => rw [← Nat.add_assoc, tlate, ih]
  obtain ⟨r, q1, q2⟩ := loop_inv (f := fun s1 : Int32 × Int32 × Int32 × Int32 => (if tg Z 27 = (10, 10) then (if (rI M 27 3) ≤ s1.2.2.2 then some (Sum.inr s1.2.2.1) else (Option.bind (fX9_comerAt Z M 27 (nI j) s1.2.2.2) (fun v6 => (Option.bind (fX9_hourOf Z M 27 v6 s1.1) (fun v8 => (if aok Z (rR M 27 2) 100 v6 then (if v8 ≤ (rI M (rR M 27 2) (ix v6)) then (Option.bind (fX9_spends Z M 27 v6 s1.2.1) (fun v12 => (pu ((s1.2.2.1 + v12)) (fun z14 => (Option.bind (fX9_stateBehind Z M 27 v6) (fun v15 => some (Sum.inl (v8, v15, z14, (s1.2.2.2 + (1 : Int32)))))))))) else some (Sum.inr ((-1000 : Int32) - s1.2.2.2))) else none)))))) else none))
    (fun s => ∃ k, k ≤ n ∧ tlate M (dg j n) k = none ∧ s = (nI (trn M (dg j n) k).1 - 1, (if (trn M (dg j n) k).2.1 = true then (1 : Int32) else 0), nI (trn M (dg j n) k).2.2, nI k)) (fun r => r = match tlate M (dg j n) n with | none => nI (trn M (dg j n) n).2.2 | some x => -1000 - nI x) (fun s => n - ix s.2.2.2) (by
    rintro s ⟨k, hk, hl, rfl⟩
    by_cases hkn : k = n
    · subst hkn
      exact Or.inr ⟨_, by simp [tg_27 hZ, h1]; rfl, by rw [hl]⟩
    have hk : k < n := by omega
    have hle := nle hk (by omega)
    have hix : ix (nI k) = k := ix_nI (by omega)
    have hix1 : ix (nI (k + 1)) = k + 1 := ix_nI (by omega)
    have hmu : n - ix (nI (k + 1)) < n - ix (nI k) := by
      rw [hix, hix1]
      omega
    have hdk := hd k hk
    obtain ⟨u1, ⟨u2, u3⟩, u4, u5⟩ := hT (dg j n k) hdk
    have hbk := hb k (by omega)
    have hixd : ix (nI (dg j n k)) = dg j n k := ix_nI (by omega)
    have a28 : aok Z 28 101 (nI (dg j n k)) := aok_nI (tg_28 hZ) (by omega) (by decide)
    have a29 : aok Z 29 100 (nI (dg j n k)) := aok_nI (tg_29 hZ) (by omega) (by decide)
    have a30 : aok Z 30 100 (nI (dg j n k)) := aok_nI (tg_30 hZ) (by omega) (by decide)
    have ps := nI_ps (t := (trn M (dg j n) k).1) (by omega)
    have hh : fX9_hourOf Z M 27 (nI (dg j n k)) (nI (trn M (dg j n) k).1 - 1) = some (nI (max (trn M (dg j n) k).1 (tf M (dg j n k)))) := by
      simp [fX9_hourOf, tg_2 hZ, tg_3 hZ, tg_4 hZ, tg_5 hZ, tg_6 hZ, tg_7 hZ, tg_8 hZ, tg_24 hZ, tg_25 hZ, tg_26 hZ, tg_27 hZ, tg_28 hZ, tg_29 hZ, tg_30 hZ, tg_31 hZ, tg_32 hZ, tg_33 hZ, tg_34 hZ, tg_35 hZ, tg_36 hZ, tg_37 hZ, tg_38 hZ, tg_39 hZ, tg_40 hZ, tg_41 hZ, tg_42 hZ, tg_43 hZ, tg_44 hZ, tg_45 hZ, tg_46 hZ, tg_47 hZ, tg_48 hZ, tg_49 hZ, tg_50 hZ, fr_2_0 hF, fr_3_0 hF, fr_3_1 hF, fr_3_2 hF, fr_3_3 hF, fr_3_4 hF, fr_2_1 hF, fr_24_0 hF, fr_24_2 hF, fr_2_2 hF, fr_27_0 hF, fr_27_1 hF, fr_27_2 hF, fr_27_8 hF, fr_2_3 hF, fr_32_0 hF, fr_32_1 hF, fr_32_3 hF, fr_32_4 hF, fr_32_5 hF, fr_32_6 hF, fr_2_4 hF, fr_39_0 hF, fr_39_1 hF, fr_39_2 hF, fr_39_3 hF, fr_39_4 hF, fr_39_5 hF, fr_39_6 hF, fr_2_5 hF, fr_47_0 hF, fr_47_1 hF, fr_47_2 hF, if_pos a29, hixd, ps, e2, u2, mxI_nI (show (trn M (dg j n) k).1 < 2 ^ 31 by omega) (show tf M (dg j n k) < 2 ^ 31 by omega)]
    by_cases c : tb M (dg j n k) < max (trn M (dg j n) k).1 (tf M (dg j n k))
    · refine Or.inr ⟨-1000 - nI k, ?_, ?_⟩
      · simp [tg_2 hZ, tg_3 hZ, tg_4 hZ, tg_5 hZ, tg_6 hZ, tg_7 hZ, tg_8 hZ, tg_24 hZ, tg_25 hZ, tg_26 hZ, tg_27 hZ, tg_28 hZ, tg_29 hZ, tg_30 hZ, tg_31 hZ, tg_32 hZ, tg_33 hZ, tg_34 hZ, tg_35 hZ, tg_36 hZ, tg_37 hZ, tg_38 hZ, tg_39 hZ, tg_40 hZ, tg_41 hZ, tg_42 hZ, tg_43 hZ, tg_44 hZ, tg_45 hZ, tg_46 hZ, tg_47 hZ, tg_48 hZ, tg_49 hZ, tg_50 hZ, fr_2_0 hF, fr_3_0 hF, fr_3_1 hF, fr_3_2 hF, fr_3_3 hF, fr_3_4 hF, fr_2_1 hF, fr_24_0 hF, fr_24_2 hF, fr_2_2 hF, fr_27_0 hF, fr_27_1 hF, fr_27_2 hF, fr_27_8 hF, fr_2_3 hF, fr_32_0 hF, fr_32_1 hF, fr_32_3 hF, fr_32_4 hF, fr_32_5 hF, fr_32_6 hF, fr_2_4 hF, fr_39_0 hF, fr_39_1 hF, fr_39_2 hF, fr_39_3 hF, fr_39_4 hF, fr_39_5 hF, fr_39_6 hF, fr_2_5 hF, fr_47_0 hF, fr_47_1 hF, fr_47_2 hF, h1, hle, cat_c hZ hn h1 hj hk, hh, if_pos a30, hixd, e3, u4, nI_ge c (by omega)]
      · have h3 : tlate M (dg j n) (k + 1) = some k := by rw [tlate, hl]; simp [c]
        have := hls (k + 1) (n - (k + 1)) k h3
        rw [show k + 1 + (n - (k + 1)) = n by omega] at this
        rw [this]
    · have c2 : nI (max (trn M (dg j n) k).1 (tf M (dg j n k))) ≤ nI (tb M (dg j n k)) := nI_le (by omega) (by omega)
      refine Or.inl ⟨_, ?_, ⟨k + 1, by omega, by rw [tlate, hl]; simp [c], rfl⟩, hmu⟩
      by_cases q1 : tu M (dg j n k) = true
      · rw [if_pos q1] at u1
        simp [tg_2 hZ, tg_3 hZ, tg_4 hZ, tg_5 hZ, tg_6 hZ, tg_7 hZ, tg_8 hZ, tg_24 hZ, tg_25 hZ, tg_26 hZ, tg_27 hZ, tg_28 hZ, tg_29 hZ, tg_30 hZ, tg_31 hZ, tg_32 hZ, tg_33 hZ, tg_34 hZ, tg_35 hZ, tg_36 hZ, tg_37 hZ, tg_38 hZ, tg_39 hZ, tg_40 hZ, tg_41 hZ, tg_42 hZ, tg_43 hZ, tg_44 hZ, tg_45 hZ, tg_46 hZ, tg_47 hZ, tg_48 hZ, tg_49 hZ, tg_50 hZ, fr_2_0 hF, fr_3_0 hF, fr_3_1 hF, fr_3_2 hF, fr_3_3 hF, fr_3_4 hF, fr_2_1 hF, fr_24_0 hF, fr_24_2 hF, fr_2_2 hF, fr_27_0 hF, fr_27_1 hF, fr_27_2 hF, fr_27_8 hF, fr_2_3 hF, fr_32_0 hF, fr_32_1 hF, fr_32_3 hF, fr_32_4 hF, fr_32_5 hF, fr_32_6 hF, fr_2_4 hF, fr_39_0 hF, fr_39_1 hF, fr_39_2 hF, fr_39_3 hF, fr_39_4 hF, fr_39_5 hF, fr_39_6 hF, fr_2_5 hF, fr_47_0 hF, fr_47_1 hF, fr_47_2 hF, h1, hle, cat_c hZ hn h1 hj hk, hh, if_pos a30, hixd, e3, u4, c2, fX9_spends, fX9_stateBehind, if_pos a28, e1, u1, pu, trn, tst, q1, nI_succ]
      · rw [if_neg q1] at u1
        by_cases q2 : (trn M (dg j n) k).2.1 = true
        · simp [tg_2 hZ, tg_3 hZ, tg_4 hZ, tg_5 hZ, tg_6 hZ, tg_7 hZ, tg_8 hZ, tg_24 hZ, tg_25 hZ, tg_26 hZ, tg_27 hZ, tg_28 hZ, tg_29 hZ, tg_30 hZ, tg_31 hZ, tg_32 hZ, tg_33 hZ, tg_34 hZ, tg_35 hZ, tg_36 hZ, tg_37 hZ, tg_38 hZ, tg_39 hZ, tg_40 hZ, tg_41 hZ, tg_42 hZ, tg_43 hZ, tg_44 hZ, tg_45 hZ, tg_46 hZ, tg_47 hZ, tg_48 hZ, tg_49 hZ, tg_50 hZ, fr_2_0 hF, fr_3_0 hF, fr_3_1 hF, fr_3_2 hF, fr_3_3 hF, fr_3_4 hF, fr_2_1 hF, fr_24_0 hF, fr_24_2 hF, fr_2_2 hF, fr_27_0 hF, fr_27_1 hF, fr_27_2 hF, fr_27_8 hF, fr_2_3 hF, fr_32_0 hF, fr_32_1 hF, fr_32_3 hF, fr_32_4 hF, fr_32_5 hF, fr_32_6 hF, fr_2_4 hF, fr_39_0 hF, fr_39_1 hF, fr_39_2 hF, fr_39_3 hF, fr_39_4 hF, fr_39_5 hF, fr_39_6 hF, fr_2_5 hF, fr_47_0 hF, fr_47_1 hF, fr_47_2 hF, h1, hle, cat_c hZ hn h1 hj hk, hh, if_pos a30, hixd, e3, u4, c2, fX9_spends, fX9_stateBehind, if_pos a28, e1, u1, pu, trn, tst, q1, q2, nI_succ]
        · simp [tg_2 hZ, tg_3 hZ, tg_4 hZ, tg_5 hZ, tg_6 hZ, tg_7 hZ, tg_8 hZ, tg_24 hZ, tg_25 hZ, tg_26 hZ, tg_27 hZ, tg_28 hZ, tg_29 hZ, tg_30 hZ, tg_31 hZ, tg_32 hZ, tg_33 hZ, tg_34 hZ, tg_35 hZ, tg_36 hZ, tg_37 hZ, tg_38 hZ, tg_39 hZ, tg_40 hZ, tg_41 hZ, tg_42 hZ, tg_43 hZ, tg_44 hZ, tg_45 hZ, tg_46 hZ, tg_47 hZ, tg_48 hZ, tg_49 hZ, tg_50 hZ, fr_2_0 hF, fr_3_0 hF, fr_3_1 hF, fr_3_2 hF, fr_3_3 hF, fr_3_4 hF, fr_2_1 hF, fr_24_0 hF, fr_24_2 hF, fr_2_2 hF, fr_27_0 hF, fr_27_1 hF, fr_27_2 hF, fr_27_8 hF, fr_2_3 hF, fr_32_0 hF, fr_32_1 hF, fr_32_3 hF, fr_32_4 hF, fr_32_5 hF, fr_32_6 hF, fr_2_4 hF, fr_39_0 hF, fr_39_1 hF, fr_39_2 hF, fr_39_3 hF, fr_39_4 hF, fr_39_5 hF, fr_39_6 hF, fr_2_5 hF, fr_47_0 hF, fr_47_1 hF, fr_47_2 hF, h1, hle, cat_c hZ hn h1 hj hk, hh, if_pos a30, hixd, e3, u4, c2, fX9_spends, fX9_stateBehind, if_pos a28, e1, u1, pu, trn, tst, q1, q2, nI_succ]) ((-1 : Int32), (0 : Int32), (0 : Int32), (0 : Int32)) ⟨0, by omega, rfl, rfl⟩
  rw [← q2]
  exact q1
theorem orUp_all : ∀ n, n < 9 → ∀ c, c < 8 → n ≤ c → ∀ x, x < 256 → ¬ nI x ||| ((1 : Int32) <<< (nI c &&& 31)) = ((1 : Int32) <<< (nI n &&& 31)) - 1 := by decide +kernel
theorem orUp_nI {d : Nat → Nat} : ∀ k, (∀ i, i < k → d i < 8) → ∃ x, x < 256 ∧ orUp d k = nI x := by
  intro k
  induction k with
  | zero => exact fun _ => ⟨0, by omega, rfl⟩
  | succ k ih =>
    intro h
    obtain ⟨x, hx, e⟩ := ih (fun i hi => h i (by omega))
    have hk := h k (by omega)
    rw [orUp, e]
    have key : ∀ c, c < 8 → ∀ x, x < 256 → nI x ||| ((1 : Int32) <<< (nI c &&& 31)) = nI (x ||| 2 ^ c) ∧ x ||| 2 ^ c < 256 := by decide +kernel
    exact ⟨_, (key _ hk _ hx).2, (key _ hk _ hx).1⟩
