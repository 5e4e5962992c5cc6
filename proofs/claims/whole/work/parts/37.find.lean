/-! find: bits -/
theorem fd_bt : ∀ j, j < 1024 → ∀ i, i < 10 → (nI j >>> (nI i &&& 31)) &&& 1 = nI (j / 2 ^ i % 2) := by decide +kernel
theorem fd_x : ∀ j, j < 1023 → ∀ i, i < 10 → (((nI (j + 1) ^^^ (nI (j + 1) - 1)) >>> (nI i &&& 31) = 0 ↔ (j + 1) / 2 ^ i = j / 2 ^ i) ∧ ((j + 1) / 2 ^ i = j / 2 ^ i ∨ ((j + 1) / 2 ^ i % 2 = 1 ↔ ¬ j / 2 ^ i % 2 = 1))) := by decide +kernel
def bsum (x : Int32) : Nat → Int32
  | 0 => 0
  | k + 1 => bsum x k + ((x >>> (nI k &&& 31)) &&& 1)
theorem fd_bc : ∀ j, j < 1024 → bsum (nI j) 12 = fJ6_bitCount_0f7a4 (nI j) := by decide +kernel
theorem fd_le : ∀ n, n < 11 → ∀ j, j < 2 ^ n → fJ6_bitCount_0f7a4 (nI j) ≤ nI n := by decide +kernel
theorem fd_sh : ∀ n, n < 11 → (1 : Int32) <<< (nI n &&& 31) = nI (2 ^ n) ∧ 1 ≤ 2 ^ n ∧ 2 ^ n ≤ 1024 := by decide +kernel
theorem div_up {a b i k : Nat} (h : a / 2 ^ i = b / 2 ^ i) (hk : i ≤ k) : a / 2 ^ k = b / 2 ^ k := by
  obtain ⟨d, rfl⟩ := Nat.exists_eq_add_of_le hk
  rw [Nat.pow_add, ← Nat.div_div_eq_div_mul, ← Nat.div_div_eq_div_mul, h]
theorem bitsOf_m {j : Nat} (hj : j < 1024) : fX12_bitsOf (nI j) = some (fJ6_bitCount_0f7a4 (nI j)) := by
  unfold fX12_bitsOf
  refine loop_for (fun i => (bsum (nI j) i, nI i)) 12 rfl (fun i hi => ?_) (by simp [show (12 : Int32) ≤ nI 12 by decide, fd_bc j hj])
  have hle := nle hi (by decide)
  rw [show nI 12 = 12 by decide] at hle
  simp [hle, pu, bsum, nI_succ]
def bj (j k : Nat) : Bool := decide (j / 2 ^ k % 2 = 1)
def lz (M : Mem) (p : Nat) (f : Nat → Bool) : Nat → Int
  | 0 => 0
  | k + 1 => lz M p f k + if f k = true ∧ rI M 95 k = nI p then (rI M 96 k).toInt else 0
def ls (M : Mem) (p : Nat) (f : Nat → Bool) : Nat → Int32
  | 0 => 0
  | k + 1 => ls M p f k + if f k = true ∧ rI M 95 k = nI p then rI M 96 k else 0
theorem lz_bd {M : Mem} {p : Nat} {f : Nat → Bool} {n : Nat} (h : ∀ k, k < n → 1 ≤ (rI M 96 k).toInt ∧ (rI M 96 k).toInt ≤ 999) : ∀ k : Nat, k ≤ n → 0 ≤ lz M p f k ∧ lz M p f k ≤ 999 * (k : Int) := by
  intro k
  induction k with
  | zero => exact fun _ => ⟨by simp [lz], by simp [lz]⟩
  | succ k ih =>
    intro hk
    have h1 := ih (by omega)
    have h2 := h k (by omega)
    rw [lz]
    split
    · omega
    · omega
theorem ls_lz {M : Mem} {p : Nat} {f : Nat → Bool} {n : Nat} (hn : n ≤ 10) (h : ∀ k, k < n → 1 ≤ (rI M 96 k).toInt ∧ (rI M 96 k).toInt ≤ 999) : ∀ k : Nat, k ≤ n → (ls M p f k).toInt = lz M p f k := by
  intro k
  induction k with
  | zero => exact fun _ => by rw [ls, lz]; decide
  | succ k ih =>
    intro hk
    have h1 := ih (by omega)
    have h2 := h k (by omega)
    have h3 := lz_bd (p := p) (f := f) h k (by omega)
    have m0 : (0 : Int32).toInt = 0 := by decide
    rw [lz, ls]
    split
    · rw [addI (by omega) (by omega), h1]
    · rw [addI (by omega) (by omega), h1, m0]
theorem lz_congr {M : Mem} {p : Nat} {f g : Nat → Bool} : ∀ n, (∀ k, k < n → f k = g k) → lz M p f n = lz M p g n := by
  intro n
  induction n with
  | zero => exact fun _ => rfl
  | succ n ih =>
    intro h
    rw [lz, lz, ih (fun k hk => h k (by omega)), h n (by omega)]
theorem lz_flip {M : Mem} {p : Nat} {f g : Nat → Bool} {i : Nat} (h : ∀ k, k ≠ i → f k = g k) (h1 : f i = false) (h2 : g i = true) : ∀ n, i < n → lz M p g n = lz M p f n + if rI M 95 i = nI p then (rI M 96 i).toInt else 0 := by
  intro n
  induction n with
  | zero => exact fun h => absurd h (by omega)
  | succ n ih =>
    intro hi
    by_cases e : i = n
    · subst e
      rw [lz, lz, lz_congr (f := g) (g := f) i (fun k hk => (h k (by omega)).symm), h1, h2]
      simp
    · rw [lz, lz, ih (by omega), h n (by omega)]
      exact Int.add_right_comm _ _ _
theorem lz_0 {M : Mem} {p : Nat} {f : Nat → Bool} (h : ∀ k, f k = false) : ∀ n, lz M p f n = 0 := by
  intro n
  induction n with
  | zero => rfl
  | succ n ih => simp [lz, ih, h]
theorem lz_mem {M M1 : Mem} (h1 : ∀ k, rI M1 95 k = rI M 95 k) (h2 : ∀ k, rI M1 96 k = rI M 96 k) (p : Nat) (f : Nat → Bool) : ∀ n, lz M1 p f n = lz M p f n := by
  intro n
  induction n with
  | zero => rfl
  | succ n ih => rw [lz, lz, ih, h1, h2]
/-- pound p is as read -/
def okB (M : Mem) (f : Nat → Bool) (n p : Nat) : Bool := decide (rI M 97 p = -1) || (decide ((rI M 97 p).toInt - (rI M 98 p).toInt ≤ lz M p f n) && decide (lz M p f n ≤ (rI M 97 p).toInt + (rI M 98 p).toInt))
def exB (M : Mem) (f : Nat → Bool) (n : Nat) : Nat → Bool
  | 0 => true
  | i + 1 => exB M f n i && okB M f n i
theorem exB_f {M : Mem} {f : Nat → Bool} {n i : Nat} (h : exB M f n i = false) : ∀ d, exB M f n (i + d) = false := by
  intro d
  induction d with
  | zero => exact h
  | succ d ih => rw [← Nat.add_assoc, exB, ih, Bool.false_and]
abbrev FFd : List (Nat × Option Nat) := [(38, none), (32, some 7), (32, some 8)]
abbrev FBk2 : List (Nat × Option Nat) := [(32, some 2), (33, none), (34, none), (35, none), (36, none), (37, none), (51, some 66), (95, none), (96, none), (97, none), (98, none)]
theorem IBanks.kp {Z : Shp} {L : List (Nat × Option Nat)} {ts LR : List Nat} {M M1 : Mem} (h : IBanks M) (w : Wr Z L ts LR M M1) (hd : dis L FBk2 = true) : IBanks M1 := by
  unfold IBanks at h ⊢
  simp only [w.row hd (a := 33) (by simp) (by omega), w.row hd (a := 34) (by simp) (by omega), w.row hd (a := 35) (by simp) (by omega), w.row hd (a := 36) (by simp) (by omega), w.row hd (a := 37) (by simp) (by omega), w.row hd (a := 95) (by simp) (by omega), w.row hd (a := 96) (by simp) (by omega), w.row hd (a := 97) (by simp) (by omega), w.row hd (a := 98) (by simp) (by omega), w.at hd (a := 32) (k := 2) (by simp) (by omega), w.at hd (a := 51) (k := 66) (by simp) (by omega)]
  exact h
theorem n8 {i : Nat} (h : i < 8) : ¬ (8 : Int32) ≤ nI i := by
  have hle := nle h (by decide)
  rw [show nI 8 = 8 by decide] at hle
  exact hle
theorem exp_m {Z : Shp} {M : Mem} (hZ : OKZ Z) (hF : Fix M) {n : Nat} (hn : n ≤ 10) (h2 : rI M 51 66 = nI n) (hv : ∀ k, k < n → (∃ p, p < 8 ∧ rI M 95 k = nI p) ∧ 1 ≤ (rI M 96 k).toInt ∧ (rI M 96 k).toInt ≤ 999) (hr : ∀ p, p < 8 → rI M 97 p = -1 ∨ (0 ≤ (rI M 97 p).toInt ∧ (rI M 97 p).toInt ≤ 9999 ∧ 0 ≤ (rI M 98 p).toInt ∧ (rI M 98 p).toInt ≤ 99)) {j : Nat} (hj : j < 1024) : fX12_explains Z M 51 (nI j) = some (if exB M (bj j) n 8 = true then 1 else 0) := by
  unfold fX12_explains
  refine loop_for (fun i => (if exB M (bj j) n i = true then (1 : Int32) else 0, nI i)) 8 rfl (fun i hi => ?_) ?_
  · dsimp only
    rw [if_neg (n8 hi)]
    have hix : ix (nI i) = i := ix_nI (by omega)
    have hv2 : ∀ k, k < n → 1 ≤ (rI M 96 k).toInt ∧ (rI M 96 k).toInt ≤ 999 := fun k hk => (hv k hk).2
    refine bindL (v := ls M i (bj j) n) (loop_for (fun k => (ls M i (bj j) k, nI k)) n rfl (fun k hk => ?_) (by simp [tg_51 hZ, tg_52 hZ, tg_53 hZ, tg_54 hZ, tg_55 hZ, tg_56 hZ, tg_57 hZ, tg_58 hZ, tg_59 hZ, tg_60 hZ, tg_61 hZ, tg_62 hZ, tg_63 hZ, tg_64 hZ, tg_65 hZ, tg_66 hZ, tg_67 hZ, tg_68 hZ, tg_69 hZ, tg_70 hZ, tg_71 hZ, tg_72 hZ, tg_73 hZ, tg_74 hZ, tg_75 hZ, tg_76 hZ, tg_77 hZ, tg_78 hZ, tg_79 hZ, tg_80 hZ, tg_81 hZ, tg_82 hZ, tg_83 hZ, tg_84 hZ, tg_85 hZ, tg_86 hZ, tg_87 hZ, tg_88 hZ, tg_89 hZ, tg_90 hZ, tg_91 hZ, tg_92 hZ, tg_93 hZ, tg_94 hZ, tg_95 hZ, tg_96 hZ, tg_97 hZ, tg_98 hZ, tg_99 hZ, tg_100 hZ, tg_101 hZ, tg_102 hZ, tg_103 hZ, tg_104 hZ, tg_105 hZ, tg_106 hZ, tg_107 hZ, tg_108 hZ, tg_109 hZ, fr_51_0 hF, fr_51_1 hF, fr_51_2 hF, fr_51_4 hF, fr_51_5 hF, fr_51_6 hF, fr_51_7 hF, fr_51_8 hF, fr_51_9 hF, fr_51_10 hF, fr_51_16 hF, fr_51_17 hF, fr_51_18 hF, fr_51_19 hF, fr_51_20 hF, fr_51_22 hF, fr_51_23 hF, fr_51_24 hF, fr_51_25 hF, fr_51_26 hF, fr_51_27 hF, fr_51_28 hF, fr_51_29 hF, fr_51_30 hF, fr_51_31 hF, fr_51_32 hF, fr_51_33 hF, fr_51_36 hF, fr_51_37 hF, fr_51_38 hF, fr_51_39 hF, fr_51_40 hF, fr_51_41 hF, fr_51_42 hF, fr_51_51 hF, fr_51_52 hF, fr_51_54 hF, fr_51_56 hF, fr_51_58 hF, fr_51_59 hF, fr_51_60 hF, fr_51_62 hF, fr_51_63 hF, fr_51_67 hF, fr_51_68 hF, fr_51_69 hF, fr_51_70 hF, fr_51_71 hF, fr_51_72 hF, fr_51_73 hF, fr_51_74 hF, fr_51_76 hF, fr_51_77 hF, fr_51_78 hF, fr_51_79 hF, fr_51_82 hF, fr_51_83 hF, fr_51_84 hF, h2])) ?_
    · have hle := nle hk (by omega)
      have hixk : ix (nI k) = k := ix_nI (by omega)
      have a95 : aok Z 95 100 (nI k) := aok_nI (tg_95 hZ) (by omega) (by decide)
      have a96 : aok Z 96 100 (nI k) := aok_nI (tg_96 hZ) (by omega) (by decide)
      have hb := fd_bt j hj k (by omega)
      rcases Nat.mod_two_eq_zero_or_one (j / 2 ^ k) with d | d
      · rw [d] at hb
        have hbj : bj j k = false := by simp [bj, d]
        simp [tg_51 hZ, tg_52 hZ, tg_53 hZ, tg_54 hZ, tg_55 hZ, tg_56 hZ, tg_57 hZ, tg_58 hZ, tg_59 hZ, tg_60 hZ, tg_61 hZ, tg_62 hZ, tg_63 hZ, tg_64 hZ, tg_65 hZ, tg_66 hZ, tg_67 hZ, tg_68 hZ, tg_69 hZ, tg_70 hZ, tg_71 hZ, tg_72 hZ, tg_73 hZ, tg_74 hZ, tg_75 hZ, tg_76 hZ, tg_77 hZ, tg_78 hZ, tg_79 hZ, tg_80 hZ, tg_81 hZ, tg_82 hZ, tg_83 hZ, tg_84 hZ, tg_85 hZ, tg_86 hZ, tg_87 hZ, tg_88 hZ, tg_89 hZ, tg_90 hZ, tg_91 hZ, tg_92 hZ, tg_93 hZ, tg_94 hZ, tg_95 hZ, tg_96 hZ, tg_97 hZ, tg_98 hZ, tg_99 hZ, tg_100 hZ, tg_101 hZ, tg_102 hZ, tg_103 hZ, tg_104 hZ, tg_105 hZ, tg_106 hZ, tg_107 hZ, tg_108 hZ, tg_109 hZ, fr_51_0 hF, fr_51_1 hF, fr_51_2 hF, fr_51_4 hF, fr_51_5 hF, fr_51_6 hF, fr_51_7 hF, fr_51_8 hF, fr_51_9 hF, fr_51_10 hF, fr_51_16 hF, fr_51_17 hF, fr_51_18 hF, fr_51_19 hF, fr_51_20 hF, fr_51_22 hF, fr_51_23 hF, fr_51_24 hF, fr_51_25 hF, fr_51_26 hF, fr_51_27 hF, fr_51_28 hF, fr_51_29 hF, fr_51_30 hF, fr_51_31 hF, fr_51_32 hF, fr_51_33 hF, fr_51_36 hF, fr_51_37 hF, fr_51_38 hF, fr_51_39 hF, fr_51_40 hF, fr_51_41 hF, fr_51_42 hF, fr_51_51 hF, fr_51_52 hF, fr_51_54 hF, fr_51_56 hF, fr_51_58 hF, fr_51_59 hF, fr_51_60 hF, fr_51_62 hF, fr_51_63 hF, fr_51_67 hF, fr_51_68 hF, fr_51_69 hF, fr_51_70 hF, fr_51_71 hF, fr_51_72 hF, fr_51_73 hF, fr_51_74 hF, fr_51_76 hF, fr_51_77 hF, fr_51_78 hF, fr_51_79 hF, fr_51_82 hF, fr_51_83 hF, fr_51_84 hF, h2, hle, hb, show ¬ nI 0 = 1 by decide, pu, ls, hbj, nI_succ]
      · rw [d] at hb
        have hbj : bj j k = true := by simp [bj, d]
        by_cases q : rI M 95 k = nI i
        · simp [tg_51 hZ, tg_52 hZ, tg_53 hZ, tg_54 hZ, tg_55 hZ, tg_56 hZ, tg_57 hZ, tg_58 hZ, tg_59 hZ, tg_60 hZ, tg_61 hZ, tg_62 hZ, tg_63 hZ, tg_64 hZ, tg_65 hZ, tg_66 hZ, tg_67 hZ, tg_68 hZ, tg_69 hZ, tg_70 hZ, tg_71 hZ, tg_72 hZ, tg_73 hZ, tg_74 hZ, tg_75 hZ, tg_76 hZ, tg_77 hZ, tg_78 hZ, tg_79 hZ, tg_80 hZ, tg_81 hZ, tg_82 hZ, tg_83 hZ, tg_84 hZ, tg_85 hZ, tg_86 hZ, tg_87 hZ, tg_88 hZ, tg_89 hZ, tg_90 hZ, tg_91 hZ, tg_92 hZ, tg_93 hZ, tg_94 hZ, tg_95 hZ, tg_96 hZ, tg_97 hZ, tg_98 hZ, tg_99 hZ, tg_100 hZ, tg_101 hZ, tg_102 hZ, tg_103 hZ, tg_104 hZ, tg_105 hZ, tg_106 hZ, tg_107 hZ, tg_108 hZ, tg_109 hZ, fr_51_0 hF, fr_51_1 hF, fr_51_2 hF, fr_51_4 hF, fr_51_5 hF, fr_51_6 hF, fr_51_7 hF, fr_51_8 hF, fr_51_9 hF, fr_51_10 hF, fr_51_16 hF, fr_51_17 hF, fr_51_18 hF, fr_51_19 hF, fr_51_20 hF, fr_51_22 hF, fr_51_23 hF, fr_51_24 hF, fr_51_25 hF, fr_51_26 hF, fr_51_27 hF, fr_51_28 hF, fr_51_29 hF, fr_51_30 hF, fr_51_31 hF, fr_51_32 hF, fr_51_33 hF, fr_51_36 hF, fr_51_37 hF, fr_51_38 hF, fr_51_39 hF, fr_51_40 hF, fr_51_41 hF, fr_51_42 hF, fr_51_51 hF, fr_51_52 hF, fr_51_54 hF, fr_51_56 hF, fr_51_58 hF, fr_51_59 hF, fr_51_60 hF, fr_51_62 hF, fr_51_63 hF, fr_51_67 hF, fr_51_68 hF, fr_51_69 hF, fr_51_70 hF, fr_51_71 hF, fr_51_72 hF, fr_51_73 hF, fr_51_74 hF, fr_51_76 hF, fr_51_77 hF, fr_51_78 hF, fr_51_79 hF, fr_51_82 hF, fr_51_83 hF, fr_51_84 hF, h2, hle, hb, show nI 1 = 1 by decide, if_pos a95, if_pos a96, hixk, q, pu, ls, hbj, nI_succ]
        · simp [tg_51 hZ, tg_52 hZ, tg_53 hZ, tg_54 hZ, tg_55 hZ, tg_56 hZ, tg_57 hZ, tg_58 hZ, tg_59 hZ, tg_60 hZ, tg_61 hZ, tg_62 hZ, tg_63 hZ, tg_64 hZ, tg_65 hZ, tg_66 hZ, tg_67 hZ, tg_68 hZ, tg_69 hZ, tg_70 hZ, tg_71 hZ, tg_72 hZ, tg_73 hZ, tg_74 hZ, tg_75 hZ, tg_76 hZ, tg_77 hZ, tg_78 hZ, tg_79 hZ, tg_80 hZ, tg_81 hZ, tg_82 hZ, tg_83 hZ, tg_84 hZ, tg_85 hZ, tg_86 hZ, tg_87 hZ, tg_88 hZ, tg_89 hZ, tg_90 hZ, tg_91 hZ, tg_92 hZ, tg_93 hZ, tg_94 hZ, tg_95 hZ, tg_96 hZ, tg_97 hZ, tg_98 hZ, tg_99 hZ, tg_100 hZ, tg_101 hZ, tg_102 hZ, tg_103 hZ, tg_104 hZ, tg_105 hZ, tg_106 hZ, tg_107 hZ, tg_108 hZ, tg_109 hZ, fr_51_0 hF, fr_51_1 hF, fr_51_2 hF, fr_51_4 hF, fr_51_5 hF, fr_51_6 hF, fr_51_7 hF, fr_51_8 hF, fr_51_9 hF, fr_51_10 hF, fr_51_16 hF, fr_51_17 hF, fr_51_18 hF, fr_51_19 hF, fr_51_20 hF, fr_51_22 hF, fr_51_23 hF, fr_51_24 hF, fr_51_25 hF, fr_51_26 hF, fr_51_27 hF, fr_51_28 hF, fr_51_29 hF, fr_51_30 hF, fr_51_31 hF, fr_51_32 hF, fr_51_33 hF, fr_51_36 hF, fr_51_37 hF, fr_51_38 hF, fr_51_39 hF, fr_51_40 hF, fr_51_41 hF, fr_51_42 hF, fr_51_51 hF, fr_51_52 hF, fr_51_54 hF, fr_51_56 hF, fr_51_58 hF, fr_51_59 hF, fr_51_60 hF, fr_51_62 hF, fr_51_63 hF, fr_51_67 hF, fr_51_68 hF, fr_51_69 hF, fr_51_70 hF, fr_51_71 hF, fr_51_72 hF, fr_51_73 hF, fr_51_74 hF, fr_51_76 hF, fr_51_77 hF, fr_51_78 hF, fr_51_79 hF, fr_51_82 hF, fr_51_83 hF, fr_51_84 hF, h2, hle, hb, show nI 1 = 1 by decide, if_pos a95, hixk, q, pu, ls, hbj, nI_succ]
    · have hl := ls_lz (p := i) (f := bj j) hn hv2 n (Nat.le_refl n)
      have hlb := lz_bd (p := i) (f := bj j) hv2 n (Nat.le_refl n)
      have a97 : aok Z 97 100 (nI i) := aok_nI (tg_97 hZ) (by omega) (by decide)
      have a98 : aok Z 98 100 (nI i) := aok_nI (tg_98 hZ) (by omega) (by decide)
      by_cases c : exB M (bj j) n i = true
      case neg => simp [c, exB, nI_succ]
      by_cases q : rI M 97 i = -1
      · simp [c, tg_51 hZ, tg_52 hZ, tg_53 hZ, tg_54 hZ, tg_55 hZ, tg_56 hZ, tg_57 hZ, tg_58 hZ, tg_59 hZ, tg_60 hZ, tg_61 hZ, tg_62 hZ, tg_63 hZ, tg_64 hZ, tg_65 hZ, tg_66 hZ, tg_67 hZ, tg_68 hZ, tg_69 hZ, tg_70 hZ, tg_71 hZ, tg_72 hZ, tg_73 hZ, tg_74 hZ, tg_75 hZ, tg_76 hZ, tg_77 hZ, tg_78 hZ, tg_79 hZ, tg_80 hZ, tg_81 hZ, tg_82 hZ, tg_83 hZ, tg_84 hZ, tg_85 hZ, tg_86 hZ, tg_87 hZ, tg_88 hZ, tg_89 hZ, tg_90 hZ, tg_91 hZ, tg_92 hZ, tg_93 hZ, tg_94 hZ, tg_95 hZ, tg_96 hZ, tg_97 hZ, tg_98 hZ, tg_99 hZ, tg_100 hZ, tg_101 hZ, tg_102 hZ, tg_103 hZ, tg_104 hZ, tg_105 hZ, tg_106 hZ, tg_107 hZ, tg_108 hZ, tg_109 hZ, fr_51_0 hF, fr_51_1 hF, fr_51_2 hF, fr_51_4 hF, fr_51_5 hF, fr_51_6 hF, fr_51_7 hF, fr_51_8 hF, fr_51_9 hF, fr_51_10 hF, fr_51_16 hF, fr_51_17 hF, fr_51_18 hF, fr_51_19 hF, fr_51_20 hF, fr_51_22 hF, fr_51_23 hF, fr_51_24 hF, fr_51_25 hF, fr_51_26 hF, fr_51_27 hF, fr_51_28 hF, fr_51_29 hF, fr_51_30 hF, fr_51_31 hF, fr_51_32 hF, fr_51_33 hF, fr_51_36 hF, fr_51_37 hF, fr_51_38 hF, fr_51_39 hF, fr_51_40 hF, fr_51_41 hF, fr_51_42 hF, fr_51_51 hF, fr_51_52 hF, fr_51_54 hF, fr_51_56 hF, fr_51_58 hF, fr_51_59 hF, fr_51_60 hF, fr_51_62 hF, fr_51_63 hF, fr_51_67 hF, fr_51_68 hF, fr_51_69 hF, fr_51_70 hF, fr_51_71 hF, fr_51_72 hF, fr_51_73 hF, fr_51_74 hF, fr_51_76 hF, fr_51_77 hF, fr_51_78 hF, fr_51_79 hF, fr_51_82 hF, fr_51_83 hF, fr_51_84 hF, if_pos a97, hix, q, exB, okB, nI_succ]
      · have q2 := (hr i (by omega)).resolve_left q
        have s1 := subI (a := rI M 97 i) (b := rI M 98 i) (by omega) (by omega)
        have s2 := addI (a := rI M 97 i) (b := rI M 98 i) (by omega) (by omega)
        by_cases w : fX11_within (ls M i (bj j) n) (rI M 97 i - rI M 98 i) (rI M 97 i + rI M 98 i) = 0
        · have w2 := w_n w
          rw [s1, s2, hl] at w2
          have w3 : okB M (bj j) n i = false := by
            simp only [okB, q, decide_false, Bool.false_or, Bool.and_eq_false_iff, decide_eq_false_iff_not]
            omega
          simp [c, tg_51 hZ, tg_52 hZ, tg_53 hZ, tg_54 hZ, tg_55 hZ, tg_56 hZ, tg_57 hZ, tg_58 hZ, tg_59 hZ, tg_60 hZ, tg_61 hZ, tg_62 hZ, tg_63 hZ, tg_64 hZ, tg_65 hZ, tg_66 hZ, tg_67 hZ, tg_68 hZ, tg_69 hZ, tg_70 hZ, tg_71 hZ, tg_72 hZ, tg_73 hZ, tg_74 hZ, tg_75 hZ, tg_76 hZ, tg_77 hZ, tg_78 hZ, tg_79 hZ, tg_80 hZ, tg_81 hZ, tg_82 hZ, tg_83 hZ, tg_84 hZ, tg_85 hZ, tg_86 hZ, tg_87 hZ, tg_88 hZ, tg_89 hZ, tg_90 hZ, tg_91 hZ, tg_92 hZ, tg_93 hZ, tg_94 hZ, tg_95 hZ, tg_96 hZ, tg_97 hZ, tg_98 hZ, tg_99 hZ, tg_100 hZ, tg_101 hZ, tg_102 hZ, tg_103 hZ, tg_104 hZ, tg_105 hZ, tg_106 hZ, tg_107 hZ, tg_108 hZ, tg_109 hZ, fr_51_0 hF, fr_51_1 hF, fr_51_2 hF, fr_51_4 hF, fr_51_5 hF, fr_51_6 hF, fr_51_7 hF, fr_51_8 hF, fr_51_9 hF, fr_51_10 hF, fr_51_16 hF, fr_51_17 hF, fr_51_18 hF, fr_51_19 hF, fr_51_20 hF, fr_51_22 hF, fr_51_23 hF, fr_51_24 hF, fr_51_25 hF, fr_51_26 hF, fr_51_27 hF, fr_51_28 hF, fr_51_29 hF, fr_51_30 hF, fr_51_31 hF, fr_51_32 hF, fr_51_33 hF, fr_51_36 hF, fr_51_37 hF, fr_51_38 hF, fr_51_39 hF, fr_51_40 hF, fr_51_41 hF, fr_51_42 hF, fr_51_51 hF, fr_51_52 hF, fr_51_54 hF, fr_51_56 hF, fr_51_58 hF, fr_51_59 hF, fr_51_60 hF, fr_51_62 hF, fr_51_63 hF, fr_51_67 hF, fr_51_68 hF, fr_51_69 hF, fr_51_70 hF, fr_51_71 hF, fr_51_72 hF, fr_51_73 hF, fr_51_74 hF, fr_51_76 hF, fr_51_77 hF, fr_51_78 hF, fr_51_79 hF, fr_51_82 hF, fr_51_83 hF, fr_51_84 hF, if_pos a97, if_pos a98, hix, q, exB, w3, in_within, w, nI_succ]
        · have w2 := w_rng w
          rw [s1, s2, hl] at w2
          have w3 : okB M (bj j) n i = true := by
            simp only [okB, Bool.or_eq_true, Bool.and_eq_true, decide_eq_true_eq]
            omega
          simp [c, tg_51 hZ, tg_52 hZ, tg_53 hZ, tg_54 hZ, tg_55 hZ, tg_56 hZ, tg_57 hZ, tg_58 hZ, tg_59 hZ, tg_60 hZ, tg_61 hZ, tg_62 hZ, tg_63 hZ, tg_64 hZ, tg_65 hZ, tg_66 hZ, tg_67 hZ, tg_68 hZ, tg_69 hZ, tg_70 hZ, tg_71 hZ, tg_72 hZ, tg_73 hZ, tg_74 hZ, tg_75 hZ, tg_76 hZ, tg_77 hZ, tg_78 hZ, tg_79 hZ, tg_80 hZ, tg_81 hZ, tg_82 hZ, tg_83 hZ, tg_84 hZ, tg_85 hZ, tg_86 hZ, tg_87 hZ, tg_88 hZ, tg_89 hZ, tg_90 hZ, tg_91 hZ, tg_92 hZ, tg_93 hZ, tg_94 hZ, tg_95 hZ, tg_96 hZ, tg_97 hZ, tg_98 hZ, tg_99 hZ, tg_100 hZ, tg_101 hZ, tg_102 hZ, tg_103 hZ, tg_104 hZ, tg_105 hZ, tg_106 hZ, tg_107 hZ, tg_108 hZ, tg_109 hZ, fr_51_0 hF, fr_51_1 hF, fr_51_2 hF, fr_51_4 hF, fr_51_5 hF, fr_51_6 hF, fr_51_7 hF, fr_51_8 hF, fr_51_9 hF, fr_51_10 hF, fr_51_16 hF, fr_51_17 hF, fr_51_18 hF, fr_51_19 hF, fr_51_20 hF, fr_51_22 hF, fr_51_23 hF, fr_51_24 hF, fr_51_25 hF, fr_51_26 hF, fr_51_27 hF, fr_51_28 hF, fr_51_29 hF, fr_51_30 hF, fr_51_31 hF, fr_51_32 hF, fr_51_33 hF, fr_51_36 hF, fr_51_37 hF, fr_51_38 hF, fr_51_39 hF, fr_51_40 hF, fr_51_41 hF, fr_51_42 hF, fr_51_51 hF, fr_51_52 hF, fr_51_54 hF, fr_51_56 hF, fr_51_58 hF, fr_51_59 hF, fr_51_60 hF, fr_51_62 hF, fr_51_63 hF, fr_51_67 hF, fr_51_68 hF, fr_51_69 hF, fr_51_70 hF, fr_51_71 hF, fr_51_72 hF, fr_51_73 hF, fr_51_74 hF, fr_51_76 hF, fr_51_77 hF, fr_51_78 hF, fr_51_79 hF, fr_51_82 hF, fr_51_83 hF, fr_51_84 hF, if_pos a97, if_pos a98, hix, q, exB, w3, in_within, w, nI_succ]
  · by_cases c : exB M (bj j) n 8 = true
    · simp [c, show (8 : Int32) ≤ nI 8 by decide, zb]
    · simp [c, show (8 : Int32) ≤ nI 8 by decide, zb]
theorem abI_le {x y : Int32} (h : -1000000 ≤ x.toInt) (h2 : x.toInt ≤ 1000000) : abI x ≤ y ↔ x.toInt ≤ y.toInt ∧ -x.toInt ≤ y.toInt := by
  have m0 : (0 : Int32).toInt = 0 := by decide
  unfold abI
  by_cases c : 0 ≤ x
  · rw [if_pos c, i32_le]
    rw [i32_le, m0] at c
    omega
  · rw [if_neg c, i32_le, subI (by omega) (by omega), m0]
    rw [i32_le, m0] at c
    omega
theorem exp_c {Z : Shp} {M M1 : Mem} (hZ : OKZ Z) (hF : Fix M) (hB : IBanks M) (w : Wr Z FFd [] [] M M1) {n : Nat} (hn : n ≤ 10) (hv : ∀ k, k < n → 1 ≤ (rI M 96 k).toInt ∧ (rI M 96 k).toInt ≤ 999) {f : Nat → Bool} (hl : ∀ p, p < 8 → (rI M1 38 p).toInt = lz M p f n) : fX0_explains Z M1 32 = some (if exB M f n 8 = true then 1 else 0) := by
  have hF1 : Fix M1 := w.fix hF (by decide)
  obtain ⟨-, -, -, -, -, -, -, hr⟩ := hB
  have hd : dis FFd FBk2 = true := by decide
  unfold fX0_explains
  obtain ⟨r, q1, q2⟩ := loop_inv (f := fun s1 : Int32 => (if (8 : Int32) ≤ s1 then some (Sum.inr (1 : Int32)) else (if tg Z 32 = (1, 9) then (if aok Z (rR M1 32 3) 101 s1 then (if (rI M1 (rR M1 32 3) (ix s1)) = 0 then some (Sum.inl (s1 + (1 : Int32))) else (if aok Z (rR M1 32 6) 100 s1 then (if aok Z (rR M1 32 4) 100 s1 then (if aok Z (rR M1 32 5) 100 s1 then (if (abI ((rI M1 (rR M1 32 6) (ix s1)) - (rI M1 (rR M1 32 4) (ix s1)))) ≤ (rI M1 (rR M1 32 5) (ix s1)) then some (Sum.inl (s1 + (1 : Int32))) else some (Sum.inr (0 : Int32))) else none) else none) else none)) else none) else none)))
    (fun s => ∃ i, i ≤ 8 ∧ s = nI i ∧ exB M f n i = true) (fun r => r = if exB M f n 8 = true then 1 else 0) (fun s => 8 - ix s) (by
    rintro s ⟨i, hi, rfl, he⟩
    by_cases h8 : i = 8
    · subst h8
      exact Or.inr ⟨1, by simp [show (8 : Int32) ≤ nI 8 by decide], by rw [he]; rfl⟩
    have hi : i < 8 := by omega
    have hix : ix (nI i) = i := ix_nI (by omega)
    have hix1 : ix (nI (i + 1)) = i + 1 := ix_nI (by omega)
    have hmu : 8 - ix (nI (i + 1)) < 8 - ix (nI i) := by
      rw [hix, hix1]
      omega
    have a35 : aok Z 35 101 (nI i) := aok_nI (tg_35 hZ) (by omega) (by decide)
    have a36 : aok Z 36 100 (nI i) := aok_nI (tg_36 hZ) (by omega) (by decide)
    have a37 : aok Z 37 100 (nI i) := aok_nI (tg_37 hZ) (by omega) (by decide)
    have a38 : aok Z 38 100 (nI i) := aok_nI (tg_38 hZ) (by omega) (by decide)
    have r35 := w.row hd (a := 35) (by simp) (by omega) i
    have r36 := w.row hd (a := 36) (by simp) (by omega) i
    have r37 := w.row hd (a := 37) (by simp) (by omega) i
    have hlb := lz_bd (p := i) (f := f) hv n (Nat.le_refl n)
    have hli := hl i hi
    rcases hr i hi with ⟨g1, g2⟩ | ⟨g1, g2, g3, g4, g5, g6, g7⟩
    · refine Or.inl ⟨nI (i + 1), ?_, ⟨i + 1, by omega, rfl, ?_⟩, hmu⟩
      · simp [n8 hi, tg_2 hZ, tg_3 hZ, tg_4 hZ, tg_5 hZ, tg_6 hZ, tg_7 hZ, tg_8 hZ, tg_24 hZ, tg_25 hZ, tg_26 hZ, tg_27 hZ, tg_28 hZ, tg_29 hZ, tg_30 hZ, tg_31 hZ, tg_32 hZ, tg_33 hZ, tg_34 hZ, tg_35 hZ, tg_36 hZ, tg_37 hZ, tg_38 hZ, tg_39 hZ, tg_40 hZ, tg_41 hZ, tg_42 hZ, tg_43 hZ, tg_44 hZ, tg_45 hZ, tg_46 hZ, tg_47 hZ, tg_48 hZ, tg_49 hZ, tg_50 hZ, fr_2_0 hF1, fr_3_0 hF1, fr_3_1 hF1, fr_3_2 hF1, fr_3_3 hF1, fr_3_4 hF1, fr_2_1 hF1, fr_24_0 hF1, fr_24_2 hF1, fr_2_2 hF1, fr_27_0 hF1, fr_27_1 hF1, fr_27_2 hF1, fr_27_8 hF1, fr_2_3 hF1, fr_32_0 hF1, fr_32_1 hF1, fr_32_3 hF1, fr_32_4 hF1, fr_32_5 hF1, fr_32_6 hF1, fr_2_4 hF1, fr_39_0 hF1, fr_39_1 hF1, fr_39_2 hF1, fr_39_3 hF1, fr_39_4 hF1, fr_39_5 hF1, fr_39_6 hF1, fr_2_5 hF1, fr_47_0 hF1, fr_47_1 hF1, fr_47_2 hF1, if_pos a35, hix, r35, g1, nI_succ]
      · simp [exB, he, okB, g2]
    · have k1 : ¬ (1 : Int32) = 0 := by decide
      have g8 : ¬ rI M 97 i = -1 := fun h => by
        rw [h] at g4
        exact absurd g4 (by decide)
      have hs := subI (a := rI M1 38 i) (b := rI M 97 i) (by omega) (by omega)
      have ha := abI_le (x := rI M1 38 i - rI M 97 i) (y := rI M 98 i) (by omega) (by omega)
      rw [hs, hli] at ha
      by_cases c : abI (rI M1 38 i - rI M 97 i) ≤ rI M 98 i
      · refine Or.inl ⟨nI (i + 1), ?_, ⟨i + 1, by omega, rfl, ?_⟩, hmu⟩
        · simp [n8 hi, tg_2 hZ, tg_3 hZ, tg_4 hZ, tg_5 hZ, tg_6 hZ, tg_7 hZ, tg_8 hZ, tg_24 hZ, tg_25 hZ, tg_26 hZ, tg_27 hZ, tg_28 hZ, tg_29 hZ, tg_30 hZ, tg_31 hZ, tg_32 hZ, tg_33 hZ, tg_34 hZ, tg_35 hZ, tg_36 hZ, tg_37 hZ, tg_38 hZ, tg_39 hZ, tg_40 hZ, tg_41 hZ, tg_42 hZ, tg_43 hZ, tg_44 hZ, tg_45 hZ, tg_46 hZ, tg_47 hZ, tg_48 hZ, tg_49 hZ, tg_50 hZ, fr_2_0 hF1, fr_3_0 hF1, fr_3_1 hF1, fr_3_2 hF1, fr_3_3 hF1, fr_3_4 hF1, fr_2_1 hF1, fr_24_0 hF1, fr_24_2 hF1, fr_2_2 hF1, fr_27_0 hF1, fr_27_1 hF1, fr_27_2 hF1, fr_27_8 hF1, fr_2_3 hF1, fr_32_0 hF1, fr_32_1 hF1, fr_32_3 hF1, fr_32_4 hF1, fr_32_5 hF1, fr_32_6 hF1, fr_2_4 hF1, fr_39_0 hF1, fr_39_1 hF1, fr_39_2 hF1, fr_39_3 hF1, fr_39_4 hF1, fr_39_5 hF1, fr_39_6 hF1, fr_2_5 hF1, fr_47_0 hF1, fr_47_1 hF1, fr_47_2 hF1, if_pos a35, if_pos a36, if_pos a37, if_pos a38, hix, r35, r36, r37, g1, g2, g3, c, nI_succ]
        · have c2 := ha.mp c
          simp only [exB, he, Bool.true_and, okB, Bool.or_eq_true, Bool.and_eq_true, decide_eq_true_eq]
          omega
      · refine Or.inr ⟨0, ?_, ?_⟩
        · simp [n8 hi, tg_2 hZ, tg_3 hZ, tg_4 hZ, tg_5 hZ, tg_6 hZ, tg_7 hZ, tg_8 hZ, tg_24 hZ, tg_25 hZ, tg_26 hZ, tg_27 hZ, tg_28 hZ, tg_29 hZ, tg_30 hZ, tg_31 hZ, tg_32 hZ, tg_33 hZ, tg_34 hZ, tg_35 hZ, tg_36 hZ, tg_37 hZ, tg_38 hZ, tg_39 hZ, tg_40 hZ, tg_41 hZ, tg_42 hZ, tg_43 hZ, tg_44 hZ, tg_45 hZ, tg_46 hZ, tg_47 hZ, tg_48 hZ, tg_49 hZ, tg_50 hZ, fr_2_0 hF1, fr_3_0 hF1, fr_3_1 hF1, fr_3_2 hF1, fr_3_3 hF1, fr_3_4 hF1, fr_2_1 hF1, fr_24_0 hF1, fr_24_2 hF1, fr_2_2 hF1, fr_27_0 hF1, fr_27_1 hF1, fr_27_2 hF1, fr_27_8 hF1, fr_2_3 hF1, fr_32_0 hF1, fr_32_1 hF1, fr_32_3 hF1, fr_32_4 hF1, fr_32_5 hF1, fr_32_6 hF1, fr_2_4 hF1, fr_39_0 hF1, fr_39_1 hF1, fr_39_2 hF1, fr_39_3 hF1, fr_39_4 hF1, fr_39_5 hF1, fr_39_6 hF1, fr_2_5 hF1, fr_47_0 hF1, fr_47_1 hF1, fr_47_2 hF1, if_pos a35, if_pos a36, if_pos a37, if_pos a38, hix, r35, r36, r37, g1, g2, g3, c]
        · have c2 := mt ha.mpr c
          have hf : exB M f n (i + 1) = false := by
            simp only [exB, he, Bool.true_and, okB, g8, decide_false, Bool.false_or, Bool.and_eq_false_iff, decide_eq_false_iff_not]
            omega
          have := exB_f hf (7 - i)
          rw [show i + 1 + (7 - i) = 8 by omega] at this
          rw [this]
          rfl) (0 : Int32) ⟨0, by omega, rfl, rfl⟩
  rw [← q2]
  exact q1
