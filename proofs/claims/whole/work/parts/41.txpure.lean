/-! texts: frames, marks, bits -/
abbrev Fr : Type := Nat × Option Bool × Option Bool
abbrev CB : Type := Bool × Bool × Bool
abbrev Mk : Type := Nat × Int32
def od (k : Nat) : Bool := decide (k % 2 = 1)
theorem od_s (k : Nat) : od (k + 1) = !od k := by
  unfold od
  rcases Nat.mod_two_eq_zero_or_one k with h | h
  · rw [h, show (k + 1) % 2 = 1 by omega]; rfl
  · rw [h, show (k + 1) % 2 = 0 by omega]; rfl
def tlW (D : List Fr) (w : List Nat) : List Nat := match D with
  | [] => []
  | _ :: _ => 18 :: w
def w16 (a : Option Bool) : List Nat := match a with
  | none => []
  | some _ => [16]
def w17 (a : Option Bool) : List Nat := match a with
  | none => []
  | some _ => [17]
def wOf : List Fr → List Nat
  | [] => []
  | f :: D => List.replicate f.1 15 ++ (w16 f.2.1 ++ (w17 f.2.2 ++ tlW D (wOf D)))
def sOf : List Fr → List Bool
  | [] => []
  | f :: D => f.2.1.toList ++ (f.2.2.toList ++ sOf D)
def cOf : List Fr → List CB
  | [] => []
  | f :: D => (f.2.2.getD false, f.2.1.getD true, od f.1) :: cOf D
def aft (v : Bool) : List Fr → List CB
  | [] => []
  | f :: D => (f.2.2.getD false, f.2.1.getD true && (v != od f.1), false) :: cOf D
abbrev En : Type := Nat → Int32
def mcmp (e : En) (m : Mk) : Bool := if m.1 % 3 = 0 then decide (e (m.1 / 3) < m.2) else if m.1 % 3 = 1 then decide (e (m.1 / 3) = m.2) else decide (m.2 < e (m.1 / 3))
def apm (e : En) (m : Mk) (S : List Bool) : Option (List Bool) := if m.1 < 15 then some (mcmp e m :: S) else if m.1 = 15 then (match S with
    | b :: T => some ((!b) :: T)
    | [] => none) else match S with
    | b :: a :: T => some ((if m.1 = 16 then a && b else a || b) :: T)
    | _ => none
def rpn (e : En) : List Mk → Option (List Bool)
  | [] => some []
  | m :: R => (rpn e R).bind (apm e m)
def ld (y : Nat) : List Nat → List Mk → List Nat × List Mk
  | [], R => ([], R)
  | w :: W, R => if w ≤ y then ld y W ((w, 0) :: R) else (w :: W, R)
theorem ld_len (y : Nat) : ∀ W R, (ld y W R).1.length + (ld y W R).2.length = W.length + R.length := by
  intro W
  induction W with
  | nil => intro R; rfl
  | cons w W ih =>
    intro R
    rw [ld]
    split
    · rw [ih]; simp; omega
    · rfl
theorem ld_neg {y : Nat} (hy : 15 ≤ y) {e : En} (W : List Nat) : ∀ k R v S, rpn e R = some (v :: S) → ∃ R1, ld y (List.replicate k 15 ++ W) R = ld y W R1 ∧ rpn e R1 = some ((v != od k) :: S) := by
  intro k
  induction k with
  | zero => exact fun R v S h => ⟨R, rfl, by rw [h, show od 0 = false from rfl]; simp⟩
  | succ k ih =>
    intro R v S h
    obtain ⟨R1, h1, h2⟩ := ih ((15, 0) :: R) (!v) S (by rw [rpn, h]; rfl)
    refine ⟨R1, ?_, ?_⟩
    · rw [List.replicate_succ, List.cons_append, ld, if_pos hy, h1]
    · rw [h2, od_s]
      cases v <;> cases od k <;> rfl
theorem ld_and {y : Nat} (hy : 16 ≤ y) {e : En} (W : List Nat) (a : Option Bool) {R : List Mk} {v : Bool} {S : List Bool} (h : rpn e R = some (v :: (a.toList ++ S))) : ∃ R1, ld y (w16 a ++ W) R = ld y W R1 ∧ rpn e R1 = some ((a.getD true && v) :: S) := by
  cases a with
  | none => exact ⟨R, rfl, by simpa using h⟩
  | some b =>
    refine ⟨(16, 0) :: R, ?_, ?_⟩
    · show ld y (16 :: W) R = _
      rw [ld, if_pos hy]
    · rw [rpn, h]; rfl
theorem ld_or {y : Nat} (hy : 17 ≤ y) {e : En} (W : List Nat) (a : Option Bool) {R : List Mk} {v : Bool} {S : List Bool} (h : rpn e R = some (v :: (a.toList ++ S))) : ∃ R1, ld y (w17 a ++ W) R = ld y W R1 ∧ rpn e R1 = some ((a.getD false || v) :: S) := by
  cases a with
  | none => exact ⟨R, rfl, by simpa using h⟩
  | some b =>
    refine ⟨(17, 0) :: R, ?_, ?_⟩
    · show ld y (17 :: W) R = _
      rw [ld, if_pos hy]
    · rw [rpn, h]; rfl
theorem ld_tl {y : Nat} (hy : y < 18) (D : List Fr) (w : List Nat) (R : List Mk) : ld y (tlW D w) R = (tlW D w, R) := by
  cases D with
  | nil => rfl
  | cons f D =>
    show ld y (18 :: w) R = (18 :: w, R)
    rw [ld, if_neg (by omega)]
/-- what a whole frame says, its last factor being v -/
def res (v : Bool) (f : Fr) : Bool := f.2.2.getD false || (f.2.1.getD true && (v != od f.1))
theorem ld17 {e : En} {v : Bool} {f : Fr} {D : List Fr} {R : List Mk} (h : rpn e R = some (v :: sOf (f :: D))) : (ld 17 (wOf (f :: D)) R).1 = tlW D (wOf D) ∧ rpn e (ld 17 (wOf (f :: D)) R).2 = some (res v f :: sOf D) := by
  obtain ⟨R1, a1, a2⟩ := ld_neg (y := 17) (by omega) (w16 f.2.1 ++ (w17 f.2.2 ++ tlW D (wOf D))) f.1 R v _ h
  obtain ⟨R2, b1, b2⟩ := ld_and (y := 17) (by omega) (w17 f.2.2 ++ tlW D (wOf D)) f.2.1 a2
  obtain ⟨R3, c1, c2⟩ := ld_or (y := 17) (by omega) (tlW D (wOf D)) f.2.2 b2
  have hh : ld 17 (wOf (f :: D)) R = (tlW D (wOf D), R3) := by rw [wOf, a1, b1, c1, ld_tl (by omega)]
  rw [hh]
  exact ⟨rfl, c2⟩
theorem ld16 {e : En} {v : Bool} {f : Fr} {D : List Fr} {R : List Mk} (h : rpn e R = some (v :: sOf (f :: D))) : (ld 16 (wOf (f :: D)) R).1 = w17 f.2.2 ++ tlW D (wOf D) ∧ rpn e (ld 16 (wOf (f :: D)) R).2 = some ((f.2.1.getD true && (v != od f.1)) :: (f.2.2.toList ++ sOf D)) := by
  obtain ⟨R1, a1, a2⟩ := ld_neg (y := 16) (by omega) (w16 f.2.1 ++ (w17 f.2.2 ++ tlW D (wOf D))) f.1 R v _ h
  obtain ⟨R2, b1, b2⟩ := ld_and (y := 16) (by omega) (w17 f.2.2 ++ tlW D (wOf D)) f.2.1 a2
  have hs : ld 16 (w17 f.2.2 ++ tlW D (wOf D)) R2 = (w17 f.2.2 ++ tlW D (wOf D), R2) := by
    cases f.2.2 with
    | none => exact ld_tl (by omega) D _ _
    | some b =>
      show ld 16 (17 :: tlW D (wOf D)) R2 = _
      rw [ld, if_neg (by omega)]
      rfl
  have hh : ld 16 (wOf (f :: D)) R = (w17 f.2.2 ++ tlW D (wOf D), R2) := by rw [wOf, a1, b1, hs]
  rw [hh]
  exact ⟨rfl, b2⟩
/-! bits as numbers -/
def b1 (b : Bool) : Nat := if b = true then 1 else 0
def bn : List Bool → Nat
  | [] => 0
  | b :: L => b1 b + 2 * bn L
theorem b1_lt (b : Bool) : b1 b < 2 := by cases b <;> decide
theorem bn_lt : ∀ L : List Bool, bn L < 2 ^ L.length := by
  intro L
  induction L with
  | nil => decide
  | cons b L ih =>
    have := b1_lt b
    rw [bn, List.length_cons, Nat.pow_succ]
    omega
theorem wb_inj {a b : Int64} (h : a.toBitVec = b.toBitVec) : a = b := Int64.toBitVec_inj.mp h
theorem wb_tb (n : Nat) : (lN n).toBitVec = BitVec.ofNat 64 n := rfl
theorem wl_and (a b : Nat) : lN a &&& lN b = lN (a &&& b) := wb_inj (by rw [Int64.toBitVec_and, wb_tb, wb_tb, wb_tb, BitVec.ofNat_and])
theorem wl_or (a b : Nat) : lN a ||| lN b = lN (a ||| b) := wb_inj (by rw [Int64.toBitVec_or, wb_tb, wb_tb, wb_tb, BitVec.ofNat_or])
theorem wl_xor (a b : Nat) : lN a ^^^ lN b = lN (a ^^^ b) := wb_inj (by rw [Int64.toBitVec_xor, wb_tb, wb_tb, wb_tb, BitVec.ofNat_xor])
theorem n_or1 (b c : Bool) (r : Nat) : (b1 b + 2 * r) ||| b1 c = b1 (b || c) + 2 * r := by
  have h1 := Nat.or_div_two (a := b1 b + 2 * r) (b := b1 c)
  have h2 := Nat.or_mod_two_eq_one (a := b1 b + 2 * r) (b := b1 c)
  have hb := b1_lt b
  have hc := b1_lt c
  rw [show (b1 b + 2 * r) / 2 = r by omega, show b1 c / 2 = 0 by omega, Nat.or_zero] at h1
  rw [show (b1 b + 2 * r) % 2 = b1 b by omega, show b1 c % 2 = b1 c by omega] at h2
  have h3 : b1 (b || c) = 1 ↔ b1 b = 1 ∨ b1 c = 1 := by cases b <;> cases c <;> decide
  have h4 := b1_lt (b || c)
  omega
theorem n_or (b c : Bool) (r s : Nat) : ((b1 b + 2 * r) ||| (b1 c + 2 * s)) % 2 = b1 (b || c) := by
  have h2 := Nat.or_mod_two_eq_one (a := b1 b + 2 * r) (b := b1 c + 2 * s)
  have hb := b1_lt b
  have hc := b1_lt c
  rw [show (b1 b + 2 * r) % 2 = b1 b by omega, show (b1 c + 2 * s) % 2 = b1 c by omega] at h2
  have h3 : b1 (b || c) = 1 ↔ b1 b = 1 ∨ b1 c = 1 := by cases b <;> cases c <;> decide
  have h4 := b1_lt (b || c)
  omega
theorem n_xor (b : Bool) (r : Nat) : (b1 b + 2 * r) ^^^ 1 = b1 (!b) + 2 * r := by
  have h1 := Nat.xor_div_two (a := b1 b + 2 * r) (b := 1)
  have h2 := Nat.xor_mod_two_eq_one (a := b1 b + 2 * r) (b := 1)
  have hb := b1_lt b
  rw [show (b1 b + 2 * r) / 2 = r by omega, show 1 / 2 = 0 by omega, Nat.xor_zero] at h1
  rw [show (b1 b + 2 * r) % 2 = b1 b by omega] at h2
  have h3 : b1 (!b) = 1 ↔ ¬ b1 b = 1 := by cases b <;> decide
  have h4 := b1_lt (!b)
  omega
theorem wl_x1 (b : Bool) (r : Nat) : lN (b1 b + 2 * r) ^^^ 1 = lN (b1 (!b) + 2 * r) := by
  rw [show (1 : Int64) = lN 1 by decide, wl_xor, n_xor]
theorem wl_o1 (b : Bool) (r : Nat) : lN (b1 b + 2 * r) ||| 1 = lN (b1 true + 2 * r) := by
  rw [show (1 : Int64) = lN (b1 true) by decide, wl_or, n_or1, Bool.or_true]
theorem wl_oa (b c : Bool) (r : Nat) : lN (b1 b + 2 * r) ||| lN (b1 c) = lN (b1 (b || c) + 2 * r) := by
  rw [wl_or, n_or1]
theorem wl_a1 (b : Bool) (r : Nat) : lN (b1 b + 2 * r) &&& 1 = lN (b1 b) := by
  rw [show (1 : Int64) = lN 1 by decide, wl_and, Nat.and_one_is_mod]
  have := b1_lt b
  rw [show (b1 b + 2 * r) % 2 = b1 b by omega]
theorem wl_oa1 (b c : Bool) (r s : Nat) : (lN (b1 b + 2 * r) ||| lN (b1 c + 2 * s)) &&& 1 = lN (b1 (b || c)) := by
  rw [wl_or, show (1 : Int64) = lN 1 by decide, wl_and, Nat.and_one_is_mod, n_or]
theorem wl_m2 (b : Bool) {r : Nat} (hr : b1 b + 2 * r < 2 ^ 64) : lN (b1 b + 2 * r) &&& (-2) = lN (b1 false + 2 * r) := by
  have hb := b1_lt b
  apply wb_inj
  rw [Int64.toBitVec_and, wb_tb, wb_tb, show (-2 : Int64).toBitVec = ~~~ (1#64) by decide]
  apply BitVec.eq_of_getLsbD_eq
  intro i hi
  simp only [BitVec.getLsbD_and, BitVec.getLsbD_not, BitVec.getLsbD_ofNat]
  cases i with
  | zero =>
    have : (b1 false + 2 * r).testBit 0 = false := by
      rw [Nat.testBit_zero]
      simp [b1]
    simp [this]
  | succ i =>
    simp only [Nat.testBit_add_one]
    rw [show (b1 b + 2 * r) / 2 = r by omega, show (b1 false + 2 * r) / 2 = r by simp [b1], show 1 / 2 = 0 from rfl]
    simp [hi]
theorem wl_s (r : Nat) (h : r < 2 ^ 63) : lN r <<< ((1 : Int32).toInt64 &&& 63) = lN (b1 false + 2 * r) := by
  apply wb_inj
  rw [show ((1 : Int32).toInt64 &&& 63) = (1 : Int64) by decide, Int64.toBitVec_shiftLeft, wb_tb, wb_tb, show ((1 : Int64).toBitVec.smod 64) = 1#64 by decide]
  apply BitVec.eq_of_toNat_eq
  rw [BitVec.shiftLeft_eq', BitVec.toNat_shiftLeft, BitVec.toNat_ofNat, BitVec.toNat_ofNat, BitVec.toNat_ofNat, show (1 % 2 ^ 64 : Nat) = 1 from rfl, Nat.shiftLeft_eq, show b1 false = 0 from rfl]
  omega
theorem wl_sr (b : Bool) {r : Nat} (hr : b1 b + 2 * r < 2 ^ 64) : ((lN (b1 b + 2 * r)).toUInt64 >>> ((1 : Int32).toInt64.toUInt64 &&& Int64.toUInt64 63)).toInt64 = lN r := by
  have hb := b1_lt b
  rw [show ((1 : Int32).toInt64.toUInt64 &&& Int64.toUInt64 63) = (1 : UInt64) by decide]
  apply wb_inj
  apply BitVec.eq_of_toNat_eq
  show ((lN (b1 b + 2 * r)).toUInt64 >>> (1 : UInt64)).toNat = (BitVec.ofNat 64 r).toNat
  have h2 : (lN (b1 b + 2 * r)).toUInt64.toNat = b1 b + 2 * r := by
    show (BitVec.ofNat 64 _).toNat = _
    rw [BitVec.toNat_ofNat, Nat.mod_eq_of_lt hr]
  rw [UInt64.toNat_shiftRight, h2, show (1 : UInt64).toNat = 1 by decide, show (1 % 64 : Nat) = 1 from rfl, Nat.shiftRight_eq_div_pow, BitVec.toNat_ofNat, Nat.pow_one]
  omega
theorem lN_b (b : Bool) : lg_cmp (lN (b1 b)) 0 = 0 ↔ b = false := by
  rw [lc_eq]
  cases b <;> decide
/-- the three piles of bits -/
def wd (w : Int64 × Int64 × Int64) (C : List CB) : Prop := C.length ≤ 62 ∧ w.1 = lN (bn (C.map (fun c => c.1))) ∧ w.2.1 = lN (bn (C.map (fun c => c.2.1))) ∧ w.2.2 = lN (bn (C.map (fun c => c.2.2)))
theorem bn_map {C : List CB} (f : CB → Bool) (h : C.length ≤ 62) : bn (C.map f) < 2 ^ 62 := by
  have h1 := bn_lt (C.map f)
  rw [List.length_map] at h1
  exact Nat.lt_of_lt_of_le h1 (Nat.pow_le_pow_right (by decide) h)
