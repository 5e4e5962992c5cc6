/-! texts: letters -/
theorem dig_m (c : Int32) : fX12_isDigit c = fX2_isDigit c := by
  have h : fX12_isDigit c = fX11_within c 48 57 := in_w (by decide) (by decide)
  rw [h]
  rfl
theorem dig_ne {c : Int32} (h : ¬ fX2_isDigit c = 0) : ¬ c = 33 ∧ ¬ c = 40 ∧ ¬ c = 41 ∧ ¬ c = 124 ∧ ¬ c = 38 ∧ ¬ c = 63 ∧ fX8_isSign c = 0 := by
  refine ⟨fun e => h (by rw [e]; decide), fun e => h (by rw [e]; decide), fun e => h (by rw [e]; decide), fun e => h (by rw [e]; decide), fun e => h (by rw [e]; decide), fun e => h (by rw [e]; decide), ?_⟩
  unfold fX8_isSign
  rw [if_neg (fun e => h (by rw [e]; decide)), if_neg (fun e => h (by rw [e]; decide)), if_neg (fun e => h (by rw [e]; decide))]
theorem name_no {c : Int32} (h : fX2_isName c = 0) : fX12_letterOf c = -1 := by
  have k1 : ¬ (1 : Int32) = 0 := by decide
  unfold fX2_isName at h
  unfold fX12_letterOf
  by_cases c1 : c = 108
  · rw [if_pos c1] at h; exact absurd h k1
  by_cases c2 : c = 109
  · rw [if_neg c1, if_pos c2] at h; exact absurd h k1
  by_cases c3 : c = 103
  · rw [if_neg c1, if_neg c2, if_pos c3] at h; exact absurd h k1
  by_cases c4 : c = 99
  · rw [if_neg c1, if_neg c2, if_neg c3, if_pos c4] at h; exact absurd h k1
  by_cases c5 : c = 100
  · rw [if_neg c1, if_neg c2, if_neg c3, if_neg c4, if_pos c5] at h; exact absurd h k1
  rw [if_neg c1, if_neg c2, if_neg c3, if_neg c4, if_neg c5]
theorem name_yes {c : Int32} (h : ¬ fX2_isName c = 0) : ∃ L : Nat, L < 5 ∧ fX12_letterOf c = nI L ∧ (∀ e : En, lval e c = e L) ∧ ¬ c = 33 ∧ ¬ c = 40 ∧ ¬ c = 41 ∧ ¬ c = 124 ∧ fX8_isSign c = 0 := by
  by_cases c1 : c = 108
  · subst c1; exact ⟨0, by decide, by decide, fun e => rfl, by decide⟩
  by_cases c2 : c = 109
  · subst c2; exact ⟨1, by decide, by decide, fun e => rfl, by decide⟩
  by_cases c3 : c = 103
  · subst c3; exact ⟨2, by decide, by decide, fun e => rfl, by decide⟩
  by_cases c4 : c = 99
  · subst c4; exact ⟨3, by decide, by decide, fun e => rfl, by decide⟩
  by_cases c5 : c = 100
  · subst c5; exact ⟨4, by decide, by decide, fun e => rfl, by decide⟩
  exfalso
  apply h
  unfold fX2_isName
  rw [if_neg c1, if_neg c2, if_neg c3, if_neg c4, if_neg c5]
theorem sign_yes {c : Int32} (h : ¬ fX8_isSign c = 0) : ∃ s : Nat, s < 3 ∧ (if c = 60 then some (0 : Int32) else if c = 61 then some 1 else some 2) = some (nI s) ∧ (∀ (e : En) (L : Nat) (t : Int32), mcmp e (3 * L + s, t) = ccmp (e L) t c) ∧ (c = 60 ∨ c = 61 ∨ c = 62) := by
  by_cases c1 : c = 60
  · subst c1
    refine ⟨0, by decide, by decide, fun e L t => ?_, Or.inl rfl⟩
    unfold mcmp ccmp
    rw [if_pos (show (3 * L + 0) % 3 = 0 by omega), if_pos rfl, show (3 * L + 0) / 3 = L by omega]
  by_cases c2 : c = 61
  · subst c2
    refine ⟨1, by decide, by decide, fun e L t => ?_, Or.inr (Or.inl rfl)⟩
    unfold mcmp ccmp
    rw [if_neg (show ¬ (3 * L + 1) % 3 = 0 by omega), if_pos (show (3 * L + 1) % 3 = 1 by omega), if_neg c1, if_pos rfl, show (3 * L + 1) / 3 = L by omega]
  by_cases c3 : c = 62
  · subst c3
    refine ⟨2, by decide, by decide, fun e L t => ?_, Or.inr (Or.inr rfl)⟩
    unfold mcmp ccmp
    rw [if_neg (show ¬ (3 * L + 2) % 3 = 0 by omega), if_neg (show ¬ (3 * L + 2) % 3 = 1 by omega), if_neg c1, if_neg c2, show (3 * L + 2) / 3 = L by omega]
  exfalso
  apply h
  unfold fX8_isSign
  rw [if_neg c1, if_neg c2, if_neg c3]
theorem cw_s {g : Nat → Int32} {n : Nat} {e : En} {q i : Nat} (h : q ≤ i) : cw g n e q (i + 1 - q) = cst g n e i (cw g n e q (i - q)) := by
  rw [show i + 1 - q = (i - q) + 1 by omega, cw, show q + (i - q) = i by omega]
theorem cst_0 {g : Nat → Int32} {n : Nat} {e : En} {i : Nat} (h1 : ¬ g i = 33) (h2 : ¬ g i = 40) (h3 : ¬ g i = 41) (h4 : ¬ g i = 124) (h5 : fX8_isSign (g i) = 0) (w : Int64 × Int64 × Int64) : cst g n e i w = w := by
  unfold cst
  rw [if_neg h1, if_neg h2, if_neg h3, if_neg h4, if_pos h5]
/-! the invariant -/
def K4 (g : Nat → Int32) (n q i : Nat) (W : List Nat) (R : List Mk) (dep : Nat) : Prop := ∀ e, ∃ D, rpn e R = some (sOf D) ∧ W = wOf D ∧ wd (cw g n e q (i - q)) (cOf D) ∧ D.length = dep + 1
def K6 (g : Nat → Int32) (n q i s : Nat) (W : List Nat) (R : List Mk) (dep : Nat) : Prop := ∀ e, ∃ D, rpn e R = some (sOf D) ∧ W = wOf D ∧ wd (cw g n e q (i - q)) (aft (cmpB g n e s) D) ∧ D.length = dep + 1
def K8 (g : Nat → Int32) (n q i : Nat) (W : List Nat) (R : List Mk) (dep : Nat) : Prop := ∀ e, ∃ D v, rpn e R = some (v :: sOf D) ∧ W = wOf D ∧ wd (cw g n e q (i - q)) (aft v D) ∧ D.length = dep + 1
def hdA (g : Nat → Int32) (M : Mem) : Prop := rI M 51 46 = (if g 0 = 67 then 1 else 0)
def hdN (g : Nat → Int32) (d : Nat) (M : Mem) : Prop := rI M 51 47 = nv g 2 d ∧ (∀ k, k < d → ¬ fX2_isDigit (g (2 + k)) = 0) ∧ 1 ≤ d ∧ d ≤ 4
/-- in the condition, which begins at d + 3 -/
def CI (Z : Shp) (M0 : Mem) (g : Nat → Int32) (n i : Nat) (M : Mem) (x : Int32) : Prop := ∃ d dep W R, hdA g M ∧ hdN g d M ∧ g (2 + d) = 63 ∧ Sc Z M0 M W R ∧ rI M 51 44 = nI dep ∧ dep + (d + 3) ≤ i ∧
  ((rI M 51 43 = 4 ∧ x = nI (7 + 16 * dep) ∧ W.length + R.length + (d + 3) ≤ i ∧ K4 g n (d + 3) i W R dep) ∨
   (rI M 51 43 = 5 ∧ x = nI (8 + 16 * dep) ∧ W.length + R.length + (d + 3) + 1 ≤ i ∧ K4 g n (d + 3) i W R dep ∧ ∃ L, L < 5 ∧ rI M 51 49 = nI L ∧ ∀ e : En, lval e (g (i - 1)) = e L) ∨
   (∃ s c L sg, i = s + 1 + c ∧ W.length + R.length + (d + 3) + 1 ≤ s ∧ ((c = 0 ∧ rI M 51 43 = 6 ∧ x = nI (9 + 16 * dep)) ∨ (1 ≤ c ∧ c ≤ 3 ∧ rI M 51 43 = 7 ∧ x = nI (9 + c + 16 * dep) ∧ rI M 51 45 = nI c ∧ rI M 51 48 = nv g (s + 1) c)) ∧ (∀ k, k < c → ¬ fX2_isDigit (g (s + 1 + k)) = 0) ∧ K6 g n (d + 3) i s W R dep ∧ L < 5 ∧ sg < 3 ∧ rI M 51 49 = nI L ∧ rI M 51 50 = nI sg ∧ (∀ e : En, lval e (g (s - 1)) = e L) ∧ ∀ (e : En) (t : Int32), mcmp e (3 * L + sg, t) = ccmp (e L) t (g s)) ∨
   (rI M 51 43 = 8 ∧ x = nI (13 + 16 * dep) ∧ W.length + R.length + (d + 3) ≤ i ∧ K8 g n (d + 3) i W R dep))
def SI (Z : Shp) (M0 : Mem) (g : Nat → Int32) (n i : Nat) (M : Mem) (x : Int32) : Prop :=
  (i = 0 ∧ rI M 51 43 = 0 ∧ x = 0 ∧ rI M 51 44 = 0 ∧ Sc Z M0 M [] []) ∨
  (i = 1 ∧ rI M 51 43 = 1 ∧ x = 1 ∧ rI M 51 44 = 0 ∧ Sc Z M0 M [] [] ∧ hdA g M) ∨
  (i = 2 ∧ rI M 51 43 = 2 ∧ x = 2 ∧ rI M 51 44 = 0 ∧ Sc Z M0 M [] [] ∧ hdA g M) ∨
  (∃ d, i = 2 + d ∧ rI M 51 43 = 3 ∧ x = nI (2 + d) ∧ rI M 51 45 = nI d ∧ rI M 51 44 = 0 ∧ Sc Z M0 M [] [] ∧ hdA g M ∧ hdN g d M) ∨
  CI Z M0 g n i M x
def TStp (Z : Shp) (M0 : Mem) (g : Nat → Int32) (n i : Nat) (M : Mem) (x : Int32) : Prop := ∃ r M1 x1, fX12_go Z M 51 (g i) = some (r, M1) ∧ fX2_step x (g i) = some x1 ∧ Wr Z FScan [] [] M0 M1 ∧ ((r = 0 ∧ x1 = -1) ∨ (r = 1 ∧ ¬ x1 = -1 ∧ SI Z M0 g n (i + 1) M1 x1))
theorem si0 {Z : Shp} {M0 M : Mem} {g : Nat → Int32} {n : Nat} (hZ : OKZ Z) (h43 : rI M 51 43 = 0) (h44 : rI M 51 44 = 0) (hS : Sc Z M0 M [] []) : TStp Z M0 g n 0 M 0 := by
  by_cases c1 : g 0 = 84
  · refine ⟨1, wI (wI M 51 46 0) 51 43 1, 1, ?_, ?_, ((hS.st 0 (by simp) (by omega) (by omega)).st (k := 43) 1 (by simp) (by omega) (by omega)).1, Or.inr ⟨rfl, by decide, Or.inr (Or.inl ⟨rfl, by simp [rI_wI], rfl, by simp [rI_wI, h44], (hS.st 0 (by simp) (by omega) (by omega)).st (k := 43) 1 (by simp) (by omega) (by omega), ?_⟩)⟩⟩
    · simp [fX12_go, tg_51 hZ, h43, c1, pu, rI_wI]
    · simp [fX2_step, pu, c1]
    · simp [hdA, rI_wI, c1]
  by_cases c2 : g 0 = 67
  · refine ⟨1, wI (wI M 51 46 1) 51 43 1, 1, ?_, ?_, ((hS.st 1 (by simp) (by omega) (by omega)).st (k := 43) 1 (by simp) (by omega) (by omega)).1, Or.inr ⟨rfl, by decide, Or.inr (Or.inl ⟨rfl, by simp [rI_wI], rfl, by simp [rI_wI, h44], (hS.st 1 (by simp) (by omega) (by omega)).st (k := 43) 1 (by simp) (by omega) (by omega), ?_⟩)⟩⟩
    · simp [fX12_go, tg_51 hZ, h43, c2, pu, rI_wI]
    · simp [fX2_step, pu, c2]
    · simp [hdA, rI_wI, c2]
  · refine ⟨0, wI (wI M 51 46 (-1)) 51 43 1, -1, ?_, ?_, ((hS.st (-1) (by simp) (by omega) (by omega)).st (k := 43) 1 (by simp) (by omega) (by omega)).1, Or.inl ⟨rfl, rfl⟩⟩
    · simp [fX12_go, tg_51 hZ, h43, c1, c2, pu, rI_wI]
    · simp [fX2_step, pu, c1, c2]
theorem si1 {Z : Shp} {M0 M : Mem} {g : Nat → Int32} {n : Nat} (hZ : OKZ Z) (h43 : rI M 51 43 = 1) (h44 : rI M 51 44 = 0) (hS : Sc Z M0 M [] []) (hA : hdA g M) : TStp Z M0 g n 1 M 1 := by
  have z1 : (1 : Int32) - 1 / 16 * 16 = 1 := by decide
  have k1 : ¬ (1 : Int32) = 0 := by decide
  have hS2 := hS.st (k := 43) 2 (by simp) (by omega) (by omega)
  by_cases c1 : g 1 = 58
  · refine ⟨1, wI M 51 43 2, 2, ?_, ?_, hS2.1, Or.inr ⟨rfl, by decide, Or.inr (Or.inr (Or.inl ⟨rfl, by simp [rI_wI], rfl, by simp [rI_wI, h44], hS2, ?_⟩))⟩⟩
    · simp [fX12_go, tg_51 hZ, h43, c1, pu]
    · simp [fX2_step, pu, c1, z1]
    · simpa [hdA, rI_wI] using hA
  · refine ⟨0, wI M 51 43 2, -1, ?_, ?_, hS2.1, Or.inl ⟨rfl, rfl⟩⟩
    · simp [fX12_go, tg_51 hZ, h43, c1, pu]
    · simp [fX2_step, pu, c1, z1]
theorem si2 {Z : Shp} {M0 M : Mem} {g : Nat → Int32} {n : Nat} (hZ : OKZ Z) (h43 : rI M 51 43 = 2) (h44 : rI M 51 44 = 0) (hS : Sc Z M0 M [] []) (hA : hdA g M) : TStp Z M0 g n 2 M 2 := by
  have z1 : (2 : Int32) - 2 / 16 * 16 = 2 := by decide
  have hS2 := ((hS.st (k := 47) (g 2 - 48) (by simp) (by omega) (by omega)).st (k := 45) 1 (by simp) (by omega) (by omega)).st (k := 43) 3 (by simp) (by omega) (by omega)
  have hgo : fX12_go Z M 51 (g 2) = some (fX2_isDigit (g 2), wI (wI (wI M 51 47 (g 2 - 48)) 51 45 1) 51 43 3) := by
    simp [fX12_go, tg_51 hZ, h43, pu, dig_m]
  by_cases c1 : fX2_isDigit (g 2) = 0
  · refine ⟨0, _, -1, by rw [hgo, c1], ?_, hS2.1, Or.inl ⟨rfl, rfl⟩⟩
    simp [fX2_step, fX2_stepInNumber, js, pu, c1, z1]
  · have c2 : fX2_isDigit (g 2) = 1 := by
      unfold fX2_isDigit at c1 ⊢
      by_cases q1 : g 2 < 48
      · rw [if_pos q1] at c1; exact absurd rfl c1
      by_cases q2 : 57 < g 2
      · rw [if_neg q1, if_pos q2] at c1; exact absurd rfl c1
      rw [if_neg q1, if_neg q2]
    refine ⟨1, _, 3, by rw [hgo, c2], ?_, hS2.1, Or.inr ⟨rfl, by decide, Or.inr (Or.inr (Or.inr (Or.inl ⟨1, rfl, by simp [rI_wI], rfl, by simp [rI_wI]; rfl, by simp [rI_wI, h44], hS2, ?_, ?_⟩)))⟩⟩
    · simp [fX2_step, fX2_stepInNumber, js, pu, c2, z1]
    · simpa [hdA, rI_wI] using hA
    · refine ⟨by simp [rI_wI, nv], fun k hk => ?_, by omega, by omega⟩
      rw [show k = 0 by omega]
      exact c1
theorem zmod {r d : Nat} (hr : r < 16) (hd : d < 1000) : nI (r + 16 * d) - nI (r + 16 * d) / 16 * 16 = nI r := by
  have h := pk_rem (a := r + 16 * d) (d := 16) (by omega) (by omega) (by omega)
  rw [show nI 16 = 16 by decide] at h
  rw [h, show (r + 16 * d) % 16 = r by omega]
theorem sc_s (g : Nat → Int32) (i d : Nat) : 10 * nv g i d + g (i + d) - 48 = nv g i (d + 1) := rfl
theorem si3 {Z : Shp} {M0 M : Mem} {g : Nat → Int32} {n d : Nat} (hZ : OKZ Z) (h43 : rI M 51 43 = 3) (h45 : rI M 51 45 = nI d) (h44 : rI M 51 44 = 0) (hS : Sc Z M0 M [] []) (hA : hdA g M) (hN : hdN g d M) : TStp Z M0 g n (2 + d) M (nI (2 + d)) := by
  obtain ⟨n1, n2, n3, n4⟩ := hN
  have hd : d = 1 ∨ d = 2 ∨ d = 3 ∨ d = 4 := by omega
  have z1 : nI (2 + d) - nI (2 + d) / 16 * 16 = nI (2 + d) := by
    have h := pk_rem (a := 2 + d) (d := 16) (by omega) (by omega) (by omega)
    rw [show nI 16 = 16 by decide] at h
    rw [h, Nat.mod_eq_of_lt (by omega)]
  have s0 : ¬ nI (2 + d) = 0 := nI_ne0 (by omega) (by omega)
  have s1 : ¬ nI (2 + d) = 1 := fun h => by
    have := (nI_eq (a := 2 + d) (b := 1) (by omega) (by omega)).mp h
    omega
  have s6 : ¬ 6 < nI (2 + d) := nI_nlt (a := 6) (b := 2 + d) (by omega) (by omega)
  have s6 : ¬ (6 : Int32) < nI (2 + d) := by
    rw [i32_lt, nI_toInt (by omega), show (6 : Int32).toInt = 6 by decide]
    omega
  have s2 : ¬ nI (2 + d) ≤ 2 := by
    rw [i32_le, nI_toInt (by omega), show (2 : Int32).toInt = 2 by decide]
    omega
  have hle4 : (4 : Int32) ≤ nI d ↔ 4 ≤ d := by
    rw [i32_le, nI_toInt (by omega), show (4 : Int32).toInt = 4 by decide]
    omega
  have hle6 : (6 : Int32) ≤ nI (2 + d) ↔ 6 ≤ 2 + d := by
    rw [i32_le, nI_toInt (by omega), show (6 : Int32).toInt = 6 by decide]
    omega
  have hS4 := hS.st (k := 43) 4 (by simp) (by omega) (by omega)
  have hq : ∀ c : Int32, c = g (2 + d) → (fX2_isDigit c = 0 ∨ d = 4) → TStp Z M0 g n (2 + d) M (nI (2 + d)) := by
    intro c hc hno
    subst hc
    have hst : fX2_step (nI (2 + d)) (g (2 + d)) = some (if g (2 + d) = 63 then 7 else -1) := by
      rcases hno with h | h
      · by_cases q : g (2 + d) = 63
        · simp [fX2_step, fX2_stepInNumber, js, pu, z1, s0, s1, s6, s2, h, q, show fX2_isDigit 63 = 0 by decide]
        · simp [fX2_step, fX2_stepInNumber, js, pu, z1, s0, s1, s6, s2, h, q, show fX2_isDigit 63 = 0 by decide]
      · subst h
        by_cases q : g 6 = 63
        · simp [fX2_step, fX2_stepInNumber, js, pu, z1, s0, s1, s6, s2, q, show (6 : Int32) ≤ nI 6 by decide, show ¬ nI 6 ≤ 2 by decide, show ¬ (6 : Int32) < nI 6 by decide, show nI 6 - nI 6 / 16 * 16 = nI 6 by decide, show ¬ nI 6 = 0 by decide, show ¬ nI 6 = 1 by decide]
        · simp [fX2_step, fX2_stepInNumber, js, pu, z1, s0, s1, s6, s2, q, show (6 : Int32) ≤ nI 6 by decide, show ¬ nI 6 ≤ 2 by decide, show ¬ (6 : Int32) < nI 6 by decide, show nI 6 - nI 6 / 16 * 16 = nI 6 by decide, show ¬ nI 6 = 0 by decide, show ¬ nI 6 = 1 by decide]
    have hgo : fX12_go Z M 51 (g (2 + d)) = some ((if g (2 + d) = 63 then 1 else 0), wI M 51 43 4) := by
      rcases hno with h | h
      · by_cases q : g (2 + d) = 63
        · simp [fX12_go, tg_51 hZ, h43, dig_m, h, js, pu, q, show fX2_isDigit 63 = 0 by decide]
        · simp [fX12_go, tg_51 hZ, h43, dig_m, h, js, pu, q, show fX2_isDigit 63 = 0 by decide]
      · have h4 := hle4.mpr (by omega)
        by_cases q1 : fX2_isDigit (g (2 + d)) = 0
        · by_cases q : g (2 + d) = 63
          · simp [fX12_go, tg_51 hZ, h43, dig_m, q1, js, pu, q, show fX2_isDigit 63 = 0 by decide]
          · simp [fX12_go, tg_51 hZ, h43, dig_m, q1, js, pu, q, show fX2_isDigit 63 = 0 by decide]
        · by_cases q : g (2 + d) = 63
          · simp [fX12_go, tg_51 hZ, h43, dig_m, q1, h45, h4, js, pu, q]
          · simp [fX12_go, tg_51 hZ, h43, dig_m, q1, h45, h4, js, pu, q]
    by_cases q : g (2 + d) = 63
    · rw [if_pos q] at hst hgo
      refine ⟨1, _, 7, hgo, hst, hS4.1, Or.inr ⟨rfl, by decide, Or.inr (Or.inr (Or.inr (Or.inr ⟨d, 0, [], [], ?_, ⟨?_, n2, n3, n4⟩, q, hS4, by simp [rI_wI, h44]; rfl, by omega, Or.inl ⟨by simp [rI_wI], rfl, by simp; omega, ?_⟩⟩)))⟩⟩
      · simpa [hdA, rI_wI] using hA
      · simpa [rI_wI] using n1
      · intro e
        refine ⟨[(0, none, none)], rfl, rfl, ?_, rfl⟩
        rw [show 2 + d + 1 - (d + 3) = 0 by omega]
        exact ⟨by decide, (show (0 : Int64) = lN (bn [false]) by decide), (show (1 : Int64) = lN (bn [true]) by decide), (show (0 : Int64) = lN (bn [false]) by decide)⟩
    · rw [if_neg q] at hst hgo
      exact ⟨0, _, -1, hgo, hst, hS4.1, Or.inl ⟨rfl, rfl⟩⟩
  by_cases c1 : fX2_isDigit (g (2 + d)) = 0
  · exact hq _ rfl (Or.inl c1)
  by_cases c2 : d = 4
  · exact hq _ rfl (Or.inr c2)
  have hS5 := (hS.st (k := 47) (nv g 2 (d + 1)) (by simp) (by omega) (by omega)).st (k := 45) (nI d + 1) (by simp) (by omega) (by omega)
  have h4 := mt hle4.mp (show ¬ 4 ≤ d by omega)
  have h6 := mt hle6.mp (show ¬ 6 ≤ 2 + d by omega)
  refine ⟨1, _, nI (2 + d) + 1, ?_, ?_, hS5.1, Or.inr ⟨rfl, by rw [nI_1]; exact nm1 (by omega), Or.inr (Or.inr (Or.inr (Or.inl ⟨d + 1, rfl, by simp [rI_wI, h43], by rw [nI_1]; rfl, by simp [rI_wI, nI_succ], by simp [rI_wI, h44], hS5, ?_, ?_⟩)))⟩⟩
  · simp [fX12_go, tg_51 hZ, h43, dig_m, c1, h45, h4, js, pu, n1, sc_s, rI_wI]
  · simp [fX2_step, fX2_stepInNumber, js, pu, z1, s0, s1, s6, s2, c1, h6]
  · simpa [hdA, rI_wI] using hA
  · refine ⟨by simp [rI_wI], fun k hk => ?_, by omega, by omega⟩
    by_cases e : k = d
    · subst e; exact c1
    · exact n2 k (by omega)
