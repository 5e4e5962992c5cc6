/-! texts: the model's marks and waits in memory -/
abbrev FScan : List (Nat × Option Nat) := [(51, some 43), (51, some 44), (51, some 45), (51, some 46), (51, some 47), (51, some 48), (51, some 49), (51, some 50), (51, some 53), (51, some 55), (86, none), (87, none), (88, none)]
def WS (M : Mem) : List Nat → Prop
  | [] => True
  | w :: W => rI M 88 W.length = nI w ∧ w < 100 ∧ WS M W
def RS (M : Mem) : List Mk → Prop
  | [] => True
  | m :: R => rI M 86 R.length = nI m.1 ∧ rI M 87 R.length = m.2 ∧ m.1 < 100 ∧ RS M R
theorem WS_eq {M M1 : Mem} : ∀ W, (∀ k, k < W.length → rI M1 88 k = rI M 88 k) → WS M W → WS M1 W := by
  intro W
  induction W with
  | nil => exact fun _ _ => trivial
  | cons w W ih =>
    intro h h1
    exact ⟨by rw [h _ (by simp)]; exact h1.1, h1.2.1, ih (fun k hk => h k (by simp; omega)) h1.2.2⟩
theorem RS_eq {M M1 : Mem} : ∀ R, (∀ k, k < R.length → rI M1 86 k = rI M 86 k ∧ rI M1 87 k = rI M 87 k) → RS M R → RS M1 R := by
  intro R
  induction R with
  | nil => exact fun _ _ => trivial
  | cons m R ih =>
    intro h h1
    have h2 := h R.length (by simp)
    exact ⟨by rw [h2.1]; exact h1.1, by rw [h2.2]; exact h1.2.1, h1.2.2.1, ih (fun k hk => h k (by simp; omega)) h1.2.2.2⟩
def Sc (Z : Shp) (M0 M : Mem) (W : List Nat) (R : List Mk) : Prop := Wr Z FScan [] [] M0 M ∧ rI M 51 53 = nI R.length ∧ rI M 51 55 = nI W.length ∧ WS M W ∧ RS M R
/-- a scalar of the reading is set -/
theorem Sc.st {Z : Shp} {M0 M : Mem} {W : List Nat} {R : List Mk} (h : Sc Z M0 M W R) {k : Nat} (v : Int32) (hk : (51, some k) ∈ FScan) (h1 : k ≠ 53) (h2 : k ≠ 55) : Sc Z M0 (wI M 51 k v) W R := by
  obtain ⟨a1, a2, a3, a4, a5⟩ := h
  refine ⟨a1.sI (Or.inr hk), ?_, ?_, WS_eq W (fun j _ => ?_) a4, RS_eq R (fun j _ => ⟨?_, ?_⟩) a5⟩
  · rw [rI_wI, if_neg (by omega), a2]
  · rw [rI_wI, if_neg (by omega), a3]
  · rw [rI_wI, if_neg (by omega)]
  · rw [rI_wI, if_neg (by omega)]
  · rw [rI_wI, if_neg (by omega)]
theorem Sc.fix {Z : Shp} {M0 M : Mem} {W : List Nat} {R : List Mk} (h : Sc Z M0 M W R) (hF : Fix M0) : Fix M := h.1.fix hF (by decide)
theorem Sc.push {Z : Shp} {M0 M : Mem} {W : List Nat} {R : List Mk} (h : Sc Z M0 M W R) {w : Nat} (hw : w < 100) : Sc Z M0 (wI (wI M 88 W.length (nI w)) 51 55 (nI (W.length + 1))) (w :: W) R := by
  obtain ⟨a1, a2, a3, a4, a5⟩ := h
  refine ⟨(a1.sI (by simp [inF])).sI (by simp [inF]), ?_, ?_, ⟨?_, hw, WS_eq W (fun j hj => ?_) a4⟩, RS_eq R (fun j _ => ⟨?_, ?_⟩) a5⟩
  · simp [rI_wI, a2]
  · simp [rI_wI]
  · simp [rI_wI]
  · rw [rI_wI, if_neg (by omega), rI_wI, if_neg (by omega)]
  · simp [rI_wI]
  · simp [rI_wI]
theorem Sc.pop {Z : Shp} {M0 M : Mem} {w : Nat} {W : List Nat} {R : List Mk} (h : Sc Z M0 M (w :: W) R) : Sc Z M0 (wI M 51 55 (nI W.length)) W R := by
  obtain ⟨a1, a2, a3, a4, a5⟩ := h
  refine ⟨a1.sI (by simp [inF]), ?_, ?_, WS_eq W (fun j hj => ?_) a4.2.2, RS_eq R (fun j _ => ⟨?_, ?_⟩) a5⟩
  · simp [rI_wI, a2]
  · simp [rI_wI]
  · simp [rI_wI]
  · simp [rI_wI]
  · simp [rI_wI]
theorem lay_m {Z : Shp} {M0 M : Mem} (hZ : OKZ Z) (hF : Fix M0) {W : List Nat} {R : List Mk} (h : Sc Z M0 M W R) (hl : R.length < 60) {m : Nat} (hm : m < 100) (v : Int32) : ∃ M1, fX12_lay Z M 51 (nI m) v = some M1 ∧ Sc Z M0 M1 W ((m, v) :: R) ∧ ∀ k, k ≠ 53 → rI M1 51 k = rI M 51 k := by
  have hF1 := h.fix hF
  obtain ⟨a1, a2, a3, a4, a5⟩ := h
  have hix : ix (nI R.length) = R.length := ix_nI (by omega)
  have a86 : aok Z 86 100 (nI R.length) := aok_nI (tg_86 hZ) (by omega) (by decide)
  have a87 : aok Z 87 100 (nI R.length) := aok_nI (tg_87 hZ) (by omega) (by decide)
  refine ⟨wI (wI (wI M 86 R.length (nI m)) 87 R.length v) 51 53 (nI R.length + 1), ?_, ⟨?_, ?_, ?_, WS_eq W (fun j hj => ?_) a4, ?_, ?_, hm, RS_eq R (fun j hj => ⟨?_, ?_⟩) a5⟩, fun k hk => ?_⟩
  · simp [fX12_lay, tg_51 hZ, a2, fr_51_51 hF1, fr_51_52 hF1, if_pos a86, if_pos a87, hix, pu, rI_wI, rJ_wI, rR_wI, rI_wJ, rJ_wJ, rR_wJ, rI_wR, rJ_wR, rR_wR]
  · exact ((a1.sI (by simp [inF])).sI (by simp [inF])).sI (by simp [inF])
  · simp [rI_wI, nI_succ]
  · simp [rI_wI, a3]
  · simp [rI_wI]
  · simp [rI_wI]
  · simp [rI_wI]
  · simp only [rI_wI]
    rw [if_neg (by omega), if_neg (by omega), if_neg (by omega)]
  · simp only [rI_wI]
    rw [if_neg (by omega), if_neg (by omega), if_neg (by omega)]
  · simp [rI_wI, hk]
theorem layDown_m {Z : Shp} {M0 : Mem} (hZ : OKZ Z) (hF : Fix M0) {y : Nat} (hy : y < 100) : ∀ W R M, Sc Z M0 M W R → W.length + R.length ≤ 60 → ∃ M1, fX12_layDown Z M 51 (nI y) = some M1 ∧ Sc Z M0 M1 (ld y W R).1 (ld y W R).2 ∧ ∀ k, k ≠ 53 → k ≠ 55 → rI M1 51 k = rI M 51 k := by
  intro W
  induction W with
  | nil =>
    intro R M h _
    refine ⟨M, ?_, h, fun _ _ _ => rfl⟩
    unfold fX12_layDown
    refine loop_done ?_
    have h3 : rI M 51 55 = 0 := h.2.2.1
    simp [tg_51 hZ, h3]
  | cons w W ih =>
    intro R M h hl
    have hF1 := h.fix hF
    have h55 := h.2.2.1
    have hw := h.2.2.2.1.1
    have hw2 := h.2.2.2.1.2.1
    have hl2 : W.length + 1 + R.length ≤ 60 := by simpa using hl
    rw [List.length_cons] at h55
    have hp : nI (W.length + 1) - 1 = nI W.length := nI_pred _
    have hix : ix (nI W.length) = W.length := ix_nI (by omega)
    have a88 : aok Z 88 100 (nI W.length) := aok_nI (tg_88 hZ) (by omega) (by decide)
    have hn0 : ¬ nI (W.length + 1) ≤ 0 := nI_nle (by omega) (by omega)
    by_cases c : w ≤ y
    · obtain ⟨M2, g1, g2, g3⟩ := lay_m hZ hF h.pop (by omega) hw2 0
      obtain ⟨M1, k1, k2, k3⟩ := ih ((w, 0) :: R) M2 g2 (by simp; omega)
      refine ⟨M1, ?_, ?_, fun k hk1 hk2 => ?_⟩
      · unfold fX12_layDown at k1 ⊢
        rw [← k1]
        refine loop_step ?_
        simp only [pu, rI_wI, rR_wI, and_self, if_true, if_pos (tg_51 hZ), h55, hp, if_neg hn0, fr_51_54 hF1, if_pos a88, hix, hw, if_neg (nI_nlt c (show y < 2 ^ 31 by omega)), show ∀ x, ¬ ((88 : Nat) = 51 ∧ x) from fun x h => absurd h.1 (by decide), if_false, g1, Option.bind_some]
      · rw [ld, if_pos c]
        exact k2
      · rw [k3 k hk1 hk2, g3 k hk1, rI_wI, if_neg (by omega)]
    · refine ⟨M, ?_, ?_, fun _ _ _ => rfl⟩
      · unfold fX12_layDown
        refine loop_done ?_
        simp only [if_pos (tg_51 hZ), h55, hp, if_neg hn0, fr_51_54 hF1, if_pos a88, hix, hw, if_pos (nI_lt (show y < w by omega) (by omega))]
      · rw [ld, if_neg c]
        exact h
/-- a number that has been read, if there is one, is laid -/
theorem end_m {Z : Shp} {M0 M : Mem} (hZ : OKZ Z) (hF : Fix M0) {W : List Nat} {R : List Mk} (h : Sc Z M0 M W R) (hl : R.length < 60) : ((¬ rI M 51 43 = 7) → fX12_endNumber Z M 51 = some M) ∧ ∀ L s : Nat, L < 5 → s < 3 → rI M 51 43 = 7 → rI M 51 49 = nI L → rI M 51 50 = nI s → ∃ M1, fX12_endNumber Z M 51 = some M1 ∧ Sc Z M0 M1 W ((3 * L + s, rI M 51 48) :: R) ∧ ∀ k, k ≠ 53 → rI M1 51 k = rI M 51 k := by
  refine ⟨fun c => by simp [fX12_endNumber, tg_51 hZ, c], fun L s hL hs c h49 h50 => ?_⟩
  obtain ⟨M1, g1, g2, g3⟩ := lay_m hZ hF h hl (m := 3 * L + s) (by omega) (rI M 51 48)
  refine ⟨M1, ?_, g2, g3⟩
  have e : (3 : Int32) * nI L + nI s = nI (3 * L + s) := by
    rw [show (3 : Int32) = nI 3 from rfl, pk_mul, nI_add]
  simp [fX12_endNumber, tg_51 hZ, c, h49, h50, e, g1]
/-- behind a factor: the three letters -/
theorem gb_bar {Z : Shp} {M0 M M1 : Mem} (hZ : OKZ Z) (hF : Fix M0) {W : List Nat} {R : List Mk} (he : fX12_endNumber Z M 51 = some M1) (h : Sc Z M0 M1 W R) (hl : W.length + R.length < 60) {c : Int32} {y : Nat} (hc : (c = 38 ∧ y = 16) ∨ (c = 124 ∧ y = 17)) : ∃ M2, fX12_goBehind Z M 51 c = some (1, M2) ∧ Sc Z M0 M2 (y :: (ld y W R).1) (ld y W R).2 ∧ rI M2 51 43 = 4 ∧ ∀ k, k ≠ 43 → k ≠ 53 → k ≠ 55 → rI M2 51 k = rI M1 51 k := by
  have hy : y < 100 := by omega
  obtain ⟨M3, g1, g2, g3⟩ := layDown_m hZ hF hy W R M1 h (by omega)
  have hF3 := g2.fix hF
  have hll := ld_len y W R
  have h55 := g2.2.2.1
  have hix : ix (nI (ld y W R).1.length) = (ld y W R).1.length := ix_nI (by omega)
  have a88 : aok Z 88 100 (nI (ld y W R).1.length) := aok_nI (tg_88 hZ) (by omega) (by decide)
  have hp := (g2.push hy).st (k := 43) 4 (by simp) (by omega) (by omega)
  refine ⟨_, ?_, hp, by simp [rI_wI], fun k k1 k2 k3 => ?_⟩
  · rcases hc with ⟨rfl, rfl⟩ | ⟨rfl, rfl⟩
    · rw [show nI 16 = 16 from rfl] at g1
      simp [fX12_goBehind, js, tg_51 hZ, he, g1, fr_51_54 hF3, h55, if_pos a88, hix, pu, rI_wI, rJ_wI, rR_wI, rI_wJ, rJ_wJ, rR_wJ, rI_wR, rJ_wR, rR_wR, nI_succ (ld 16 W R).1.length, show nI 16 = 16 from rfl]
    · rw [show nI 17 = 17 from rfl] at g1
      simp [fX12_goBehind, js, tg_51 hZ, he, g1, fr_51_54 hF3, h55, if_pos a88, hix, pu, rI_wI, rJ_wI, rR_wI, rI_wJ, rJ_wJ, rR_wJ, rI_wR, rJ_wR, rR_wR, nI_succ (ld 17 W R).1.length, show nI 17 = 17 from rfl]
  · simp only [rI_wI]
    rw [if_neg (by omega), if_neg (by omega), if_neg (by omega), g3 k k2 k3]
theorem gb_close {Z : Shp} {M0 M M1 : Mem} (hZ : OKZ Z) (hF : Fix M0) {W W1 : List Nat} {R R1 : List Mk} {w : Nat} (he : fX12_endNumber Z M 51 = some M1) (h : Sc Z M0 M1 W R) (hl : W.length + R.length ≤ 60) (hld : ld 17 W R = (w :: W1, R1)) {dep : Nat} (hd : dep < 100) (h44 : rI M 51 44 = nI (dep + 1)) (h44' : rI M1 51 44 = nI (dep + 1)) : ∃ M2, fX12_goBehind Z M 51 41 = some (1, M2) ∧ Sc Z M0 M2 W1 R1 ∧ rI M2 51 43 = 8 ∧ rI M2 51 44 = nI dep ∧ ∀ k, k ≠ 43 → k ≠ 44 → k ≠ 53 → k ≠ 55 → rI M2 51 k = rI M1 51 k := by
  obtain ⟨M3, g1, g2, g3⟩ := layDown_m hZ hF (y := 17) (by omega) W R M1 h hl
  rw [hld] at g2
  have hF3 := g2.fix hF
  have h55 := g2.2.2.1
  rw [List.length_cons] at h55
  have hn0 : ¬ nI (dep + 1) ≤ 0 := nI_nle (by omega) (by omega)
  have hp := ((g2.pop).st (k := 44) (nI dep) (by simp) (by omega) (by omega)).st (k := 43) 8 (by simp) (by omega) (by omega)
  have h44'' : rI M3 51 44 = nI (dep + 1) := by rw [g3 44 (by omega) (by omega), h44']
  refine ⟨_, ?_, hp, by simp [rI_wI], by simp [rI_wI], fun k k1 k2 k3 k4 => ?_⟩
  · rw [show nI 17 = 17 from rfl] at g1
    have p1 : nI (W1.length + 1) - 1 = nI W1.length := nI_pred _
    have p2 : nI (dep + 1) - 1 = nI dep := nI_pred _
    simp only [fX12_goBehind, js, show ¬ (41 : Int32) = 38 by decide, show ¬ (41 : Int32) = 124 by decide, if_false, if_true, if_pos (tg_51 hZ), h44, if_neg hn0, he, Option.bind_some, g1, pu, h55, p1, rI_wI, true_and, show ((44 : Nat) = 55) = False by simp, h44'', p2]
  · simp only [rI_wI]
    rw [if_neg (by omega), if_neg (by omega), if_neg (by omega), g3 k k3 k4]
theorem gb_no {Z : Shp} {M : Mem} (hZ : OKZ Z) {c : Int32} (h1 : ¬ c = 38) (h2 : ¬ c = 124) (h3 : c = 41 → rI M 51 44 = 0) : fX12_goBehind Z M 51 c = some (0, M) := by
  by_cases c3 : c = 41
  · have := h3 c3
    subst c3
    simp [fX12_goBehind, js, tg_51 hZ, this]
  · simp [fX12_goBehind, js, h1, h2, c3]
