/-! an hour: a lock is filled, emptied -/
abbrev FcL : List (Nat × Option Nat) := [(9, none), (10, none), (11, none), (12, none), (13, none), (14, none), (15, none), (16, none), (17, none), (18, none), (19, none), (20, none), (21, none), (22, none), (23, none)]
abbrev FmL : List (Nat × Option Nat) := [(52, none), (58, none), (59, none), (61, none), (51, some 14)]
theorem mem_pl {p : Nat} (hp : p < 8) : (9 + p, none) ∈ FcL := match p, hp with
  | 0, _ => by simp
  | 1, _ => by simp
  | 2, _ => by simp
  | 3, _ => by simp
  | 4, _ => by simp
  | 5, _ => by simp
  | 6, _ => by simp
  | 7, _ => by simp
  | _ + 8, h => absurd h (by omega)
theorem mem_ll {p : Nat} (hp : p < 7) : (17 + p, none) ∈ FcL := match p, hp with
  | 0, _ => by simp
  | 1, _ => by simp
  | 2, _ => by simp
  | 3, _ => by simp
  | 4, _ => by simp
  | 5, _ => by simp
  | 6, _ => by simp
  | _ + 7, h => absurd h (by omega)
theorem half_bd {a : Int32} (h0 : 0 ≤ a.toInt) : (a / 2).toInt = a.toInt / 2 := by
  have m2 : (2 : Int32).toInt = 2 := by decide
  rw [divI h0 (by omega), m2]
/-- kept in the side when lock l is emptied -/
def kps (D : Mem) (l : Nat) : Int32 := if rI D 56 l = 0 then 0 else rI D 55 l / 2 - rI D 59 l
theorem kps_bd {C D : Mem} (hL : R2 C D) {l : Nat} (hl : l < 7) : 0 ≤ (kps D l).toInt ∧ 2 * ((rI D 59 l).toInt + (kps D l).toInt) ≤ (rI D 55 l).toInt ∧ (rI D 56 l = 0 → kps D l = 0) ∧ (¬ rI D 56 l = 0 → (kps D l).toInt = (rI D 55 l).toInt / 2 - (rI D 59 l).toInt) := by
  obtain ⟨-, -, -, -, -, -, c1, c2, c3, c4, c5, c6⟩ := hL l hl
  have hh := half_bd (a := rI D 55 l) (by omega)
  have m0 : (0 : Int32).toInt = 0 := by decide
  unfold kps
  by_cases q : rI D 56 l = 0
  · rw [if_pos q, m0]
    exact ⟨by omega, by omega, fun _ => rfl, fun h => absurd q h⟩
  · rw [if_neg q, subI (by omega) (by omega), hh]
    exact ⟨by omega, by omega, fun h => absurd h q, fun _ => rfl⟩
theorem keep_c {Z : Shp} {C D : Mem} (hZ : OKZ Z) (hL : R2 C D) {l : Nat} (hl : l < 7) : fX4_keepable Z C (17 + l) = some (kps D l) := by
  obtain ⟨k1, k2, k3, k4⟩ := kps_bd hL hl
  obtain ⟨l0, l1, l2, l3, l4, l6, c1, c2, c3, c4, c5, c6⟩ := hL l hl
  have m0 : (0 : Int32).toInt = 0 := by decide
  unfold fX4_keepable
  rw [if_pos (tg_l hZ hl), l1, l0, l4]
  by_cases q : rI D 56 l = 0
  · rw [if_pos q, k3 q]
  · rw [if_neg q]
    have e : rI D 55 l / 2 - rI D 59 l = kps D l := by
      unfold kps
      rw [if_neg q]
    rw [e]
    unfold mxI
    by_cases d : 0 < kps D l
    · rw [if_pos d]
    · rw [if_neg d]
      congr 1
      rw [i32_eq, m0]
      rw [i32_lt, m0] at d
      omega
theorem fill_sim {Z : Shp} {C D : Mem} (hZ : OKZ Z) (hFC : Fix C) (hFD : Fix D) {i s : Nat} (hi : i < 7) (hs : s ≤ 6) (h3 : rI D 51 3 = nI s) (h1 : R1 C D) (hL : R2 C D) (hw : (rI D 55 i).toInt - (rI D 59 i).toInt ≤ (rI D 52 (upp s i)).toInt) : ∃ C1 D1, fX4_fillFrom Z C (17 + i) (9 + upp s i) = some C1 ∧ fX12_fill Z D 51 (nI i) = some D1 ∧ R1 C1 D1 ∧ R2 C1 D1 ∧ Wr Z FcL [] [] C C1 ∧ Wr Z FmL [] [] D D1 ∧ (∀ a k, rJ C1 a k = rJ C a k) ∧ (∀ a k, rJ D1 a k = rJ D a k) ∧ (∀ l, rI C1 (17 + l) 5 = rI C (17 + l) 5) := by
  obtain ⟨l0, l1, l2, l3, l4, l6, c1, c2, c3, c4, c5, c6⟩ := hL i hi
  obtain ⟨U, eU⟩ : ∃ U, U = upp s i := ⟨_, rfl⟩
  have hU : U < 8 := by
    rw [eU]
    unfold upp
    split <;> omega
  have hup := upper_m hZ hs hi h3
  rw [← eU] at hw hup ⊢
  obtain ⟨p1, p2, p3, g0, g1, g2⟩ := h1 U hU
  have hix : ix (nI i) = i := ix_nI (by omega)
  have hixU : ix (nI U) = U := ix_nI (by omega)
  have a59 : aok Z 59 100 (nI i) := aok_nI (tg_59 hZ) (by omega) (by decide)
  have a55 : aok Z 55 100 (nI i) := aok_nI (tg_55 hZ) (by omega) (by decide)
  have a58 : aok Z 58 101 (nI i) := aok_nI (tg_58 hZ) (by omega) (by decide)
  have a61 : aok Z 61 100 (nI i) := aok_nI (tg_61 hZ) (by omega) (by decide)
  have a52 : aok Z 52 100 (nI U) := aok_nI (tg_52 hZ) (by omega) (by decide)
  have m0 : (0 : Int32).toInt = 0 := by decide
  have hle : fX12_least (rI D 59 i) (rI D 55 i) = rI D 59 i := by
    unfold fX12_least
    rw [if_neg]
    rw [i32_le]
    omega
  have hz : rI D 59 i - rI D 59 i = 0 := by
    rw [i32_eq, subI (by omega) (by omega), m0]
    omega
  have hsb := subI (a := rI D 55 i) (b := rI D 59 i) (by omega) (by omega)
  have hsw := subI (a := rI D 52 U) (b := rI D 55 i - rI D 59 i) (by omega) (by omega)
  obtain ⟨W, eW⟩ : ∃ W, W = rI D 52 U - (rI D 55 i - rI D 59 i) := ⟨_, rfl⟩
  obtain ⟨C1, eC⟩ : ∃ C1, C1 = wI (wI (wI (wI C (9 + U) 0 W) (17 + i) 4 0) (17 + i) 3 1) (17 + i) 6 (rI D 61 i + 1) := ⟨_, rfl⟩
  obtain ⟨D1, eD⟩ : ∃ D1, D1 = wI (wI (wI (wI D 59 i 0) 52 U W) 58 i 1) 61 i (rI D 61 i + 1) := ⟨_, rfl⟩
  have hup2 : fX12_upper Z (wI D 59 i 0) 51 (nI i) = some (nI U) := by
    rw [eU]
    exact upper_m hZ hs hi (by simp [rI_wI, h3])
  have t1 : ¬ 17 + i = 9 + U := by omega
  have t2 : ¬ 9 + U = 17 + i := by omega
  refine ⟨C1, D1, ?_, ?_, ?_, ?_, ?_, ?_, ?_, ?_, ?_⟩
  · simp [fX4_fillFrom, tg_p hZ hU, tg_l hZ hi, pu, p1, l0, l4, ← eW, rI_wI, t1, l6, eC]
  · simp [fX12_fill, tg_51 hZ, fr_51_8 hFD, fr_51_4 hFD, fr_51_0 hFD, fr_51_7 hFD, fr_51_10 hFD, if_pos a59, if_pos a55, hix, pu, hle, hz, rR_wI, rI_wI, hup2, if_pos a52, hixU, ← eW, if_pos a58, if_pos a61, eD]
  · have := (h1.set hU (w := W) (by rw [eW, hsw, hsb]; omega) (by rw [eW, hsw, hsb]; omega))
    refine this.cg (fun a k x1 x2 => ?_) (fun a k x1 x2 => ?_)
    · rw [eC, rI_wI, if_neg (by omega), rI_wI, if_neg (by omega), rI_wI, if_neg (by omega)]
    · rw [eD, rI_wI, if_neg (by omega), rI_wI, if_neg (by omega), rI_wI, rI_wI, rI_wI]
      by_cases c : a = 52 ∧ k = U
      · rw [if_pos c, if_pos c]
      · rw [if_neg c, if_neg c, if_neg (by omega)]
  · intro l hl
    obtain ⟨x0, x1, x2, x3, x4, x6, y1, y2, y3, y4, y5, y6⟩ := hL l hl
    have d55 : rI D1 55 l = rI D 55 l := by simp [eD, rI_wI]
    have d56 : rI D1 56 l = rI D 56 l := by simp [eD, rI_wI]
    have d57 : rI D1 57 l = rI D 57 l := by simp [eD, rI_wI]
    have t3 : ¬ 17 + l = 9 + U := by omega
    by_cases c : l = i
    · subst c
      have d58 : rI D1 58 l = 1 := by simp [eD, rI_wI]
      have d59 : rI D1 59 l = 0 := by simp [eD, rI_wI]
      have d61 : rI D1 61 l = rI D 61 l + 1 := by simp [eD, rI_wI]
      rw [d55, d56, d57, d58, d59, d61]
      refine ⟨?_, ?_, ?_, ?_, ?_, ?_, y1, y2, y3, Or.inr rfl, ?_, fun _ => rfl⟩
      · simp [eC, rI_wI, t3, x0]
      · simp [eC, rI_wI, t3, x1]
      · simp [eC, rI_wI, t3, x2]
      · simp [eC, rI_wI, t3]
      · simp [eC, rI_wI, t3]
      · simp [eC, rI_wI]
      · rw [m0]; omega
    · have d58 : rI D1 58 l = rI D 58 l := by simp [eD, rI_wI, c]
      have d59 : rI D1 59 l = rI D 59 l := by simp [eD, rI_wI, c]
      have d61 : rI D1 61 l = rI D 61 l := by simp [eD, rI_wI, c]
      have cc : ∀ k, rI C1 (17 + l) k = rI C (17 + l) k := fun k => by simp [eC, rI_wI, t3, c]
      rw [d55, d56, d57, d58, d59, d61, cc, cc, cc, cc, cc, cc]
      exact ⟨x0, x1, x2, x3, x4, x6, y1, y2, y3, y4, y5, y6⟩
  · rw [eC]
    exact (((Wr.rf.sI (Or.inl (mem_pl hU))).sI (Or.inl (mem_ll hi))).sI (Or.inl (mem_ll hi))).sI (Or.inl (mem_ll hi))
  · rw [eD]
    exact (((Wr.rf.sI (by simp [inF])).sI (by simp [inF])).sI (by simp [inF])).sI (by simp [inF])
  · intro a k
    rw [eC, rJ_wI, rJ_wI, rJ_wI, rJ_wI]
  · intro a k
    rw [eD, rJ_wI, rJ_wI, rJ_wI, rJ_wI]
  · intro l
    rw [eC, rI_wI, if_neg (by omega), rI_wI, if_neg (by omega), rI_wI, if_neg (by omega), rI_wI, if_neg (by omega)]
/-- the lower pound of lock i -/
def low (s i : Nat) : Nat := if s ≤ i then i + 1 else i
theorem drain_sim {Z : Shp} {C D : Mem} (hZ : OKZ Z) (hFC : Fix C) (hFD : Fix D) {i s : Nat} (hi : i < 7) (hs : s ≤ 6) (h3 : rI D 51 3 = nI s) (h1 : R1 C D) (hL : R2 C D) : ∃ v C1 D1, fX4_drainInto Z C (17 + i) (9 + low s i) = some (v, C1) ∧ fX12_empty Z D 51 (nI i) = some D1 ∧ R1 C1 D1 ∧ R2 C1 D1 ∧ Wr Z FcL [] [] C C1 ∧ Wr Z FmL [] [] D D1 ∧ (∀ a k, rJ C1 a k = rJ C a k) ∧ rJ D1 51 14 = rJ D 51 14 + v.toInt64 ∧ rJ D1 51 12 = rJ D 51 12 ∧ rJ D1 51 13 = rJ D 51 13 ∧ rI D1 52 (upp s i) = rI D 52 (upp s i) ∧ rI D1 59 i = rI D 59 i + kps D i ∧ (∀ l, rI C1 (17 + l) 5 = rI C (17 + l) 5) := by
  have hkc := keep_c hZ hL hi
  obtain ⟨k1, k2, k3, k4⟩ := kps_bd hL hi
  obtain ⟨l0, l1, l2, l3, l4, l6, c1, c2, c3, c4, c5, c6⟩ := hL i hi
  obtain ⟨W, eW⟩ : ∃ W, W = low s i := ⟨_, rfl⟩
  have hW : W < 8 := by
    rw [eW]
    unfold low
    split <;> omega
  have hUW : upp s i ≠ W := by
    rw [eW]
    unfold low upp
    split <;> omega
  rw [← eW]
  obtain ⟨p1, p2, p3, g0, g1, g2⟩ := h1 W hW
  have hix : ix (nI i) = i := ix_nI (by omega)
  have a56 : aok Z 56 101 (nI i) := aok_nI (tg_56 hZ) (by omega) (by decide)
  have a59 : aok Z 59 100 (nI i) := aok_nI (tg_59 hZ) (by omega) (by decide)
  have a55 : aok Z 55 100 (nI i) := aok_nI (tg_55 hZ) (by omega) (by decide)
  have a58 : aok Z 58 101 (nI i) := aok_nI (tg_58 hZ) (by omega) (by decide)
  have m0 : (0 : Int32).toInt = 0 := by decide
  obtain ⟨K, eK⟩ : ∃ K, K = kps D i := ⟨_, rfl⟩
  rw [← eK] at hkc k1 k2 k3 k4 ⊢
  have hsb := subI (a := rI D 55 i) (b := K) (by omega) (by omega)
  have hak := addI (a := rI D 59 i) (b := K) (by omega) (by omega)
  have hsw := addI (a := rI D 52 W) (b := rI D 55 i - K) (by omega) (by omega)
  have hb := pw_bd (w := rI D 52 W) (f := rI D 53 W) (v := rI D 55 i - K) (by omega) (by omega)
  obtain ⟨P, eP⟩ : ∃ P, P = pw (rI D 52 W) (rI D 53 W) (rI D 55 i - K) := ⟨_, rfl⟩
  obtain ⟨V, eV⟩ : ∃ V, V = po (rI D 52 W) (rI D 53 W) (rI D 55 i - K) := ⟨_, rfl⟩
  have t1 : ¬ 17 + i = 9 + W := by omega
  have t2 : ¬ 9 + W = 17 + i := by omega
  have hsp := spill_c (C := wI (wI (wI C (17 + i) 4 (rI D 59 i + K)) (9 + W) 0 (rI D 52 W + (rI D 55 i - K))) (17 + i) 3 0) (w := rI D 52 W) (v := rI D 55 i - K) (f := rI D 53 W) hZ hW (by simp [rI_wI, t2]) (by simp [rI_wI, t2, p2]) (by omega) (by omega)
  rw [← eP, ← eV] at hsp
  rw [← eP] at hb
  obtain ⟨C1, eC⟩ : ∃ C1, C1 = wI (wI (wI (wI C (17 + i) 4 (rI D 59 i + K)) (9 + W) 0 (rI D 52 W + (rI D 55 i - K))) (17 + i) 3 0) (9 + W) 0 P := ⟨_, rfl⟩
  obtain ⟨D1, eD⟩ : ∃ D1, D1 = wJ (wI (wI (wI D 59 i (rI D 59 i + K)) 58 i 0) 52 W P) 51 14 (rJ D 51 14 + V.toInt64) := ⟨_, rfl⟩
  have hup2 : fX12_upper Z (wI (wI D 59 i (rI D 59 i + K)) 58 i 0) 51 (nI i) = some (nI (upp s i)) := upper_m hZ hs hi (by simp [rI_wI, h3])
  have hpour : fX12_pour Z (wI (wI D 59 i (rI D 59 i + K)) 58 i 0) 51 (nI W) (rI D 55 i - K) = some D1 := by
    rw [pour_m hZ ((hFD.wI _ _ _).wI _ _ _) hW, eD, eP, eV]
    simp [rI_wI, rJ_wI, rR_wI, rI_wJ, rJ_wJ, rR_wJ, rI_wR, rJ_wR, rR_wR]
  have hkm : (if rI D 56 i = 0 then some (0 : Int32) else (if aok Z 55 100 (nI i) then (if aok Z 59 100 (nI i) then some (rI D 55 i / 2 - rI D 59 i) else none) else none)) = some K := by
    rw [eK]
    unfold kps
    by_cases q : rI D 56 i = 0
    · rw [if_pos q, if_pos q]
    · rw [if_neg q, if_neg q, if_pos a55, if_pos a59]
  refine ⟨V, C1, D1, ?_, ?_, ?_, ?_, ?_, ?_, ?_, ?_, ?_, ?_, ?_, ?_, ?_⟩
  · simp [fX4_drainInto, tg_p hZ hW, tg_l hZ hi, hkc, pu, p1, l0, l4, rI_wI, t1, t2, hsp, eC]
  · unfold fX12_empty
    rw [if_pos (tg_51 hZ), fr_51_5 hFD, if_pos a56, hix, fr_51_4 hFD, fr_51_8 hFD, hkm, Option.bind_some, if_pos a59]
    simp only [pu, rR_wI, fr_51_7 hFD, fr_51_4 hFD, if_pos a58, if_pos a55]
    rw [hup2, Option.bind_some]
    have r55 : rI (wI (wI D 59 i (rI D 59 i + K)) 58 i 0) 55 i = rI D 55 i := by simp [rI_wI]
    rw [r55]
    have hWi : (if nI (upp s i) = nI i then nI i + 1 else nI i) = nI W := by
      rw [eW]
      unfold upp low
      by_cases c : s ≤ i
      · rw [if_pos c, if_pos c, if_pos rfl, nI_1]
      · rw [if_neg c, if_neg c, if_neg]
        intro e
        have := (nI_eq (a := i + 1) (b := i) (by omega) (by omega)).mp e
        omega
    by_cases c : nI (upp s i) = nI i
    · rw [if_pos c] at hWi ⊢
      rw [hWi, hpour]
      rfl
    · rw [if_neg c] at hWi ⊢
      rw [hWi, hpour]
      rfl
  · have := (h1.set hW (w := P) hb.1 hb.2)
    refine this.cg (fun a k x1 x2 => ?_) (fun a k x1 x2 => ?_)
    · simp only [eC, rI_wI]
      by_cases c : a = 9 + W ∧ k = 0
      · rw [if_pos c, if_pos c]
      · rw [if_neg c, if_neg (show ¬ (a = 17 + i ∧ k = 3) by omega), if_neg c, if_neg (show ¬ (a = 17 + i ∧ k = 4) by omega), if_neg c]
    · simp only [eD, rI_wI, rI_wJ]
      by_cases c : a = 52 ∧ k = W
      · rw [if_pos c, if_pos c]
      · rw [if_neg c, if_neg (show ¬ (a = 58 ∧ k = i) by omega), if_neg (show ¬ (a = 59 ∧ k = i) by omega), if_neg c]
  · intro l hl
    obtain ⟨x0, x1, x2, x3, x4, x6, y1, y2, y3, y4, y5, y6⟩ := hL l hl
    have d55 : rI D1 55 l = rI D 55 l := by simp [eD, rI_wI, rI_wJ]
    have d56 : rI D1 56 l = rI D 56 l := by simp [eD, rI_wI, rI_wJ]
    have d57 : rI D1 57 l = rI D 57 l := by simp [eD, rI_wI, rI_wJ]
    have d61 : rI D1 61 l = rI D 61 l := by simp [eD, rI_wI, rI_wJ]
    have t3 : ¬ 17 + l = 9 + W := by omega
    by_cases c : l = i
    · subst c
      have d58 : rI D1 58 l = 0 := by simp [eD, rI_wI, rI_wJ]
      have d59 : rI D1 59 l = rI D 59 l + K := by simp [eD, rI_wI, rI_wJ]
      rw [d55, d56, d57, d58, d59, d61]
      refine ⟨?_, ?_, ?_, ?_, ?_, ?_, y1, y2, y3, Or.inl rfl, ?_, fun h => ?_⟩
      · simp [eC, rI_wI, t3, x0]
      · simp [eC, rI_wI, t3, x1]
      · simp [eC, rI_wI, t3, x2]
      · simp [eC, rI_wI, t3]
      · simp [eC, rI_wI, t3]
      · simp [eC, rI_wI, t3, x6]
      · rw [hak]; omega
      · rw [k3 h, y6 h]
        decide
    · have d58 : rI D1 58 l = rI D 58 l := by simp [eD, rI_wI, rI_wJ, c]
      have d59 : rI D1 59 l = rI D 59 l := by simp [eD, rI_wI, rI_wJ, c]
      have cc : ∀ k, rI C1 (17 + l) k = rI C (17 + l) k := fun k => by simp [eC, rI_wI, t3, c]
      rw [d55, d56, d57, d58, d59, d61, cc, cc, cc, cc, cc, cc]
      exact ⟨x0, x1, x2, x3, x4, x6, y1, y2, y3, y4, y5, y6⟩
  · rw [eC]
    exact (((Wr.rf.sI (Or.inl (mem_ll hi))).sI (Or.inl (mem_pl hW))).sI (Or.inl (mem_ll hi))).sI (Or.inl (mem_pl hW))
  · rw [eD]
    exact (((Wr.rf.sI (by simp [inF])).sI (by simp [inF])).sI (by simp [inF])).sJ (by simp [inF])
  · intro a k
    rw [eC, rJ_wI, rJ_wI, rJ_wI, rJ_wI]
  · rw [eD, rJ_wJ, if_pos ⟨rfl, rfl⟩]
  · rw [eD, rJ_wJ, if_neg (by omega), rJ_wI, rJ_wI, rJ_wI]
  · rw [eD, rJ_wJ, if_neg (by omega), rJ_wI, rJ_wI, rJ_wI]
  · rw [eD, rI_wJ, rI_wI, if_neg (fun h => hUW h.2), rI_wI, if_neg (by omega), rI_wI, if_neg (by omega)]
  · rw [eD, rI_wJ, rI_wI, if_neg (by omega), rI_wI, if_neg (by omega), rI_wI, if_pos ⟨rfl, rfl⟩]
  · intro l
    rw [eC, rI_wI, if_neg (by omega), rI_wI, if_neg (by omega), rI_wI, if_neg (by omega), rI_wI, if_neg (by omega)]
