/-! digest -/
def hM (M : Mem) (h : Int64) : Mem := wJ M 51 85 h
theorem rI_hM (M : Mem) (h : Int64) (a k : Nat) : rI (hM M h) a k = rI M a k := rfl
theorem rR_hM (M : Mem) (h : Int64) (a k : Nat) : rR (hM M h) a k = rR M a k := rfl
theorem rJ_hM (M : Mem) (h : Int64) {a k : Nat} (hk : k ≠ 85) : rJ (hM M h) a k = rJ M a k := by
  unfold hM
  rw [rJ_wJ, if_neg (by omega)]
theorem fix_hM {M : Mem} (hF : Fix M) (h : Int64) : Fix (hM M h) := hF
theorem tell_m {Z : Shp} (hZ : OKZ Z) (M : Mem) (h y : Int64) : fX12_tell Z (hM M h) 51 y = some (hM M (31 * h + y)) := by
  have e : wJ (hM M h) 51 85 (31 * rJ (hM M h) 51 85 + y) = hM M (31 * h + y) := by
    unfold hM
    refine mem_ext (fun a k => rfl) (fun a k => ?_) (fun a k => rfl)
    simp only [rJ_wJ, and_self, if_true]
    by_cases c : a = 51 ∧ k = 85
    · rw [if_pos c, if_pos c]
    · rw [if_neg c, if_neg c, if_neg c]
  simp [fX12_tell, tg_51 hZ, pu, e]
theorem mix_e (h v : Int64) : fX11_mix h v = 31 * h + v := rfl
/-- a number is told to h, step by step -/
def hs (f : Nat → Int64 → Int64) (h0 : Int64) : Nat → Int64
  | 0 => h0
  | k + 1 => f k (hs f h0 k)
def sv (v : Nat → Int32) (h0 : Int64) (n : Nat) : Int64 := hs (fun k h => 31 * h + (v k).toInt64) h0 n
theorem sv_s (v : Nat → Int32) (h0 : Int64) (n : Nat) : sv v h0 (n + 1) = 31 * sv v h0 n + (v n).toInt64 := rfl
theorem hs_s (f : Nat → Int64 → Int64) (h0 : Int64) (n : Nat) : hs f h0 (n + 1) = f n (hs f h0 n) := rfl
def pdv (M : Mem) (p : Nat) (h : Int64) : Int64 := sv (fun t => rI M (52 + t) p) h 3
def lkv (M : Mem) (l t : Nat) : Int32 := match t with
  | 0 => rI M 55 l
  | 1 => if rI M 56 l = 0 then 0 else 1
  | _ => rI M 57 l
def lkd (M : Mem) (l : Nat) (h : Int64) : Int64 := sv (fun t => rI M (58 + t) l) (sv (lkv M l) h 3) 4
def tkd (M : Mem) (k : Nat) (h : Int64) : Int64 := 31 * (31 * (31 * (31 * (31 * h + (rI M 62 k).toInt64) + (rI M 63 k).toInt64) + (rI M 64 k).toInt64) + (rI M 65 k).toInt64) + (rI M 66 k).toInt64
noncomputable def atv (Z : Shp) (M : Mem) (k t : Nat) : Int32 := (fX12_atOf Z M 51 (nI k) (nI t)).getD 0
noncomputable def btd (Z : Shp) (M : Mem) (k : Nat) (h : Int64) : Int64 := 31 * (31 * (31 * (sv (atv Z M k) h 5) + (rI M 69 k).toInt64) + (rI M 71 k).toInt64) + (rI M 72 k).toInt64
noncomputable def smv (Z : Shp) (M : Mem) (t : Nat) : Int64 := (fX12_sumOf Z M 51 (nI t)).getD 0
noncomputable def ctv (Z : Shp) (M : Mem) (t : Nat) : Int32 := (fX12_countOf Z M 51 (nI t)).getD 0
def txd (M : Mem) (k : Nat) (h : Int64) : Int64 := 31 * (31 * (31 * h + (rI M 81 k).toInt64) + (rI M 82 k).toInt64) + (rI M 80 k).toInt64
def cmd (M : Mem) (k : Nat) (h : Int64) : Int64 := 31 * (31 * (31 * h + (if rI M 90 k = 0 then 0 else 1)) + (rI M 91 k).toInt64) + (rI M 92 k).toInt64
def bkd (M : Mem) (k : Nat) (h : Int64) : Int64 := 31 * (31 * h + (rI M 95 k).toInt64) + (rI M 96 k).toInt64
def rdd (M : Mem) (k : Nat) (h : Int64) : Int64 := if rI M 97 k = -1 then h else 31 * (31 * h + (rI M 97 k).toInt64) + (rI M 98 k).toInt64
def wkd (M : Mem) (k : Nat) (h : Int64) : Int64 := 31 * (31 * (31 * h + (rI M 107 k).toInt64) + (rI M 108 k).toInt64) + (rI M 109 k).toInt64
noncomputable def dLine (Z : Shp) (M : Mem) (tn bn : Nat) (h : Int64) : Int64 := hs (btd Z M) (hs (tkd M) (hs (lkd M) (hs (pdv M) (31 * h + (rI M 51 3).toInt64) 8) 7) tn) bn
/-! the class -/
theorem nlit {i n : Nat} {x : Int32} (h : i < n) (hx : x = nI n) (hn : n < 2 ^ 31) : ¬ x ≤ nI i := by
  rw [hx]
  exact nle h hn
theorem pounds_dc {Z : Shp} {M : Mem} (hZ : OKZ Z) (hF : Fix M) (hP : IPound M) (h : Int64) : loop (fun s6 : Int64 × Int32 => (if (8 : Int32) ≤ s6.2 then some (Sum.inr s6.1) else (loop (fun s10 : Int64 × Int32 => (if (3 : Int32) ≤ s10.2 then some (Sum.inr (Sum.inl (s10.1, (s6.2 + (1 : Int32))))) else (if aok Z (rR M 3 0) 110 s6.2 then (if tg Z (rR M (rR M 3 0) (ix s6.2)) = (7, 3) then (Option.bind (fX6_tell Z M (rR M (rR M 3 0) (ix s6.2)) s10.2) (fun v16 => (pu ((fX11_mix s10.1 (v16.toInt64))) (fun z18 => some (Sum.inl (z18, (s10.2 + (1 : Int32)))))))) else none) else none))) (s6.1, (0 : Int32))))) (h, (0 : Int32)) = some (hs (pdv M) h 8) := by
  refine loop_for (fun p => (hs (pdv M) h p, nI p)) 8 rfl (fun p hp => ?_) (by simp [show (8 : Int32) ≤ nI 8 by decide])
  dsimp only
  rw [if_neg (n8 hp), hs_s]
  generalize hs (pdv M) h p = h1
  refine loop_for (fun t => (sv (fun t => rI M (52 + t) p) h1 t, nI t)) 3 rfl (fun t ht => ?_) ?_
  · have hle : ¬ (3 : Int32) ≤ nI t := nlit ht rfl (by decide)
    have hix : ix (nI p) = p := ix_nI (by omega)
    have a4 : aok Z 4 110 (nI p) := aok_nI (tg_4 hZ) (by omega) (by decide)
    simp [hle, fr_3_0 hF, if_pos a4, hix, fr_p hF hp, tg_p hZ hp, now_c hZ hP (show p ≤ 7 by omega) (show t ≤ 2 by omega), sv_s, mix_e, pu, nI_succ]
  · simp [show (3 : Int32) ≤ nI 3 by decide, pdv, nI_succ p]
theorem locks_dc {Z : Shp} {M : Mem} (hZ : OKZ Z) (hF : Fix M) (hK : ILock M) {l : Nat} (hl : l < 7) (h : Int64) : Option.bind (loop (fun s30 : Int64 × Int32 => (if (3 : Int32) ≤ s30.2 then some (Sum.inr s30.1) else (if aok Z (rR M 3 1) 111 (nI l) then (if tg Z (rR M (rR M 3 1) (ix (nI l))) = (5, 7) then (Option.bind (fX4_tell Z M (rR M (rR M 3 1) (ix (nI l))) s30.2) (fun v36 => (pu ((fX11_mix s30.1 (v36.toInt64))) (fun z38 => some (Sum.inl (z38, (s30.2 + (1 : Int32)))))))) else none) else none))) (h, (0 : Int32))) (fun v29 : Int64 => (loop (fun s39 : Int64 × Int32 => (if (4 : Int32) ≤ s39.2 then some (Sum.inr (Sum.inl (β := Int64) (s39.1, (nI l + (1 : Int32))))) else (if aok Z (rR M 3 1) 111 (nI l) then (if tg Z (rR M (rR M 3 1) (ix (nI l))) = (5, 7) then (Option.bind (fX4_standing Z M (rR M (rR M 3 1) (ix (nI l))) s39.2) (fun v45 => (pu ((fX11_mix s39.1 (v45.toInt64))) (fun z47 => some (Sum.inl (z47, (s39.2 + (1 : Int32)))))))) else none) else none))) (v29, (0 : Int32)))) = some (Sum.inl (lkd M l h, nI (l + 1))) := by
  have hix : ix (nI l) = l := ix_nI (by omega)
  have a5 : aok Z 5 111 (nI l) := aok_nI (tg_5 hZ) (by omega) (by decide)
  refine bindL (loop_for (fun t => (sv (lkv M l) h t, nI t)) 3 (r := sv (lkv M l) h 3) rfl (fun t ht => ?_) (by simp [show (3 : Int32) ≤ nI 3 by decide])) ?_
  · have hle : ¬ (3 : Int32) ≤ nI t := nlit ht rfl (by decide)
    obtain ⟨k0, k1, k2, -⟩ := hK l hl
    have htl : fX4_tell Z M (17 + l) (nI t) = some (lkv M l t) := by
      have h3 : t = 0 ∨ t = 1 ∨ t = 2 := by omega
      rcases h3 with rfl | rfl | rfl
      · simp [fX4_tell, tg_l hZ hl, show nI 0 = 0 from rfl, k0, lkv]
      · by_cases q : rI M 56 l = 0
        · simp [fX4_tell, tg_l hZ hl, show nI 1 = 1 from rfl, k1, lkv, q]
        · simp [fX4_tell, tg_l hZ hl, show nI 1 = 1 from rfl, k1, lkv, q]
      · simp [fX4_tell, tg_l hZ hl, show nI 2 = 2 from rfl, k2, lkv]
    simp [hle, fr_3_1 hF, if_pos a5, hix, fr_l hF hl, tg_l hZ hl, htl, sv_s, mix_e, pu, nI_succ]
  · have hd : lkd M l h = sv (fun t => rI M (58 + t) l) (sv (lkv M l) h 3) 4 := rfl
    rw [hd]
    generalize sv (lkv M l) h 3 = h1
    refine loop_for (fun t => (sv (fun t => rI M (58 + t) l) h1 t, nI t)) 4 rfl (fun t ht => ?_) ?_
    · have hle : ¬ (4 : Int32) ≤ nI t := nlit ht rfl (by decide)
      simp [hle, fr_3_1 hF, if_pos a5, hix, fr_l hF hl, tg_l hZ hl, (standing hZ hF hK (show l ≤ 6 by omega) (show t ≤ 3 by omega)).1, sv_s, mix_e, pu, nI_succ]
    · simp [show (4 : Int32) ≤ nI 4 by decide, nI_succ l]
theorem takers_dc {Z : Shp} {M : Mem} (hZ : OKZ Z) (hF : Fix M) {tn : Nat} (htn : tn ≤ 12) (t1 : rI M 3 5 = nI tn) (t3 : ∀ k, k < tn → tkOk Z M k) (h : Int64) : fX3_addTakersTo Z M 3 h = some (hs (tkd M) h tn) := by
  unfold fX3_addTakersTo
  refine loop_for (fun k => (hs (tkd M) h k, nI k)) tn rfl (fun k hk => ?_) (by simp [tg_3 hZ, t1])
  have hle := nle hk (by omega)
  have hix : ix (nI k) = k := ix_nI (by omega)
  have a6 : aok Z 6 112 (nI k) := aok_nI (tg_6 hZ) (by omega) (by decide)
  obtain ⟨⟨g1, g2⟩, e0, e1, e2, e3, e4, -⟩ := t3 k hk
  rw [hs_s]
  generalize hs (tkd M) h k = h1
  simp [tg_3 hZ, t1, hle, fr_3_2 hF, if_pos a6, hix, g2, pu, mix_e, e0, e1, e2, e3, e4, tkd, nI_succ]
theorem boats_dc {Z : Shp} {M : Mem} (hZ : OKZ Z) (hF : Fix M) {bn : Nat} (hbn : bn ≤ 12) (b1 : rI M 3 6 = nI bn) (b3 : ∀ k, k < bn → btOk Z M k) (h0 : Int64) : fX3_addBoatsTo Z M 3 h0 = some (hs (btd Z M) h0 bn) := by
  unfold fX3_addBoatsTo
  refine loop_for (fun k => (hs (btd Z M) h0 k, nI k)) bn rfl (fun k hk => ?_) (by simp [tg_3 hZ, b1])
  have hle := nle hk (by omega)
  have hix : ix (nI k) = k := ix_nI (by omega)
  have a8 : aok Z 8 113 (nI k) := aok_nI (tg_8 hZ) (by omega) (by decide)
  have hB := b3 k hk
  obtain ⟨⟨g1, g2⟩, e0, e1, e2, e3, e4, -⟩ := id hB
  rw [hs_s]
  generalize hs (btd Z M) h0 k = h1
  dsimp only
  rw [if_pos (tg_3 hZ), b1, if_neg hle, fr_3_4 hF, if_pos a8, hix]
  simp only [pu]
  refine bindL (loop_for (fun t => (sv (atv Z M k) h1 t, nI t)) 5 (r := sv (atv Z M k) h1 5) rfl (fun t ht => ?_) (by simp [show (5 : Int32) ≤ nI 5 by decide])) ?_
  · have hle : ¬ (5 : Int32) ≤ nI t := nlit ht rfl (by decide)
    obtain ⟨r, r1, r2⟩ := at_c hZ hF (show k < 12 by omega) hB (show t ≤ 4 by omega)
    have r3 : atv Z M k t = r := by rw [atv, r2]; rfl
    simp [hle, g2, r1, mix_e, sv_s, r3, nI_succ]
  · simp [g2, mix_e, e1, e3, e4, btd, nI_succ k]
theorem line_dc {Z : Shp} {M : Mem} (hZ : OKZ Z) (hF : Fix M) (hP : IPound M) (hL : ILine M) (hK : ILock M) {tn bn : Nat} (htn : tn ≤ 12) (hbn : bn ≤ 12) (t1 : rI M 3 5 = nI tn) (t3 : ∀ k, k < tn → tkOk Z M k) (b1 : rI M 3 6 = nI bn) (b3 : ∀ k, k < bn → btOk Z M k) (h : Int64) : fX3_addTo Z M 3 h = some (dLine Z M tn bn h) := by
  obtain ⟨⟨s, -, -, s1, s2⟩, -⟩ := hL
  unfold fX3_addTo
  rw [if_pos (tg_3 hZ), pu, mix_e, s1, ← s2]
  unfold dLine
  refine bindL (pounds_dc hZ hF hP _) ?_
  generalize hs (pdv M) (31 * h + (rI M 51 3).toInt64) 8 = h1
  refine loop_for (fun l => (hs (lkd M) h1 l, nI l)) 7 rfl (fun l hl => ?_) ?_
  · have hle : ¬ (7 : Int32) ≤ nI l := nlit hl rfl (by decide)
    have := locks_dc hZ hF hK hl (hs (lkd M) h1 l)
    dsimp only
    rw [if_neg hle, hs_s]
    exact this
  · dsimp only
    rw [if_pos (by decide), takers_dc hZ hF htn t1 t3, Option.bind_some, boats_dc hZ hF hbn b1 b3, Option.bind_some]
theorem texts_dc {Z : Shp} {M : Mem} (hZ : OKZ Z) (hF : Fix M) {t : Nat} (ht : t ≤ 16) (t1 : rI M 24 3 = nI t) (t3 : ∀ x, x < t → txOk Z M x) (h : Int64) : fX2_addTextsTo Z M 24 h = some (hs (txd M) h t) := by
  unfold fX2_addTextsTo
  refine loop_for (fun k => (hs (txd M) h k, nI k)) t rfl (fun k hk => ?_) (by simp [tg_24 hZ, t1])
  have hle := nle hk (by omega)
  have hix : ix (nI k) = k := ix_nI (by omega)
  have a26 : aok Z 26 114 (nI k) := aok_nI (tg_26 hZ) (by omega) (by decide)
  obtain ⟨⟨g1, g2⟩, e0, e1, e2, e3, -⟩ := t3 k hk
  rw [hs_s]
  generalize hs (txd M) h k = h1
  simp [tg_24 hZ, t1, hle, fr_24_2 hF, if_pos a26, hix, g2, pu, mix_e, e1, e2, e3, txd, nI_succ]
theorem comers_dc {Z : Shp} {M : Mem} (hZ : OKZ Z) (hF : Fix M) {n : Nat} (hn : n ≤ 8) (h1 : rI M 27 3 = nI n) (e1 : ∀ k, rI M 28 k = rI M 90 k) (e2 : ∀ k, rI M 29 k = rI M 91 k) (e3 : ∀ k, rI M 30 k = rI M 92 k) (h : Int64) : fX9_addTo Z M 27 h = some (hs (cmd M) h n) := by
  unfold fX9_addTo
  refine loop_for (fun k => (hs (cmd M) h k, nI k)) n rfl (fun k hk => ?_) (by simp [tg_27 hZ, h1])
  have hle := nle hk (by omega)
  have hix : ix (nI k) = k := ix_nI (by omega)
  have a28 : aok Z 28 101 (nI k) := aok_nI (tg_28 hZ) (by omega) (by decide)
  have a29 : aok Z 29 100 (nI k) := aok_nI (tg_29 hZ) (by omega) (by decide)
  have a30 : aok Z 30 100 (nI k) := aok_nI (tg_30 hZ) (by omega) (by decide)
  rw [hs_s]
  generalize hs (cmd M) h k = h2
  by_cases q : rI M 90 k = 0
  · simp [tg_27 hZ, h1, hle, fr_27_0 hF, fr_27_1 hF, fr_27_2 hF, if_pos a28, if_pos a29, if_pos a30, hix, pu, mix_e, e1, e2, e3, q, cmd, nI_succ]
  · simp [tg_27 hZ, h1, hle, fr_27_0 hF, fr_27_1 hF, fr_27_2 hF, if_pos a28, if_pos a29, if_pos a30, hix, pu, mix_e, e1, e2, e3, q, cmd, nI_succ]
theorem banks_dc {Z : Shp} {M : Mem} (hZ : OKZ Z) (hF : Fix M) {n : Nat} (hn : n ≤ 10) (h1 : rI M 32 2 = nI n) (e33 : ∀ k, rI M 33 k = rI M 95 k) (e34 : ∀ k, rI M 34 k = rI M 96 k) (hr : ∀ p, p < 8 → (rI M 35 p = 0 ∧ rI M 97 p = -1) ∨ (rI M 35 p = 1 ∧ rI M 36 p = rI M 97 p ∧ rI M 37 p = rI M 98 p ∧ 0 ≤ (rI M 97 p).toInt ∧ (rI M 97 p).toInt ≤ 9999 ∧ 0 ≤ (rI M 98 p).toInt ∧ (rI M 98 p).toInt ≤ 99)) (h : Int64) : fX0_addTo Z M 32 h = some (hs (rdd M) (hs (bkd M) h n) 8) := by
  unfold fX0_addTo
  refine bindL (loop_for (fun k => (hs (bkd M) h k, nI k)) n (r := hs (bkd M) h n) rfl (fun k hk => ?_) (by simp [tg_32 hZ, h1])) ?_
  · have hle := nle hk (by omega)
    have hix : ix (nI k) = k := ix_nI (by omega)
    have a33 : aok Z 33 100 (nI k) := aok_nI (tg_33 hZ) (by omega) (by decide)
    have a34 : aok Z 34 100 (nI k) := aok_nI (tg_34 hZ) (by omega) (by decide)
    rw [hs_s]
    generalize hs (bkd M) h k = h2
    simp [tg_32 hZ, h1, hle, fr_32_0 hF, fr_32_1 hF, if_pos a33, if_pos a34, hix, pu, mix_e, e33, e34, bkd, nI_succ]
  · generalize hs (bkd M) h n = h2
    refine loop_for (fun k => (hs (rdd M) h2 k, nI k)) 8 rfl (fun k hk => ?_) (by simp [show (8 : Int32) ≤ nI 8 by decide])
    have hle := n8 hk
    have hix : ix (nI k) = k := ix_nI (by omega)
    have a35 : aok Z 35 101 (nI k) := aok_nI (tg_35 hZ) (by omega) (by decide)
    have a36 : aok Z 36 100 (nI k) := aok_nI (tg_36 hZ) (by omega) (by decide)
    have a37 : aok Z 37 100 (nI k) := aok_nI (tg_37 hZ) (by omega) (by decide)
    rw [hs_s]
    generalize hs (rdd M) h2 k = h3
    rcases hr k hk with ⟨g1, g2⟩ | ⟨g1, g2, g3, g4, -⟩
    · simp [hle, tg_32 hZ, fr_32_3 hF, if_pos a35, hix, g1, rdd, g2, nI_succ]
    · have g8 : ¬ rI M 97 k = -1 := fun h => by
        rw [h] at g4
        exact absurd g4 (by decide)
      simp [hle, tg_32 hZ, fr_32_3 hF, fr_32_4 hF, fr_32_5 hF, if_pos a35, if_pos a36, if_pos a37, hix, g1, g2, g3, rdd, g8, pu, mix_e, nI_succ]
theorem works_dc {Z : Shp} {M : Mem} (hZ : OKZ Z) (hF : Fix M) {n : Nat} (hn : n ≤ 8) (h1 : rI M 47 3 = nI n) (e1 : ∀ k, rI M 48 k = rI M 107 k) (e2 : ∀ k, rI M 49 k = rI M 108 k) (e3 : ∀ k, rI M 50 k = rI M 109 k) (h : Int64) : fX10_addTo Z M 47 h = some (hs (wkd M) h n) := by
  unfold fX10_addTo
  refine loop_for (fun k => (hs (wkd M) h k, nI k)) n rfl (fun k hk => ?_) (by simp [tg_47 hZ, h1])
  have hle := nle hk (by omega)
  have hix : ix (nI k) = k := ix_nI (by omega)
  have a48 : aok Z 48 100 (nI k) := aok_nI (tg_48 hZ) (by omega) (by decide)
  have a49 : aok Z 49 100 (nI k) := aok_nI (tg_49 hZ) (by omega) (by decide)
  have a50 : aok Z 50 100 (nI k) := aok_nI (tg_50 hZ) (by omega) (by decide)
  rw [hs_s]
  generalize hs (wkd M) h k = h2
  simp [tg_47 hZ, h1, hle, fr_47_0 hF, fr_47_1 hF, fr_47_2 hF, if_pos a48, if_pos a49, if_pos a50, hix, pu, mix_e, e1, e2, e3, wkd, nI_succ]
theorem page_dc {Z : Shp} {M : Mem} (hZ : OKZ Z) (hF : Fix M) {n : Nat} (hn : n ≤ 60) (h1 : rI M 24 1 = nI n) (e1 : ∀ k, rI M 25 k = rI M 78 k) (h : Int64) : fX2_addPageTo Z M 24 h = some (sv (rI M 78) h n) := by
  unfold fX2_addPageTo
  refine loop_for (fun k => (sv (rI M 78) h k, nI k)) n rfl (fun k hk => ?_) (by simp [tg_24 hZ, h1])
  have hle := nle hk (by omega)
  have hix : ix (nI k) = k := ix_nI (by omega)
  have a25 : aok Z 25 102 (nI k) := aok_nI (tg_25 hZ) (by omega) (by decide)
  rw [sv_s]
  generalize sv (rI M 78) h k = h2
  simp [tg_24 hZ, h1, hle, fr_24_0 hF, if_pos a25, hix, pu, mix_e, e1, nI_succ]
def hdv (M : Mem) (n : Nat) (p : Nat) : Int32 := hd M (nI p) 99 n
theorem money_dc {Z : Shp} {M : Mem} (hZ : OKZ Z) (hF : Fix M) (hO : IOwed M) (hD : IDebt M) (hR : IRate M) {n : Nat} (hh : ∀ p, p < 6 → fX5_held Z M 39 (nI p) 99 = some (hdv M n p)) (h : Int64) : fX5_addTo Z M 39 h = some (31 * (sv (hdv M n) (sv (rI M 101) (sv (rI M 99) h 4) 12) 6) + (rI M 51 80).toInt64) := by
  unfold fX5_addTo
  refine bindL (loop_for (fun k => (sv (rI M 99) h k, nI k)) 4 (r := sv (rI M 99) h 4) rfl (fun k hk => ?_) (by simp [show (4 : Int32) ≤ nI 4 by decide])) ?_
  · have hle : ¬ (4 : Int32) ≤ nI k := nlit hk rfl (by decide)
    have hix : ix (nI k) = k := ix_nI (by omega)
    have a40 : aok Z 40 100 (nI k) := aok_nI (tg_40 hZ) (by omega) (by decide)
    rw [sv_s]
    generalize sv (rI M 99) h k = h2
    simp [hle, tg_39 hZ, fr_39_0 hF, if_pos a40, hix, pu, mix_e, hO.1, nI_succ]
  generalize sv (rI M 99) h 4 = h2
  refine bindL (loop_for (fun k => (sv (rI M 101) h2 k, nI k)) 12 (r := sv (rI M 101) h2 12) rfl (fun k hk => ?_) (by simp [show (12 : Int32) ≤ nI 12 by decide])) ?_
  · have hle : ¬ (12 : Int32) ≤ nI k := nlit hk rfl (by decide)
    have hix : ix (nI k) = k := ix_nI (by omega)
    have a41 : aok Z 41 100 (nI k) := aok_nI (tg_41 hZ) (by omega) (by decide)
    rw [sv_s]
    generalize sv (rI M 101) h2 k = h3
    simp [hle, tg_39 hZ, fr_39_1 hF, if_pos a41, hix, pu, mix_e, hD.1, nI_succ]
  generalize sv (rI M 101) h2 12 = h3
  refine loop_for (fun k => (sv (hdv M n) h3 k, nI k)) 6 rfl (fun k hk => ?_) (by simp [show (6 : Int32) ≤ nI 6 by decide, tg_39 hZ, mix_e, hR.1])
  have hle : ¬ (6 : Int32) ≤ nI k := nlit hk rfl (by decide)
  rw [sv_s]
  generalize sv (hdv M n) h3 k = h4
  simp [hle, tg_39 hZ, hh k hk, pu, mix_e, nI_succ]
