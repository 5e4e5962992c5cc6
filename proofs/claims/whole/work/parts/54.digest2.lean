/-! digest: the model -/
theorem hI_t {M : Mem} {h : Int64} : ∀ a k, rI (hM M h) a k = rI M a k := fun _ _ => rfl
theorem at_h (Z : Shp) (M : Mem) (h : Int64) (x y : Int32) : fX12_atOf Z (hM M h) 51 x y = fX12_atOf Z M 51 x y := rfl
theorem ct_h (Z : Shp) (M : Mem) (h : Int64) (x : Int32) : fX12_countOf Z (hM M h) 51 x = fX12_countOf Z M 51 x := rfl
theorem hd_h (Z : Shp) (M : Mem) (h : Int64) (x y : Int32) : fX12_hadOf Z (hM M h) 51 x y = fX12_hadOf Z M 51 x y := rfl
theorem lo_h (Z : Shp) (M : Mem) (h : Int64) (x y : Int32) : fX12_lockOf Z (hM M h) 51 x y = fX12_lockOf Z M 51 x y := rfl
theorem no_h (Z : Shp) (M : Mem) (h : Int64) (x y : Int32) : fX12_nowOf Z (hM M h) 51 x y = fX12_nowOf Z M 51 x y := rfl
theorem sm_h (Z : Shp) (M : Mem) (h : Int64) (x : Int32) : fX12_sumOf Z (hM M h) 51 x = fX12_sumOf Z M 51 x := by
  unfold fX12_sumOf
  rw [rJ_hM M h (a := 51) (k := 12) (by decide), rJ_hM M h (a := 51) (k := 13) (by decide), rJ_hM M h (a := 51) (k := 14) (by decide)]
  rfl
noncomputable def dSum (Z : Shp) (M : Mem) (h : Int64) : Int64 := hs (fun k h => 31 * h + smv Z M k) h 5
theorem line_dm {Z : Shp} {M : Mem} (hZ : OKZ Z) (hF : Fix M) (hK : ILock M) {tn bn : Nat} (htn : tn ≤ 12) (hbn : bn ≤ 12) (t2 : rI M 51 15 = nI tn) (b2 : rI M 51 21 = nI bn) (b3 : ∀ k, k < bn → btOk Z M k) (hsm : ∀ t, t < 5 → fX12_sumOf Z M 51 (nI t) = some (smv Z M t)) (h : Int64) : fX12_tellLine Z (hM M h) 51 = some (hM M (dSum Z M (dLine Z M tn bn h))) := by
  unfold fX12_tellLine dLine
  rw [if_pos (tg_51 hZ), rI_hM, tell_m hZ, Option.bind_some]
  generalize 31 * h + (rI M 51 3).toInt64 = h0
  refine bindL (loop_for (fun p => (nI p, hM M (hs (pdv M) h0 p))) 8 (r := hM M (hs (pdv M) h0 8)) rfl (fun p hp => ?_) (by simp [show (8 : Int32) ≤ nI 8 by decide])) ?_
  · dsimp only
    rw [if_neg (n8 hp), hs_s]
    generalize hs (pdv M) h0 p = h1
    refine loop_for (fun t => (nI t, hM M (sv (fun t => rI M (52 + t) p) h1 t))) 3 rfl (fun t ht => ?_) ?_
    · have hle : ¬ (3 : Int32) ≤ nI t := nlit ht rfl (by decide)
      simp [hle, no_h, now_m hZ hF (show p ≤ 7 by omega) (show t ≤ 2 by omega), tell_m hZ, sv_s, nI_succ]
    · simp [show (3 : Int32) ≤ nI 3 by decide, pdv, nI_succ p]
  generalize hs (pdv M) h0 8 = h1
  refine bindL (loop_for (fun l => (nI l, hM M (hs (lkd M) h1 l))) 7 (r := hM M (hs (lkd M) h1 7)) rfl (fun l hl => ?_) (by simp [show (7 : Int32) ≤ nI 7 by decide])) ?_
  · have hle : ¬ (7 : Int32) ≤ nI l := nlit hl rfl (by decide)
    have hix : ix (nI l) = l := ix_nI (by omega)
    have a55 : aok Z 55 100 (nI l) := aok_nI (tg_55 hZ) (by omega) (by decide)
    have a56 : aok Z 56 101 (nI l) := aok_nI (tg_56 hZ) (by omega) (by decide)
    have a57 : aok Z 57 100 (nI l) := aok_nI (tg_57 hZ) (by omega) (by decide)
    dsimp only
    rw [if_neg hle, hs_s]
    generalize hs (lkd M) h1 l = h2
    have hb : (if rI M 56 l = 0 then some (0 : Int64) else some 1) = some (lkv M l 1).toInt64 := by
      by_cases q : rI M 56 l = 0
      · rw [if_pos q, lkv, if_pos q]; rfl
      · rw [if_neg q, lkv, if_neg q]; rfl
    rw [rR_hM, fr_51_4 hF, if_pos a55, hix, rI_hM, tell_m hZ, Option.bind_some, rR_hM, fr_51_5 hF, if_pos a56, rI_hM, hb, Option.bind_some, tell_m hZ, Option.bind_some, rR_hM, fr_51_6 hF, if_pos a57, rI_hM, tell_m hZ, Option.bind_some]
    have e3 : 31 * (31 * (31 * h2 + (rI M 55 l).toInt64) + (lkv M l 1).toInt64) + (rI M 57 l).toInt64 = sv (lkv M l) h2 3 := rfl
    have hd : lkd M l h2 = sv (fun t => rI M (58 + t) l) (sv (lkv M l) h2 3) 4 := rfl
    rw [e3, hd]
    generalize sv (lkv M l) h2 3 = h3
    refine loop_for (fun t => (nI t, hM M (sv (fun t => rI M (58 + t) l) h3 t))) 4 rfl (fun t ht => ?_) ?_
    · have hle : ¬ (4 : Int32) ≤ nI t := nlit ht rfl (by decide)
      simp [hle, lo_h, (standing hZ hF hK (show l ≤ 6 by omega) (show t ≤ 3 by omega)).2, tell_m hZ, sv_s, nI_succ]
    · simp [show (4 : Int32) ≤ nI 4 by decide, nI_succ l]
  generalize hs (lkd M) h1 7 = h2
  refine bindL (loop_for (fun k => (nI k, hM M (hs (tkd M) h2 k))) tn (r := hM M (hs (tkd M) h2 tn)) rfl (fun k hk => ?_) (by simp [rI_hM, t2])) ?_
  · have hle := nle hk (by omega)
    have hix : ix (nI k) = k := ix_nI (by omega)
    have a62 : aok Z 62 100 (nI k) := aok_nI (tg_62 hZ) (by omega) (by decide)
    have a63 : aok Z 63 100 (nI k) := aok_nI (tg_63 hZ) (by omega) (by decide)
    have a64 : aok Z 64 100 (nI k) := aok_nI (tg_64 hZ) (by omega) (by decide)
    have a65 : aok Z 65 100 (nI k) := aok_nI (tg_65 hZ) (by omega) (by decide)
    have a66 : aok Z 66 100 (nI k) := aok_nI (tg_66 hZ) (by omega) (by decide)
    rw [hs_s]
    generalize hs (tkd M) h2 k = h3
    simp [rI_hM, rR_hM, t2, hle, fr_51_16 hF, fr_51_17 hF, fr_51_18 hF, fr_51_19 hF, fr_51_20 hF, if_pos a62, if_pos a63, if_pos a64, if_pos a65, if_pos a66, hix, tell_m hZ, tkd, nI_succ]
  generalize hs (tkd M) h2 tn = h3
  refine bindL (loop_for (fun k => (nI k, hM M (hs (btd Z M) h3 k))) bn (r := hM M (hs (btd Z M) h3 bn)) rfl (fun k hk => ?_) (by simp [rI_hM, b2])) ?_
  · have hle := nle hk (by omega)
    have hix : ix (nI k) = k := ix_nI (by omega)
    have a69 : aok Z 69 100 (nI k) := aok_nI (tg_69 hZ) (by omega) (by decide)
    have a71 : aok Z 71 100 (nI k) := aok_nI (tg_71 hZ) (by omega) (by decide)
    have a72 : aok Z 72 100 (nI k) := aok_nI (tg_72 hZ) (by omega) (by decide)
    have hB := b3 k hk
    dsimp only
    rw [rI_hM, b2, if_neg hle, hs_s]
    generalize hs (btd Z M) h3 k = h4
    refine bindL (loop_for (fun t => (nI t, hM M (sv (atv Z M k) h4 t))) 5 (r := hM M (sv (atv Z M k) h4 5)) rfl (fun t ht => ?_) (by simp [show (5 : Int32) ≤ nI 5 by decide])) ?_
    · have hle : ¬ (5 : Int32) ≤ nI t := nlit ht rfl (by decide)
      obtain ⟨r, r1, r2⟩ := at_c hZ hF (show k < 12 by omega) hB (show t ≤ 4 by omega)
      have r3 : atv Z M k t = r := by rw [atv, r2]; rfl
      simp [hle, at_h, r2, tell_m hZ, sv_s, r3, nI_succ]
    · have hd : btd Z M k h4 = 31 * (31 * (31 * (sv (atv Z M k) h4 5) + (rI M 69 k).toInt64) + (rI M 71 k).toInt64) + (rI M 72 k).toInt64 := rfl
      rw [hd]
      generalize sv (atv Z M k) h4 5 = h5
      simp [rI_hM, rR_hM, fr_51_24 hF, fr_51_26 hF, fr_51_27 hF, if_pos a69, if_pos a71, if_pos a72, hix, tell_m hZ, nI_succ k]
  generalize hs (btd Z M) h3 bn = h4
  unfold dSum
  refine loop_for (fun k => (nI k, hM M (hs (fun k h => 31 * h + smv Z M k) h4 k))) 5 rfl (fun k hk => ?_) (by simp [show (5 : Int32) ≤ nI 5 by decide])
  have hle : ¬ (5 : Int32) ≤ nI k := nlit hk rfl (by decide)
  rw [hs_s]
  generalize hs (fun k h => 31 * h + smv Z M k) h4 k = h5
  simp [hle, sm_h, hsm k hk, tell_m hZ, nI_succ k]
def dMoney (M : Mem) (t c b s w : Nat) (h : Int64) : Int64 := hs (wkd M) (31 * (sv (hdv M s) (sv (rI M 101) (sv (rI M 99) (hs (rdd M) (hs (bkd M) (hs (cmd M) (hs (txd M) h t) c) b) 8) 4) 12) 6) + (rI M 51 80).toInt64) w
theorem money_dm {Z : Shp} {M : Mem} (hZ : OKZ Z) (hF : Fix M) {t c b s w : Nat} (ht : t ≤ 16) (hc : c ≤ 8) (hb : b ≤ 10) (hw : w ≤ 8) (t2 : rI M 51 35 = nI t) (c2 : rI M 51 57 = nI c) (b2 : rI M 51 66 = nI b) (w2 : rI M 51 81 = nI w) (hh : ∀ p, p < 6 → fX12_hadOf Z M 51 (nI p) 99 = some (hdv M s p)) (h : Int64) : fX12_tellMoney Z (hM M h) 51 = some (hM M (dMoney M t c b s w h)) := by
  unfold fX12_tellMoney dMoney
  refine bindL (loop_for (fun k => (nI k, hM M (hs (txd M) h k))) t (r := hM M (hs (txd M) h t)) rfl (fun k hk => ?_) (by simp [tg_51 hZ, rI_hM, t2])) ?_
  · have hle := nle hk (by omega)
    have hix : ix (nI k) = k := ix_nI (by omega)
    have a80 : aok Z 80 100 (nI k) := aok_nI (tg_80 hZ) (by omega) (by decide)
    have a81 : aok Z 81 100 (nI k) := aok_nI (tg_81 hZ) (by omega) (by decide)
    have a82 : aok Z 82 100 (nI k) := aok_nI (tg_82 hZ) (by omega) (by decide)
    rw [hs_s]
    generalize hs (txd M) h k = h1
    simp [tg_51 hZ, rI_hM, rR_hM, t2, hle, fr_51_38 hF, fr_51_39 hF, fr_51_37 hF, if_pos a80, if_pos a81, if_pos a82, hix, tell_m hZ, txd, nI_succ]
  generalize hs (txd M) h t = h1
  refine bindL (loop_for (fun k => (nI k, hM M (hs (cmd M) h1 k))) c (r := hM M (hs (cmd M) h1 c)) rfl (fun k hk => ?_) (by simp [tg_51 hZ, rI_hM, c2])) ?_
  · have hle := nle hk (by omega)
    have hix : ix (nI k) = k := ix_nI (by omega)
    have a90 : aok Z 90 101 (nI k) := aok_nI (tg_90 hZ) (by omega) (by decide)
    have a91 : aok Z 91 100 (nI k) := aok_nI (tg_91 hZ) (by omega) (by decide)
    have a92 : aok Z 92 100 (nI k) := aok_nI (tg_92 hZ) (by omega) (by decide)
    rw [hs_s]
    generalize hs (cmd M) h1 k = h2
    by_cases q : rI M 90 k = 0
    · simp [tg_51 hZ, rI_hM, rR_hM, c2, hle, fr_51_58 hF, fr_51_59 hF, fr_51_60 hF, if_pos a90, if_pos a91, if_pos a92, hix, tell_m hZ, q, cmd, nI_succ]
    · simp [tg_51 hZ, rI_hM, rR_hM, c2, hle, fr_51_58 hF, fr_51_59 hF, fr_51_60 hF, if_pos a90, if_pos a91, if_pos a92, hix, tell_m hZ, q, cmd, nI_succ]
  generalize hs (cmd M) h1 c = h2
  refine bindL (loop_for (fun k => (nI k, hM M (hs (bkd M) h2 k))) b (r := hM M (hs (bkd M) h2 b)) rfl (fun k hk => ?_) (by simp [tg_51 hZ, rI_hM, b2])) ?_
  · have hle := nle hk (by omega)
    have hix : ix (nI k) = k := ix_nI (by omega)
    have a95 : aok Z 95 100 (nI k) := aok_nI (tg_95 hZ) (by omega) (by decide)
    have a96 : aok Z 96 100 (nI k) := aok_nI (tg_96 hZ) (by omega) (by decide)
    rw [hs_s]
    generalize hs (bkd M) h2 k = h3
    simp [tg_51 hZ, rI_hM, rR_hM, b2, hle, fr_51_67 hF, fr_51_68 hF, if_pos a95, if_pos a96, hix, tell_m hZ, bkd, nI_succ]
  generalize hs (bkd M) h2 b = h3
  refine bindL (loop_for (fun k => (nI k, hM M (hs (rdd M) h3 k))) 8 (r := hM M (hs (rdd M) h3 8)) rfl (fun k hk => ?_) (by simp [show (8 : Int32) ≤ nI 8 by decide])) ?_
  · have hle := n8 hk
    have hix : ix (nI k) = k := ix_nI (by omega)
    have a97 : aok Z 97 100 (nI k) := aok_nI (tg_97 hZ) (by omega) (by decide)
    have a98 : aok Z 98 100 (nI k) := aok_nI (tg_98 hZ) (by omega) (by decide)
    rw [hs_s]
    generalize hs (rdd M) h3 k = h4
    by_cases q : rI M 97 k = -1
    · simp [hle, tg_51 hZ, rI_hM, rR_hM, fr_51_69 hF, if_pos a97, hix, q, rdd, nI_succ]
    · simp [hle, tg_51 hZ, rI_hM, rR_hM, fr_51_69 hF, fr_51_70 hF, if_pos a97, if_pos a98, hix, tell_m hZ, q, rdd, nI_succ]
  generalize hs (rdd M) h3 8 = h4
  refine bindL (loop_for (fun k => (nI k, hM M (sv (rI M 99) h4 k))) 4 (r := hM M (sv (rI M 99) h4 4)) rfl (fun k hk => ?_) (by simp [show (4 : Int32) ≤ nI 4 by decide])) ?_
  · have hle : ¬ (4 : Int32) ≤ nI k := nlit hk rfl (by decide)
    have hix : ix (nI k) = k := ix_nI (by omega)
    have a99 : aok Z 99 100 (nI k) := aok_nI (tg_99 hZ) (by omega) (by decide)
    rw [sv_s]
    generalize sv (rI M 99) h4 k = h5
    simp [hle, tg_51 hZ, rI_hM, rR_hM, fr_51_71 hF, if_pos a99, hix, tell_m hZ, nI_succ]
  generalize sv (rI M 99) h4 4 = h5
  refine bindL (loop_for (fun k => (nI k, hM M (sv (rI M 101) h5 k))) 12 (r := hM M (sv (rI M 101) h5 12)) rfl (fun k hk => ?_) (by simp [show (12 : Int32) ≤ nI 12 by decide])) ?_
  · have hle : ¬ (12 : Int32) ≤ nI k := nlit hk rfl (by decide)
    have hix : ix (nI k) = k := ix_nI (by omega)
    have a101 : aok Z 101 100 (nI k) := aok_nI (tg_101 hZ) (by omega) (by decide)
    rw [sv_s]
    generalize sv (rI M 101) h5 k = h6
    simp [hle, tg_51 hZ, rI_hM, rR_hM, fr_51_73 hF, if_pos a101, hix, tell_m hZ, nI_succ]
  generalize sv (rI M 101) h5 12 = h6
  refine bindL (loop_for (fun k => (nI k, hM M (sv (hdv M s) h6 k))) 6 (r := hM M (sv (hdv M s) h6 6)) rfl (fun k hk => ?_) (by simp [show (6 : Int32) ≤ nI 6 by decide])) ?_
  · have hle : ¬ (6 : Int32) ≤ nI k := nlit hk rfl (by decide)
    rw [sv_s]
    generalize sv (hdv M s) h6 k = h7
    simp [hle, tg_51 hZ, hd_h, hh k hk, tell_m hZ, nI_succ]
  generalize sv (hdv M s) h6 6 = h7
  rw [if_pos (tg_51 hZ), rI_hM, tell_m hZ, Option.bind_some]
  generalize 31 * h7 + (rI M 51 80).toInt64 = h8
  refine loop_for (fun k => (nI k, hM M (hs (wkd M) h8 k))) w rfl (fun k hk => ?_) (by simp [rI_hM, w2])
  have hle := nle hk (by omega)
  have hix : ix (nI k) = k := ix_nI (by omega)
  have a107 : aok Z 107 100 (nI k) := aok_nI (tg_107 hZ) (by omega) (by decide)
  have a108 : aok Z 108 100 (nI k) := aok_nI (tg_108 hZ) (by omega) (by decide)
  have a109 : aok Z 109 100 (nI k) := aok_nI (tg_109 hZ) (by omega) (by decide)
  rw [hs_s]
  generalize hs (wkd M) h8 k = h9
  simp [rI_hM, rR_hM, w2, hle, fr_51_82 hF, fr_51_83 hF, fr_51_84 hF, if_pos a107, if_pos a108, if_pos a109, hix, tell_m hZ, wkd, nI_succ]
theorem op_digest {Z : Shp} {M : Mem} (hZ : OKZ Z) (hF : Fix M) (hP : IPound M) (hL : ILine M) (hK : ILock M) (hT : ITak Z M) (hO : ITook M) (hB : IBoat Z M) (hPg : IPage M) (hX : ITexts Z M) (hC : ICome M) (hBk : IBanks M) (hOw : IOwed M) (hD : IDebt M) (hR : IRate M) (hS : IShare M) (hW : IWorks M) (hA : rI M 27 4 = rI M 51 61) : ∃ r M2, fX11_digest Z M 2 = some r ∧ fX12_digest Z M 51 = some (r, M2) ∧ Wr Z [(51, some 85)] [] [] M M2 := by
  obtain ⟨tn, htn, t1, t2, t3, -⟩ := id hT
  obtain ⟨bn, hbn, b1, b2, b3, -⟩ := id hB
  obtain ⟨pn, hpn, p1, p2, p3, -⟩ := id hPg
  obtain ⟨xn, hxn, x1, x2, x3, -⟩ := id hX
  obtain ⟨cn, hcn, c1, c2, c3, c4, c5, -⟩ := id hC
  obtain ⟨kn, hkn, k1, k2, k3, k4, -, k5⟩ := id hBk
  obtain ⟨sn, hsn, s1, s2, s3, s4, s5, s6, s7, s8, s9, s10⟩ := id hS
  obtain ⟨wn, hwn, w1, w2, w3, w4, w5, -⟩ := id hW
  have hsum : ∀ t, t < 5 → fX11_sum Z M 2 (nI t) = some (smv Z M t) ∧ fX12_sumOf Z M 51 (nI t) = some (smv Z M t) := by
    intro t ht
    obtain ⟨r, r1, r2⟩ := op_sum hZ hF hP hL hK hT hO (nI t)
    have hin : ¬ fX11_within (nI t) 0 4 = 0 := w_of (by rw [nI_toInt (by omega)]; exact Int.natCast_nonneg _) (by rw [nI_toInt (by omega), show (4 : Int32).toInt = 4 by decide]; omega)
    have r3 : fX12_sumOf Z M 51 (nI t) = some r := by
      simp only [fX12_sum, in_m1_e, in_0_e, in_0_1, in_0_2, in_0_23, in_0_3, in_0_4, in_0_40, in_0_5, in_0_50, in_0_599, in_0_6, in_0_7, in_0_9, in_0_99, in_0_999, in_0_9999, in_0_99999, in_0_999999, in_1_100, in_1_200, in_1_6, in_1_9, in_1_999, in_10_17, in_10_200, in_48_57, in_6_17, in_e_99, in_e_9999, in_within, if_neg hin, if_pos (tg_51 hZ)] at r2
      cases hq : fX12_sumOf Z M 51 (nI t) with
      | none => rw [hq] at r2; cases r2
      | some y => rw [hq] at r2; exact r2
    have r4 : smv Z M t = r := by rw [smv, r3]; rfl
    rw [r4]
    exact ⟨r1, r3⟩
  have hcnt : ∀ t, t < 12 → fX11_count Z M 2 (nI t) = some (ctv Z M t) ∧ fX12_countOf Z M 51 (nI t) = some (ctv Z M t) := by
    intro t ht
    obtain ⟨r, r1, r2⟩ := op_count hZ hF hL hT hB hPg hC hBk hS hW (by rw [x1, x2]) hA (nI t)
    have r3 : fX12_countOf Z M 51 (nI t) = some r := by
      simp only [fX12_count, if_pos (tg_51 hZ)] at r2
      cases hq : fX12_countOf Z M 51 (nI t) with
      | none => rw [hq] at r2; cases r2
      | some y => rw [hq] at r2; exact r2
    have r4 : ctv Z M t = r := by rw [ctv, r3]; rfl
    rw [r4]
    exact ⟨r1, r3⟩
  have hhm : ∀ p, p < 6 → fX12_hadOf Z M 51 (nI p) 99 = some (hdv M sn p) := fun p hp => had_m hZ hF hsn s2 hp 99
  have hhc : ∀ p, p < 6 → fX5_held Z M 39 (nI p) 99 = some (hdv M sn p) := fun p hp => had_c hZ hF hsn s1 s3 s4 s5 s6 s7 (fun k hk => (s9 k hk).1) s10 hp 99
  refine ⟨sv (ctv Z M) (sv (rI M 78) (dMoney M xn cn kn sn wn (dSum Z M (dLine Z M tn bn 283))) pn) 12, hM M (sv (ctv Z M) (sv (rI M 78) (dMoney M xn cn kn sn wn (dSum Z M (dLine Z M tn bn 283))) pn) 12), ?_, ?_, ⟨fun a k h1 h2 => ⟨rfl, ?_⟩, fun _ _ _ _ => rfl⟩⟩
  · unfold fX11_digest
    rw [if_pos (tg_2 hZ), fr_2_0 hF, if_pos (tg_3 hZ), line_dc hZ hF hP hL hK htn hbn t1 t3 b1 b3, Option.bind_some]
    generalize dLine Z M tn bn 283 = h1
    unfold dSum
    refine bindL (loop_for (fun k => (hs (fun k h => 31 * h + smv Z M k) h1 k, nI k)) 5 (r := hs (fun k h => 31 * h + smv Z M k) h1 5) rfl (fun k hk => ?_) (by simp [show (5 : Int32) ≤ nI 5 by decide])) ?_
    · have hle : ¬ (5 : Int32) ≤ nI k := nlit hk rfl (by decide)
      rw [hs_s]
      generalize hs (fun k h => 31 * h + smv Z M k) h1 k = h2
      simp [hle, (hsum k hk).1, pu, mix_e, nI_succ k]
    generalize hs (fun k h => 31 * h + smv Z M k) h1 5 = h2
    unfold dMoney
    rw [fr_2_1 hF, if_pos (tg_24 hZ), texts_dc hZ hF hxn x1 x3, Option.bind_some]
    generalize hs (txd M) h2 xn = h3
    rw [fr_2_2 hF, if_pos (tg_27 hZ), comers_dc hZ hF hcn c1 c3 c4 c5, Option.bind_some]
    generalize hs (cmd M) h3 cn = h4
    rw [fr_2_3 hF, if_pos (tg_32 hZ), banks_dc hZ hF hkn k1 k3 k4 k5, Option.bind_some]
    generalize hs (rdd M) (hs (bkd M) h4 kn) 8 = h5
    rw [fr_2_4 hF, if_pos (tg_39 hZ), money_dc hZ hF hOw hD hR hhc, Option.bind_some]
    generalize 31 * (sv (hdv M sn) (sv (rI M 101) (sv (rI M 99) h5 4) 12) 6) + (rI M 51 80).toInt64 = h6
    rw [fr_2_5 hF, if_pos (tg_47 hZ), works_dc hZ hF hwn w1 w3 w4 w5, Option.bind_some, page_dc hZ hF hpn p1 p3, Option.bind_some]
    generalize sv (rI M 78) (hs (wkd M) h6 wn) pn = h7
    refine loop_for (fun k => (sv (ctv Z M) h7 k, nI k)) 12 rfl (fun k hk => ?_) (by simp [show (12 : Int32) ≤ nI 12 by decide])
    have hle : ¬ (12 : Int32) ≤ nI k := nlit hk rfl (by decide)
    rw [sv_s]
    generalize sv (ctv Z M) h7 k = h8
    simp [hle, (hcnt k hk).1, pu, mix_e, nI_succ k]
  · unfold fX12_digest
    rw [if_pos (tg_51 hZ), pu]
    have hl := line_dm hZ hF hK htn hbn t2 b2 b3 (fun t ht => (hsum t ht).2) 283
    rw [show wJ M 51 85 283 = hM M 283 from rfl, hl, Option.bind_some]
    generalize dSum Z M (dLine Z M tn bn 283) = h1
    rw [money_dm hZ hF hxn hcn hkn hwn x2 c2 k2 w2 hhm, Option.bind_some]
    generalize dMoney M xn cn kn sn wn h1 = h2
    refine bindL (loop_for (fun k => (nI k, hM M (sv (rI M 78) h2 k))) pn (r := hM M (sv (rI M 78) h2 pn)) rfl (fun k hk => ?_) (by simp [rI_hM, p2])) ?_
    · have hle := nle hk (by omega)
      have hix : ix (nI k) = k := ix_nI (by omega)
      have a78 : aok Z 78 100 (nI k) := aok_nI (tg_78 hZ) (by omega) (by decide)
      rw [sv_s]
      generalize sv (rI M 78) h2 k = h3
      simp [rI_hM, rR_hM, p2, hle, fr_51_33 hF, if_pos a78, hix, tell_m hZ, nI_succ]
    generalize sv (rI M 78) h2 pn = h3
    refine loop_for (fun k => (nI k, hM M (sv (ctv Z M) h3 k))) 12 rfl (fun k hk => ?_) ?_
    · have hle : ¬ (12 : Int32) ≤ nI k := nlit hk rfl (by decide)
      rw [sv_s]
      generalize sv (ctv Z M) h3 k = h4
      simp [hle, ct_h, (hcnt k hk).2, tell_m hZ, nI_succ k]
    · generalize sv (ctv Z M) h3 12 = h4
      have hJ : rJ (hM M h4) 51 85 = h4 := by
        unfold hM
        simp [rJ_wJ]
      simp [show (12 : Int32) ≤ nI 12 by decide, hJ]
  · unfold hM
    rw [rJ_wJ, if_neg]
    rintro ⟨rfl, rfl⟩
    exact h1 (by simp [inF])
