/-! the law: what every call keeps -/
abbrev FTakW : List (Nat × Option Nat) := [(3, some 5), (51, some 15), (62, none), (63, none), (64, none), (65, none)]
theorem op_takerW {Z : Shp} {M : Mem} (hZ : OKZ Z) (hF : Fix M) (hI : ITak Z M) (x1 x2 x3 x4 : Int32) : ∃ r Z1 M1 M2, fX11_taker Z M 2 x1 x2 x3 x4 = some (r, Z1, M1) ∧ fX12_taker Z1 M1 51 x1 x2 x3 x4 = some (r, M2) ∧ Ext Z Z1 ∧ ITak Z1 M2 ∧ Wr Z1 FTakW [8] [6, 7] M M2 := by
  obtain ⟨n, hn, h1, h2, h3, h4, h5, π, p1, p2⟩ := id hI
  by_cases c1 : fX11_within x2 0 7 = 0
  · exact ⟨-101, Z, M, M, by simp [fX11_taker, tg_2 hZ, tg_3 hZ, tg_4 hZ, tg_5 hZ, tg_6 hZ, tg_7 hZ, tg_8 hZ, tg_24 hZ, tg_25 hZ, tg_26 hZ, tg_27 hZ, tg_28 hZ, tg_29 hZ, tg_30 hZ, tg_31 hZ, tg_32 hZ, tg_33 hZ, tg_34 hZ, tg_35 hZ, tg_36 hZ, tg_37 hZ, tg_38 hZ, tg_39 hZ, tg_40 hZ, tg_41 hZ, tg_42 hZ, tg_43 hZ, tg_44 hZ, tg_45 hZ, tg_46 hZ, tg_47 hZ, tg_48 hZ, tg_49 hZ, tg_50 hZ, fr_2_0 hF, fr_3_0 hF, fr_3_1 hF, fr_3_2 hF, fr_3_3 hF, fr_3_4 hF, fr_2_1 hF, fr_24_0 hF, fr_24_2 hF, fr_2_2 hF, fr_27_0 hF, fr_27_1 hF, fr_27_2 hF, fr_27_8 hF, fr_2_3 hF, fr_32_0 hF, fr_32_1 hF, fr_32_3 hF, fr_32_4 hF, fr_32_5 hF, fr_32_6 hF, fr_2_4 hF, fr_39_0 hF, fr_39_1 hF, fr_39_2 hF, fr_39_3 hF, fr_39_4 hF, fr_39_5 hF, fr_39_6 hF, fr_2_5 hF, fr_47_0 hF, fr_47_1 hF, fr_47_2 hF, pn_n c1], by simp [fX12_taker, fX12_isPound, in_m1_e, in_0_e, in_0_1, in_0_2, in_0_23, in_0_3, in_0_4, in_0_40, in_0_5, in_0_50, in_0_599, in_0_6, in_0_7, in_0_9, in_0_99, in_0_999, in_0_9999, in_0_99999, in_0_999999, in_1_100, in_1_200, in_1_6, in_1_9, in_1_999, in_10_17, in_10_200, in_48_57, in_6_17, in_e_99, in_e_9999, in_within, c1], Ext_rf Z, hI, Wr.rf⟩
  obtain ⟨p, hp, rfl⟩ := wN (n := 7) (by decide) c1
  have pc := pn_c hZ hF hp c1
  have n0 : ¬ (9 + p = 0) := by omega
  by_cases c2 : fX11_within x1 0 4 = 0
  · exact ⟨-102, Z, M, M, by simp [fX11_taker, tg_2 hZ, tg_3 hZ, tg_4 hZ, tg_5 hZ, tg_6 hZ, tg_7 hZ, tg_8 hZ, tg_24 hZ, tg_25 hZ, tg_26 hZ, tg_27 hZ, tg_28 hZ, tg_29 hZ, tg_30 hZ, tg_31 hZ, tg_32 hZ, tg_33 hZ, tg_34 hZ, tg_35 hZ, tg_36 hZ, tg_37 hZ, tg_38 hZ, tg_39 hZ, tg_40 hZ, tg_41 hZ, tg_42 hZ, tg_43 hZ, tg_44 hZ, tg_45 hZ, tg_46 hZ, tg_47 hZ, tg_48 hZ, tg_49 hZ, tg_50 hZ, fr_2_0 hF, fr_3_0 hF, fr_3_1 hF, fr_3_2 hF, fr_3_3 hF, fr_3_4 hF, fr_2_1 hF, fr_24_0 hF, fr_24_2 hF, fr_2_2 hF, fr_27_0 hF, fr_27_1 hF, fr_27_2 hF, fr_27_8 hF, fr_2_3 hF, fr_32_0 hF, fr_32_1 hF, fr_32_3 hF, fr_32_4 hF, fr_32_5 hF, fr_32_6 hF, fr_2_4 hF, fr_39_0 hF, fr_39_1 hF, fr_39_2 hF, fr_39_3 hF, fr_39_4 hF, fr_39_5 hF, fr_39_6 hF, fr_2_5 hF, fr_47_0 hF, fr_47_1 hF, fr_47_2 hF, pc, c2], by simp [fX12_taker, fX12_isPound, in_m1_e, in_0_e, in_0_1, in_0_2, in_0_23, in_0_3, in_0_4, in_0_40, in_0_5, in_0_50, in_0_599, in_0_6, in_0_7, in_0_9, in_0_99, in_0_999, in_0_9999, in_0_99999, in_0_999999, in_1_100, in_1_200, in_1_6, in_1_9, in_1_999, in_10_17, in_10_200, in_48_57, in_6_17, in_e_99, in_e_9999, in_within, c1, c2], Ext_rf Z, hI, Wr.rf⟩
  by_cases c3 : fX11_within x3 1 200 = 0
  · exact ⟨-102, Z, M, M, by simp [fX11_taker, tg_2 hZ, tg_3 hZ, tg_4 hZ, tg_5 hZ, tg_6 hZ, tg_7 hZ, tg_8 hZ, tg_24 hZ, tg_25 hZ, tg_26 hZ, tg_27 hZ, tg_28 hZ, tg_29 hZ, tg_30 hZ, tg_31 hZ, tg_32 hZ, tg_33 hZ, tg_34 hZ, tg_35 hZ, tg_36 hZ, tg_37 hZ, tg_38 hZ, tg_39 hZ, tg_40 hZ, tg_41 hZ, tg_42 hZ, tg_43 hZ, tg_44 hZ, tg_45 hZ, tg_46 hZ, tg_47 hZ, tg_48 hZ, tg_49 hZ, tg_50 hZ, fr_2_0 hF, fr_3_0 hF, fr_3_1 hF, fr_3_2 hF, fr_3_3 hF, fr_3_4 hF, fr_2_1 hF, fr_24_0 hF, fr_24_2 hF, fr_2_2 hF, fr_27_0 hF, fr_27_1 hF, fr_27_2 hF, fr_27_8 hF, fr_2_3 hF, fr_32_0 hF, fr_32_1 hF, fr_32_3 hF, fr_32_4 hF, fr_32_5 hF, fr_32_6 hF, fr_2_4 hF, fr_39_0 hF, fr_39_1 hF, fr_39_2 hF, fr_39_3 hF, fr_39_4 hF, fr_39_5 hF, fr_39_6 hF, fr_2_5 hF, fr_47_0 hF, fr_47_1 hF, fr_47_2 hF, pc, c2, c3], by simp [fX12_taker, fX12_isPound, in_m1_e, in_0_e, in_0_1, in_0_2, in_0_23, in_0_3, in_0_4, in_0_40, in_0_5, in_0_50, in_0_599, in_0_6, in_0_7, in_0_9, in_0_99, in_0_999, in_0_9999, in_0_99999, in_0_999999, in_1_100, in_1_200, in_1_6, in_1_9, in_1_999, in_10_17, in_10_200, in_48_57, in_6_17, in_e_99, in_e_9999, in_within, c1, c2, c3], Ext_rf Z, hI, Wr.rf⟩
  by_cases c4 : fX11_within x4 0 9 = 0
  · exact ⟨-102, Z, M, M, by simp [fX11_taker, tg_2 hZ, tg_3 hZ, tg_4 hZ, tg_5 hZ, tg_6 hZ, tg_7 hZ, tg_8 hZ, tg_24 hZ, tg_25 hZ, tg_26 hZ, tg_27 hZ, tg_28 hZ, tg_29 hZ, tg_30 hZ, tg_31 hZ, tg_32 hZ, tg_33 hZ, tg_34 hZ, tg_35 hZ, tg_36 hZ, tg_37 hZ, tg_38 hZ, tg_39 hZ, tg_40 hZ, tg_41 hZ, tg_42 hZ, tg_43 hZ, tg_44 hZ, tg_45 hZ, tg_46 hZ, tg_47 hZ, tg_48 hZ, tg_49 hZ, tg_50 hZ, fr_2_0 hF, fr_3_0 hF, fr_3_1 hF, fr_3_2 hF, fr_3_3 hF, fr_3_4 hF, fr_2_1 hF, fr_24_0 hF, fr_24_2 hF, fr_2_2 hF, fr_27_0 hF, fr_27_1 hF, fr_27_2 hF, fr_27_8 hF, fr_2_3 hF, fr_32_0 hF, fr_32_1 hF, fr_32_3 hF, fr_32_4 hF, fr_32_5 hF, fr_32_6 hF, fr_2_4 hF, fr_39_0 hF, fr_39_1 hF, fr_39_2 hF, fr_39_3 hF, fr_39_4 hF, fr_39_5 hF, fr_39_6 hF, fr_2_5 hF, fr_47_0 hF, fr_47_1 hF, fr_47_2 hF, pc, c2, c3, c4], by simp [fX12_taker, fX12_isPound, in_m1_e, in_0_e, in_0_1, in_0_2, in_0_23, in_0_3, in_0_4, in_0_40, in_0_5, in_0_50, in_0_599, in_0_6, in_0_7, in_0_9, in_0_99, in_0_999, in_0_9999, in_0_99999, in_0_999999, in_1_100, in_1_200, in_1_6, in_1_9, in_1_999, in_10_17, in_10_200, in_48_57, in_6_17, in_e_99, in_e_9999, in_within, c1, c2, c3, c4], Ext_rf Z, hI, Wr.rf⟩
  obtain ⟨s, hs, rfl⟩ := wN (n := 4) (by decide) c2
  by_cases c5 : n = 12
  · subst c5
    refine ⟨-104, Z, M, M, ?_, ?_, Ext_rf Z, hI, Wr.rf⟩
    · simp [fX11_taker, tg_2 hZ, tg_3 hZ, tg_4 hZ, tg_5 hZ, tg_6 hZ, tg_7 hZ, tg_8 hZ, tg_24 hZ, tg_25 hZ, tg_26 hZ, tg_27 hZ, tg_28 hZ, tg_29 hZ, tg_30 hZ, tg_31 hZ, tg_32 hZ, tg_33 hZ, tg_34 hZ, tg_35 hZ, tg_36 hZ, tg_37 hZ, tg_38 hZ, tg_39 hZ, tg_40 hZ, tg_41 hZ, tg_42 hZ, tg_43 hZ, tg_44 hZ, tg_45 hZ, tg_46 hZ, tg_47 hZ, tg_48 hZ, tg_49 hZ, tg_50 hZ, fr_2_0 hF, fr_3_0 hF, fr_3_1 hF, fr_3_2 hF, fr_3_3 hF, fr_3_4 hF, fr_2_1 hF, fr_24_0 hF, fr_24_2 hF, fr_2_2 hF, fr_27_0 hF, fr_27_1 hF, fr_27_2 hF, fr_27_8 hF, fr_2_3 hF, fr_32_0 hF, fr_32_1 hF, fr_32_3 hF, fr_32_4 hF, fr_32_5 hF, fr_32_6 hF, fr_2_4 hF, fr_39_0 hF, fr_39_1 hF, fr_39_2 hF, fr_39_3 hF, fr_39_4 hF, fr_39_5 hF, fr_39_6 hF, fr_2_5 hF, fr_47_0 hF, fr_47_1 hF, fr_47_2 hF, pc, c2, c3, c4, h1, show ¬ nI 12 < 12 by decide]
    · simp [fX12_taker, fX12_isPound, in_m1_e, in_0_e, in_0_1, in_0_2, in_0_23, in_0_3, in_0_4, in_0_40, in_0_5, in_0_50, in_0_599, in_0_6, in_0_7, in_0_9, in_0_99, in_0_999, in_0_9999, in_0_99999, in_0_999999, in_1_100, in_1_200, in_1_6, in_1_9, in_1_999, in_10_17, in_10_200, in_48_57, in_6_17, in_e_99, in_e_9999, in_within, c1, c2, c3, c4, tg_51 hZ, tg_52 hZ, tg_53 hZ, tg_54 hZ, tg_55 hZ, tg_56 hZ, tg_57 hZ, tg_58 hZ, tg_59 hZ, tg_60 hZ, tg_61 hZ, tg_62 hZ, tg_63 hZ, tg_64 hZ, tg_65 hZ, tg_66 hZ, tg_67 hZ, tg_68 hZ, tg_69 hZ, tg_70 hZ, tg_71 hZ, tg_72 hZ, tg_73 hZ, tg_74 hZ, tg_75 hZ, tg_76 hZ, tg_77 hZ, tg_78 hZ, tg_79 hZ, tg_80 hZ, tg_81 hZ, tg_82 hZ, tg_83 hZ, tg_84 hZ, tg_85 hZ, tg_86 hZ, tg_87 hZ, tg_88 hZ, tg_89 hZ, tg_90 hZ, tg_91 hZ, tg_92 hZ, tg_93 hZ, tg_94 hZ, tg_95 hZ, tg_96 hZ, tg_97 hZ, tg_98 hZ, tg_99 hZ, tg_100 hZ, tg_101 hZ, tg_102 hZ, tg_103 hZ, tg_104 hZ, tg_105 hZ, tg_106 hZ, tg_107 hZ, tg_108 hZ, tg_109 hZ, fr_51_0 hF, fr_51_1 hF, fr_51_2 hF, fr_51_4 hF, fr_51_5 hF, fr_51_6 hF, fr_51_7 hF, fr_51_8 hF, fr_51_9 hF, fr_51_10 hF, fr_51_16 hF, fr_51_17 hF, fr_51_18 hF, fr_51_19 hF, fr_51_20 hF, fr_51_22 hF, fr_51_23 hF, fr_51_24 hF, fr_51_25 hF, fr_51_26 hF, fr_51_27 hF, fr_51_28 hF, fr_51_29 hF, fr_51_30 hF, fr_51_31 hF, fr_51_32 hF, fr_51_33 hF, fr_51_36 hF, fr_51_37 hF, fr_51_38 hF, fr_51_39 hF, fr_51_40 hF, fr_51_41 hF, fr_51_42 hF, fr_51_51 hF, fr_51_52 hF, fr_51_54 hF, fr_51_56 hF, fr_51_58 hF, fr_51_59 hF, fr_51_60 hF, fr_51_62 hF, fr_51_63 hF, fr_51_67 hF, fr_51_68 hF, fr_51_69 hF, fr_51_70 hF, fr_51_71 hF, fr_51_72 hF, fr_51_73 hF, fr_51_74 hF, fr_51_76 hF, fr_51_77 hF, fr_51_78 hF, fr_51_79 hF, fr_51_82 hF, fr_51_83 hF, fr_51_84 hF, h2, show nI 12 = 12 by decide]
  have hn12 : n < 12 := by omega
  have hlt : nI n < 12 := nI_lt hn12 (by decide)
  have hne : ¬ nI n = 12 := fun h => c5 ((nI_eq (by omega) (by decide)).mp h)
  have hl := len_ok hZ
  obtain ⟨a, ea⟩ : ∃ a, a = Z.length + 2 := ⟨_, rfl⟩
  have ha : 110 ≤ a := by omega
  obtain ⟨Z1, eZ⟩ : ∃ Z1, Z1 = Z ++ [(8, 5)] := ⟨_, rfl⟩
  have hE : Ext Z Z1 := by rw [eZ]; exact Ext_app _ _
  have hZ1 : OKZ Z1 := Ext_tr hZ hE
  have ta : tg Z1 a = (8, 5) := by rw [eZ, ea]; exact tg_app_new _ _ _
  obtain ⟨N, eN⟩ : ∃ N, N = wI (wI (wI (wI (nw M a) a 0 (nI s)) a 1 (nI p)) a 2 x3) a 3 x4 := ⟨_, rfl⟩
  have wN' : Wr Z1 FTakW [8] [6, 7] M N := by
    rw [eN]
    have q : (tg Z1 a).1 ∈ [8] := by rw [ta]; simp
    exact ((((Wr.rf.nw ha q).sD ha q).sD ha q).sD ha q).sD ha q
  have hFN : Fix N := wN'.fix hF (by decide)
  have hNI : ∀ b k, b ≠ a → rI N b k = rI M b k := by
    intro b k hb
    simp [eN, rI_wI, rI_nw, hb]
  have hNR : ∀ b k, b ≠ a → rR N b k = rR M b k := by
    intro b k hb
    simp [eN, rR_wI, rR_nw, hb]
  have hN0 : rI N a 0 = nI s := by simp [eN, rI_wI]
  have hN1 : rI N a 1 = nI p := by simp [eN, rI_wI]
  have hN2 : rI N a 2 = x3 := by simp [eN, rI_wI]
  have hN3 : rI N a 3 = x4 := by simp [eN, rI_wI]
  have hN4 : rI N a 4 = 0 := by simp [eN, rI_wI, rI_nw]
  have hold : ∀ k, k < n → rR M 6 k < a := by
    intro k hk
    rw [ea]
    exact tg_lt (h3 k hk).1.2 (by omega)
  obtain ⟨i, hi, hj, h0, hc⟩ := place_c (a := a) hZ1 hFN hn12 (by rw [hNI 3 5 (by omega)]; exact h1) ta (by
    intro i hi
    rw [hNR 7 i (by omega), (p1 i hi).2]
    exact hE _ _ _ (by omega) (h3 _ (p1 i hi).1).1.2)
  obtain ⟨M1, eM⟩ : ∃ M1, M1 = wI (wR (wR (gapR N n i) 7 i a) 6 n a) 3 5 (nI n + 1) := ⟨_, rfl⟩
  have w1 : Wr Z1 FTakW [8] [6, 7] M M1 := by
    rw [eM]
    refine ((Wr.sR (Wr.sR ?_ (by simp)) (by simp))).sI (by simp [inF])
    refine ⟨wN'.1, fun b k hb h2 => ?_⟩
    rw [rR_gap, if_neg (fun h => hb (by simp [h.1]))]
    exact wN'.2 b k hb h2
  have hF1 : Fix M1 := w1.fix hF (by decide)
  have hix : ix (nI n) = n := ix_nI (by omega)
  have a62 : aok Z1 62 100 (nI n) := aok_nI (tg_62 hZ1) (by omega) (by decide)
  have a63 : aok Z1 63 100 (nI n) := aok_nI (tg_63 hZ1) (by omega) (by decide)
  have a64 : aok Z1 64 100 (nI n) := aok_nI (tg_64 hZ1) (by omega) (by decide)
  have a65 : aok Z1 65 100 (nI n) := aok_nI (tg_65 hZ1) (by omega) (by decide)
  have hM1I : ∀ b k, b ≠ a → b ≠ 3 → rI M1 b k = rI M b k := by
    intro b k hb hb3
    rw [eM, rI_wI, if_neg (fun h => hb3 h.1), rI_wR, rI_wR, rI_gap, hNI b k hb]
  have hM1a : ∀ k, rI M1 a k = rI N a k := by
    intro k
    rw [eM, rI_wI, if_neg (fun h => by omega), rI_wR, rI_wR, rI_gap]
  have h21 : rI M1 51 15 = nI n := by rw [hM1I 51 15 (by omega) (by omega)]; exact h2
  have hM16 : ∀ k, rR M1 6 k = if k = n then a else rR M 6 k := by
    intro k
    rw [eM, rR_wI, rR_wR]
    by_cases hk : k = n
    · simp [hk]
    · rw [if_neg (fun h => hk h.2), rR_wR, if_neg (by omega), rR_gap, if_neg (by omega), hNR 6 k (by omega), if_neg hk]
  have hM17 : ∀ k, rR M1 7 k = if k = i then a else if i < k ∧ k ≤ n then rR M 7 (k - 1) else rR M 7 k := by
    intro k
    rw [eM, rR_wI, rR_wR, if_neg (by omega), rR_wR]
    by_cases hk : k = i
    · simp [hk]
    · rw [if_neg (fun h => hk h.2), if_neg hk, rR_gap]
      simp only [true_and]
      rw [hNR 7 _ (by omega), hNR 7 _ (by omega)]
  obtain ⟨M2, eM2⟩ : ∃ M2, M2 = wI (wI (wI (wI (wI M1 62 n (nI s)) 63 n (nI p)) 64 n x3) 65 n x4) 51 15 (nI n + 1) := ⟨_, rfl⟩
  refine ⟨nI n, Z1, M1, M2, ?_, ?_, hE, ?_, ?_⟩
  · rw [eN] at hc
    simp [fX11_taker, fX7_init, tg_2 hZ, tg_3 hZ, tg_4 hZ, tg_5 hZ, tg_6 hZ, tg_7 hZ, tg_8 hZ, tg_24 hZ, tg_25 hZ, tg_26 hZ, tg_27 hZ, tg_28 hZ, tg_29 hZ, tg_30 hZ, tg_31 hZ, tg_32 hZ, tg_33 hZ, tg_34 hZ, tg_35 hZ, tg_36 hZ, tg_37 hZ, tg_38 hZ, tg_39 hZ, tg_40 hZ, tg_41 hZ, tg_42 hZ, tg_43 hZ, tg_44 hZ, tg_45 hZ, tg_46 hZ, tg_47 hZ, tg_48 hZ, tg_49 hZ, tg_50 hZ, fr_2_0 hF, fr_3_0 hF, fr_3_1 hF, fr_3_2 hF, fr_3_3 hF, fr_3_4 hF, fr_2_1 hF, fr_24_0 hF, fr_24_2 hF, fr_2_2 hF, fr_27_0 hF, fr_27_1 hF, fr_27_2 hF, fr_27_8 hF, fr_2_3 hF, fr_32_0 hF, fr_32_1 hF, fr_32_3 hF, fr_32_4 hF, fr_32_5 hF, fr_32_6 hF, fr_2_4 hF, fr_39_0 hF, fr_39_1 hF, fr_39_2 hF, fr_39_3 hF, fr_39_4 hF, fr_39_5 hF, fr_39_6 hF, fr_2_5 hF, fr_47_0 hF, fr_47_1 hF, fr_47_2 hF, pc, c2, c3, c4, h1, hlt, pu, pu2, ← ea, ← eZ, ta, hc, eM, eN]
  · simp [fX12_taker, fX12_isPound, in_m1_e, in_0_e, in_0_1, in_0_2, in_0_23, in_0_3, in_0_4, in_0_40, in_0_5, in_0_50, in_0_599, in_0_6, in_0_7, in_0_9, in_0_99, in_0_999, in_0_9999, in_0_99999, in_0_999999, in_1_100, in_1_200, in_1_6, in_1_9, in_1_999, in_10_17, in_10_200, in_48_57, in_6_17, in_e_99, in_e_9999, in_within, c1, c2, c3, c4, tg_51 hZ, tg_52 hZ, tg_53 hZ, tg_54 hZ, tg_55 hZ, tg_56 hZ, tg_57 hZ, tg_58 hZ, tg_59 hZ, tg_60 hZ, tg_61 hZ, tg_62 hZ, tg_63 hZ, tg_64 hZ, tg_65 hZ, tg_66 hZ, tg_67 hZ, tg_68 hZ, tg_69 hZ, tg_70 hZ, tg_71 hZ, tg_72 hZ, tg_73 hZ, tg_74 hZ, tg_75 hZ, tg_76 hZ, tg_77 hZ, tg_78 hZ, tg_79 hZ, tg_80 hZ, tg_81 hZ, tg_82 hZ, tg_83 hZ, tg_84 hZ, tg_85 hZ, tg_86 hZ, tg_87 hZ, tg_88 hZ, tg_89 hZ, tg_90 hZ, tg_91 hZ, tg_92 hZ, tg_93 hZ, tg_94 hZ, tg_95 hZ, tg_96 hZ, tg_97 hZ, tg_98 hZ, tg_99 hZ, tg_100 hZ, tg_101 hZ, tg_102 hZ, tg_103 hZ, tg_104 hZ, tg_105 hZ, tg_106 hZ, tg_107 hZ, tg_108 hZ, tg_109 hZ, fr_51_0 hF1, fr_51_1 hF1, fr_51_2 hF1, fr_51_4 hF1, fr_51_5 hF1, fr_51_6 hF1, fr_51_7 hF1, fr_51_8 hF1, fr_51_9 hF1, fr_51_10 hF1, fr_51_16 hF1, fr_51_17 hF1, fr_51_18 hF1, fr_51_19 hF1, fr_51_20 hF1, fr_51_22 hF1, fr_51_23 hF1, fr_51_24 hF1, fr_51_25 hF1, fr_51_26 hF1, fr_51_27 hF1, fr_51_28 hF1, fr_51_29 hF1, fr_51_30 hF1, fr_51_31 hF1, fr_51_32 hF1, fr_51_33 hF1, fr_51_36 hF1, fr_51_37 hF1, fr_51_38 hF1, fr_51_39 hF1, fr_51_40 hF1, fr_51_41 hF1, fr_51_42 hF1, fr_51_51 hF1, fr_51_52 hF1, fr_51_54 hF1, fr_51_56 hF1, fr_51_58 hF1, fr_51_59 hF1, fr_51_60 hF1, fr_51_62 hF1, fr_51_63 hF1, fr_51_67 hF1, fr_51_68 hF1, fr_51_69 hF1, fr_51_70 hF1, fr_51_71 hF1, fr_51_72 hF1, fr_51_73 hF1, fr_51_74 hF1, fr_51_76 hF1, fr_51_77 hF1, fr_51_78 hF1, fr_51_79 hF1, fr_51_82 hF1, fr_51_83 hF1, fr_51_84 hF1, tg_51 hZ1, h21, hne, if_pos a62, if_pos a63, if_pos a64, if_pos a65, pu, rI_wI, rJ_wI, rR_wI, rI_wJ, rJ_wJ, rR_wJ, rI_wR, rJ_wR, rR_wR, hix, eM2]
  · have hi3 : ∀ b k, b ≠ 62 → b ≠ 63 → b ≠ 64 → b ≠ 65 → b ≠ 51 → rI M2 b k = rI M1 b k := by
      intro b k g1 g2 g3 g4 g5
      simp [eM2, rI_wI, g1, g2, g3, g4, g5]
    have hr2 : ∀ b k, rR M2 b k = rR M1 b k := by
      intro b k
      simp [eM2, rR_wI]
    have v62 : ∀ k, rI M2 62 k = if k = n then nI s else rI M 62 k := by
      intro k
      simp [eM2, rI_wI, hM1I 62 k (by omega) (by omega)]
    have v63 : ∀ k, rI M2 63 k = if k = n then nI p else rI M 63 k := by
      intro k
      simp [eM2, rI_wI, hM1I 63 k (by omega) (by omega)]
    have v64 : ∀ k, rI M2 64 k = if k = n then x3 else rI M 64 k := by
      intro k
      simp [eM2, rI_wI, hM1I 64 k (by omega) (by omega)]
    have v65 : ∀ k, rI M2 65 k = if k = n then x4 else rI M 65 k := by
      intro k
      simp [eM2, rI_wI, hM1I 65 k (by omega) (by omega)]
    have v66 : ∀ k, rI M2 66 k = rI M 66 k := by
      intro k
      rw [hi3 66 k (by omega) (by omega) (by omega) (by omega) (by omega), hM1I 66 k (by omega) (by omega)]
    have va : ∀ k, rI M2 a k = rI N a k := by
      intro k
      rw [hi3 a k (by omega) (by omega) (by omega) (by omega) (by omega), hM1a]
    have r3 := w_rng c3
    have r4 := w_rng c4
    have m0 : (0 : Int32).toInt = 0 := by decide
    have m1 : (1 : Int32).toInt = 1 := by decide
    have m9 : (9 : Int32).toInt = 9 := by decide
    have m200 : (200 : Int32).toInt = 200 := by decide
    refine ⟨n + 1, by omega, ?_, ?_, ?_, ?_, ?_, fun k => if k < i then π k else if k = i then n else π (k - 1), ?_, ?_⟩
    · rw [hi3 3 5 (by omega) (by omega) (by omega) (by omega) (by omega), eM]
      simp [rI_wI, nI_succ]
    · simp [eM2, rI_wI, nI_succ]
    · intro k hk
      unfold tkOk
      rw [hr2, hM16, v62, v63, v64, v65, v66]
      by_cases hkn : k = n
      · subst hkn
        simp only [if_true, va, hN0, hN1, hN2, hN3, hN4]
        refine ⟨⟨ha, ta⟩, trivial, trivial, trivial, trivial, (h5 k (Nat.le_refl k)).symm, ⟨s, hs, rfl⟩, ⟨p, hp, rfl⟩, ?_, ?_⟩
        · omega
        · omega
      · have hkl : k < n := by omega
        obtain ⟨⟨q1, q2⟩, q3⟩ := h3 k hkl
        have q5 : ∀ j, rI M2 (rR M 6 k) j = rI M (rR M 6 k) j := by
          intro j
          have := hold k hkl
          rw [hi3 _ j (by omega) (by omega) (by omega) (by omega) (by omega), hM1I _ j (by omega) (by omega)]
        simp only [hkn, if_false, q5]
        exact ⟨⟨q1, hE _ _ _ (by omega) q2⟩, q3⟩
    · intro j k hjk hk
      rw [hr2, hr2, hM16, hM16]
      have hjn : ¬ j = n := by omega
      by_cases hkn : k = n
      · rw [if_neg hjn, if_pos hkn]
        have := hold j (by omega)
        omega
      · rw [if_neg hjn, if_neg hkn]
        exact h4 j k hjk (by omega)
    · intro k hk
      rw [v66]
      exact h5 k (by omega)
    · intro k hk
      rw [hr2, hM17]
      dsimp only
      by_cases g1 : k < i
      · have := p1 k (by omega)
        rw [if_pos g1, if_neg (by omega), if_neg (by omega), hr2, hM16, if_neg (by omega)]
        exact ⟨by omega, this.2⟩
      · by_cases g2 : k = i
        · rw [if_neg g1, if_pos g2, if_pos g2, hr2, hM16, if_pos rfl]
          exact ⟨by omega, rfl⟩
        · have := p1 (k - 1) (by omega)
          rw [if_neg g1, if_neg g2, if_neg g2, if_pos (by omega), hr2, hM16, if_neg (by omega)]
          exact ⟨by omega, this.2⟩
    · have hlo : ∀ j, j < i → (rI M 65 (π j)).toInt ≤ x4.toInt := by
        intro j hji
        have q0 := h0 (by omega)
        rw [hN3, hNR 7 _ (by omega), (p1 (i - 1) (by omega)).2] at q0
        have q1 := h3 _ (p1 (i - 1) (by omega)).1
        have q2 := hold _ (p1 (i - 1) (by omega)).1
        rw [hNI _ _ (by omega), q1.2.2.2.2.1] at q0
        by_cases hj1 : j = i - 1
        · rw [hj1]
          exact q0
        · rcases p2 j (i - 1) (by omega) (by omega) with q | q
          · omega
          · omega
      have hhi : ∀ j, i ≤ j → j < n → x4.toInt < (rI M 65 (π j)).toInt := by
        intro j g1 g2
        have q0 := hj j g1 g2
        rw [hN3, hNR 7 _ (by omega), (p1 j g2).2] at q0
        have q1 := h3 _ (p1 j g2).1
        have q2 := hold _ (p1 j g2).1
        rw [hNI _ _ (by omega), q1.2.2.2.2.1] at q0
        exact q0
      intro j k hjk hk
      unfold rkLt
      rw [v65, v65]
      dsimp only
      by_cases k1 : k < i
      · have u1 := (p1 j (by omega)).1
        have u2 := (p1 k (by omega)).1
        simp only [if_pos k1, if_pos (show j < i by omega), if_neg (show ¬ π j = n by omega), if_neg (show ¬ π k = n by omega)]
        exact p2 j k hjk (by omega)
      · by_cases k2 : k = i
        · have u1 := (p1 j (by omega)).1
          simp only [if_neg k1, if_pos k2, if_pos (show j < i by omega), if_neg (show ¬ π j = n by omega), if_true]
          have := hlo j (by omega)
          omega
        · have u2 := (p1 (k - 1) (by omega)).1
          simp only [if_neg k1, if_neg k2, if_neg (show ¬ π (k - 1) = n by omega)]
          by_cases j1 : j < i
          · have u1 := (p1 j (by omega)).1
            simp only [if_pos j1, if_neg (show ¬ π j = n by omega)]
            exact p2 j (k - 1) (by omega) (by omega)
          · by_cases j2 : j = i
            · simp only [if_neg j1, if_pos j2, if_true]
              have := hhi (k - 1) (by omega) (by omega)
              omega
            · have u1 := (p1 (j - 1) (by omega)).1
              simp only [if_neg j1, if_neg j2, if_neg (show ¬ π (j - 1) = n by omega)]
              exact p2 (j - 1) (k - 1) (by omega) (by omega)
  · rw [eM2]
    exact ((((w1.sI (by simp [inF])).sI (by simp [inF])).sI (by simp [inF])).sI (by simp [inF])).sI (by simp [inF])
abbrev FSo : List (Nat × Option Nat) := [(27, some 3), (27, some 4), (27, some 5), (27, some 6), (27, some 7), (31, none), (51, some 61), (90, none), (91, none), (92, none)]
theorem ISolved.keep {Z Z1 : Shp} {L : List (Nat × Option Nat)} {ts LR : List Nat} {M M1 : Mem} (h : ISolved Z M) (hE : Ext Z Z1) (w : Wr Z1 L ts LR M M1) (hd : dis L FSo = true) (hR : LR.contains 27 = false) : ISolved Z1 M1 := by
  obtain ⟨h1, ⟨a, h2, h3, h4⟩, h5⟩ := h
  have e9 : rR M1 27 9 = rR M 27 9 := w.rowR (by omega) hR 9
  refine ⟨?_, ⟨a, h2, by rw [w.at hd (by simp) (by omega), h3], by rw [w.at hd (by simp) (by omega), h4]⟩, ?_⟩
  · unfold TbOk
    rw [e9]
    rcases h1 with c | ⟨c1, c2⟩
    · exact Or.inl c
    · exact Or.inr ⟨c1, hE _ _ _ (by omega) c2⟩
  · rcases h5 with c | ⟨n, n1, n2, n3, n4⟩
    · left
      rw [w.at hd (by simp) (by omega), c]
    · right
      refine ⟨n, n1, by rw [w.at hd (by simp) (by omega), n2], ?_⟩
      unfold SoOk
      rw [w.at hd (a := 27) (k := 6) (by simp) (by omega), w.at hd (a := 27) (k := 7) (by simp) (by omega), show rI M1 31 = rI M 31 from funext fun k => w.row hd (by simp) (by omega) k]
      exact ⟨n3.mem (fun k => w.row hd (by simp) (by omega) k) (fun k => w.row hd (by simp) (by omega) k) (fun k => w.row hd (by simp) (by omega) k), n4⟩
theorem ISolved.come {Z : Shp} {M M1 : Mem} (h : ISolved Z M) (w : Wr Z FComeW [] [] M M1) (h5 : M1 = M ∨ rI M1 27 5 = 0) : ISolved Z M1 := by
  rcases h5 with rfl | h5
  · exact h
  · obtain ⟨h1, ⟨a, h2, h3, h4⟩, -⟩ := h
    have hd : dis FComeW [(27, some 4), (51, some 61)] = true := by decide
    refine ⟨?_, ⟨a, h2, by rw [w.at hd (by simp) (by omega), h3], by rw [w.at hd (by simp) (by omega), h4]⟩, Or.inl h5⟩
    unfold TbOk
    rw [w.rowR (a := 27) (by omega) rfl 9]
    exact h1
def IAll (Z : Shp) (M : Mem) : Prop := OKZ Z ∧ Fix M ∧ IPound M ∧ ILine M ∧ ILock M ∧ ITak Z M ∧ ITook M ∧ IBoat Z M ∧ IPage M ∧ ITexts Z M ∧ ICome M ∧ ISolved Z M ∧ IBanks M ∧ IOwed M ∧ IDebt M ∧ IRate M ∧ IShare M ∧ IWorks M
theorem s_all : IAll zE (mk wE) := ⟨by rw [s_Z]; exact Ext_rf Z0, s_F, s_P, s_L, s_K, s_T _, s_O, s_B _, s_Pg, s_X _, s_C, s_S _, s_Bk, s_Ow, s_D, s_R, s_Sh, s_W⟩
theorem all_pound {Z : Shp} {M : Mem} (h : IAll Z M) (x1 x2 x3 : Int32) : ∃ r M1 M2, fX11_pound Z M 2 x1 x2 x3 = some (r, M1) ∧ fX12_pound Z M1 51 x1 x2 x3 = some (r, M2) ∧ IAll Z M2 := by
  obtain ⟨hZ, hF, hP, hLn, hK, hT, hO, hB, hPg, hX, hC, hS, hBk, hOw, hD, hR, hSh, hW⟩ := id h
  obtain ⟨r, M1, M2, e1, e2, gP, w⟩ := op_pound hZ hF hP x1 x2 x3
  exact ⟨r, M1, M2, e1, e2, ⟨hZ, w.fix hF (by decide), gP, hLn.keep w (by decide), hK.keep w (by decide), hT.keep (Ext_rf Z) w (by decide) (by decide) (by decide) (by decide) (by decide), hO.keep w (by decide), hB.keep (Ext_rf Z) w (by decide) (by decide) (by decide) (by decide), hPg.keep w (by decide), hX.keep (Ext_rf Z) w (by decide) (by decide) (by decide) (by decide) (by decide) (by decide), hC.keep w (by decide), hS.keep (Ext_rf Z) w (by decide) (by decide), hBk.kp w (by decide), hOw.keep w (by decide), hD.keep w (by decide), hR.keep w (by decide), hSh.keep w (by decide), hW.keep w (by decide)⟩⟩
theorem all_summit {Z : Shp} {M : Mem} (h : IAll Z M) (x1 : Int32) : ∃ r M1 M2, fX11_summit Z M 2 x1 = some (r, M1) ∧ fX12_summit Z M1 51 x1 = some (r, M2) ∧ IAll Z M2 := by
  obtain ⟨hZ, hF, hP, hLn, hK, hT, hO, hB, hPg, hX, hC, hS, hBk, hOw, hD, hR, hSh, hW⟩ := id h
  obtain ⟨r, M1, M2, e1, e2, gL, w⟩ := op_summit hZ hF hLn (by obtain ⟨n, -, c1, c2, -⟩ := id hB; rw [c1, c2]) x1
  exact ⟨r, M1, M2, e1, e2, ⟨hZ, w.fix hF (by decide), hP.keep w (by decide), gL, hK.keep w (by decide), hT.keep (Ext_rf Z) w (by decide) (by decide) (by decide) (by decide) (by decide), hO.keep w (by decide), hB.keep (Ext_rf Z) w (by decide) (by decide) (by decide) (by decide), hPg.keep w (by decide), hX.keep (Ext_rf Z) w (by decide) (by decide) (by decide) (by decide) (by decide) (by decide), hC.keep w (by decide), hS.keep (Ext_rf Z) w (by decide) (by decide), hBk.kp w (by decide), hOw.keep w (by decide), hD.keep w (by decide), hR.keep w (by decide), hSh.keep w (by decide), hW.keep w (by decide)⟩⟩
theorem all_lock {Z : Shp} {M : Mem} (h : IAll Z M) (x1 x2 x3 : Int32) : ∃ r M1 M2, fX11_lock Z M 2 x1 x2 x3 = some (r, M1) ∧ fX12_lock Z M1 51 x1 x2 x3 = some (r, M2) ∧ IAll Z M2 := by
  obtain ⟨hZ, hF, hP, hLn, hK, hT, hO, hB, hPg, hX, hC, hS, hBk, hOw, hD, hR, hSh, hW⟩ := id h
  obtain ⟨-, ⟨y, y1, y2, y3⟩, -, -⟩ := id hLn
  obtain ⟨r, M1, M2, e1, e2, gK, w⟩ := op_lock hZ hF hK y1 y2 y3 x1 x2 x3
  exact ⟨r, M1, M2, e1, e2, ⟨hZ, w.fix hF (by decide), hP.keep w (by decide), hLn.keep w (by decide), gK, hT.keep (Ext_rf Z) w (by decide) (by decide) (by decide) (by decide) (by decide), hO.keep w (by decide), hB.keep (Ext_rf Z) w (by decide) (by decide) (by decide) (by decide), hPg.keep w (by decide), hX.keep (Ext_rf Z) w (by decide) (by decide) (by decide) (by decide) (by decide) (by decide), hC.keep w (by decide), hS.keep (Ext_rf Z) w (by decide) (by decide), hBk.kp w (by decide), hOw.keep w (by decide), hD.keep w (by decide), hR.keep w (by decide), hSh.keep w (by decide), hW.keep w (by decide)⟩⟩
theorem all_taker {Z : Shp} {M : Mem} (h : IAll Z M) (x1 x2 x3 x4 : Int32) : ∃ r Z1 M1 M2, fX11_taker Z M 2 x1 x2 x3 x4 = some (r, Z1, M1) ∧ fX12_taker Z1 M1 51 x1 x2 x3 x4 = some (r, M2) ∧ IAll Z1 M2 := by
  obtain ⟨hZ, hF, hP, hLn, hK, hT, hO, hB, hPg, hX, hC, hS, hBk, hOw, hD, hR, hSh, hW⟩ := id h
  obtain ⟨r, Z1, M1, M2, e1, e2, hE, gT, w⟩ := op_takerW hZ hF hT x1 x2 x3 x4
  exact ⟨r, Z1, M1, M2, e1, e2, ⟨Ext_tr hZ hE, w.fix hF (by decide), hP.keep w (by decide), hLn.keep w (by decide), hK.keep w (by decide), gT, hO.keep w (by decide), hB.keep hE w (by decide) (by decide) (by decide) (by decide), hPg.keep w (by decide), hX.keep hE w (by decide) (by decide) (by decide) (by decide) (by decide) (by decide), hC.keep w (by decide), hS.keep hE w (by decide) (by decide), hBk.kp w (by decide), hOw.keep w (by decide), hD.keep w (by decide), hR.keep w (by decide), hSh.keep w (by decide), hW.keep w (by decide)⟩⟩
theorem all_as {Z : Shp} {M : Mem} (h : IAll Z M) (x1 x2 : Int32) : ∃ r, fX11_as Z M 2 x1 x2 = some r ∧ fX12_as Z M 51 x1 x2 = some r := by
  obtain ⟨hZ, hF, hP, hLn, hK, hT, hO, hB, hPg, hX, hC, hS, hBk, hOw, hD, hR, hSh, hW⟩ := id h
  exact op_as hZ hF hT x1 x2
theorem all_acts {Z : Shp} {M : Mem} (h : IAll Z M) (x1 x2 x3 : Int32) : ∃ r, fX11_acts Z M 2 x1 x2 x3 = some r ∧ fX12_acts Z M 51 x1 x2 x3 = some r := by
  obtain ⟨hZ, hF, hP, hLn, hK, hT, hO, hB, hPg, hX, hC, hS, hBk, hOw, hD, hR, hSh, hW⟩ := id h
  exact op_acts hZ hF hP hT x1 x2 x3
theorem all_boat {Z : Shp} {M : Mem} (h : IAll Z M) (x1 x2 x3 x4 x5 x6 : Int32) : ∃ r Z1 M1 M2, fX11_boat Z M 2 x1 x2 x3 x4 x5 x6 = some (r, Z1, M1) ∧ fX12_boat Z1 M1 51 x1 x2 x3 x4 x5 x6 = some (r, M2) ∧ IAll Z1 M2 := by
  obtain ⟨hZ, hF, hP, hLn, hK, hT, hO, hB, hPg, hX, hC, hS, hBk, hOw, hD, hR, hSh, hW⟩ := id h
  obtain ⟨-, ⟨y, y1, y2, y3⟩, -, -⟩ := id hLn
  obtain ⟨r, Z1, M1, M2, e1, e2, hE, gB, w⟩ := op_boat hZ hF hB y1 y2 y3 x1 x2 x3 x4 x5 x6
  exact ⟨r, Z1, M1, M2, e1, e2, ⟨Ext_tr hZ hE, w.fix hF (by decide), hP.keep w (by decide), hLn.keep w (by decide), hK.keep w (by decide), hT.keep hE w (by decide) (by decide) (by decide) (by decide) (by decide), hO.keep w (by decide), gB, hPg.keep w (by decide), hX.keep hE w (by decide) (by decide) (by decide) (by decide) (by decide) (by decide), hC.keep w (by decide), hS.keep hE w (by decide) (by decide), hBk.kp w (by decide), hOw.keep w (by decide), hD.keep w (by decide), hR.keep w (by decide), hSh.keep w (by decide), hW.keep w (by decide)⟩⟩
theorem all_hour {Z : Shp} {M : Mem} (h : IAll Z M) (x1 : Int32) : ∃ r M1 M2, fX11_hour Z M 2 x1 = some (r, M1) ∧ fX12_hour Z M1 51 x1 = some (r, M2) ∧ IAll Z M2 := by
  obtain ⟨hZ, hF, hP, hLn, hK, hT, hO, hB, hPg, hX, hC, hS, hBk, hOw, hD, hR, hSh, hW⟩ := id h
  obtain ⟨r, M1, M2, e1, e2, ⟨g1, g2, g3, g4, g5, g6⟩, w⟩ := op_hour hZ hF hP hLn hK hT hO hB x1
  exact ⟨r, M1, M2, e1, e2, ⟨hZ, w.fix hF (by decide), g1, g2, g3, g4, g5, g6, hPg.keep w (by decide), hX.keep (Ext_rf Z) w (by decide) (by decide) (by decide) (by decide) (by decide) (by decide), hC.keep w (by decide), hS.keep (Ext_rf Z) w (by decide) (by decide), hBk.kp w (by decide), hOw.keep w (by decide), hD.keep w (by decide), hR.keep w (by decide), hSh.keep w (by decide), hW.keep w (by decide)⟩⟩
theorem all_hours {Z : Shp} {M : Mem} (h : IAll Z M) (x1 x2 : Int32) : ∃ r M1 M2, fX11_hours Z M 2 x1 x2 = some (r, M1) ∧ fX12_hours Z M1 51 x1 x2 = some (r, M2) ∧ IAll Z M2 := by
  obtain ⟨hZ, hF, hP, hLn, hK, hT, hO, hB, hPg, hX, hC, hS, hBk, hOw, hD, hR, hSh, hW⟩ := id h
  obtain ⟨r, M1, M2, e1, e2, ⟨g1, g2, g3, g4, g5, g6⟩, w⟩ := op_hours hZ hF hP hLn hK hT hO hB x1 x2
  exact ⟨r, M1, M2, e1, e2, ⟨hZ, w.fix hF (by decide), g1, g2, g3, g4, g5, g6, hPg.keep w (by decide), hX.keep (Ext_rf Z) w (by decide) (by decide) (by decide) (by decide) (by decide) (by decide), hC.keep w (by decide), hS.keep (Ext_rf Z) w (by decide) (by decide), hBk.kp w (by decide), hOw.keep w (by decide), hD.keep w (by decide), hR.keep w (by decide), hSh.keep w (by decide), hW.keep w (by decide)⟩⟩
theorem all_at {Z : Shp} {M : Mem} (h : IAll Z M) (x1 x2 : Int32) : ∃ r, fX11_at Z M 2 x1 x2 = some r ∧ fX12_at Z M 51 x1 x2 = some r := by
  obtain ⟨hZ, hF, hP, hLn, hK, hT, hO, hB, hPg, hX, hC, hS, hBk, hOw, hD, hR, hSh, hW⟩ := id h
  exact op_at hZ hF hB x1 x2
theorem all_lockIs {Z : Shp} {M : Mem} (h : IAll Z M) (x1 x2 : Int32) : ∃ r, fX11_lockIs Z M 2 x1 x2 = some r ∧ fX12_lockIs Z M 51 x1 x2 = some r := by
  obtain ⟨hZ, hF, hP, hLn, hK, hT, hO, hB, hPg, hX, hC, hS, hBk, hOw, hD, hR, hSh, hW⟩ := id h
  exact op_lockIs hZ hF hK x1 x2
theorem all_now {Z : Shp} {M : Mem} (h : IAll Z M) (x1 x2 : Int32) : ∃ r, fX11_now Z M 2 x1 x2 = some r ∧ fX12_now Z M 51 x1 x2 = some r := by
  obtain ⟨hZ, hF, hP, hLn, hK, hT, hO, hB, hPg, hX, hC, hS, hBk, hOw, hD, hR, hSh, hW⟩ := id h
  exact op_now hZ hF hP x1 x2
theorem all_sum {Z : Shp} {M : Mem} (h : IAll Z M) (x1 : Int32) : ∃ r, fX11_sum Z M 2 x1 = some r ∧ fX12_sum Z M 51 x1 = some r := by
  obtain ⟨hZ, hF, hP, hLn, hK, hT, hO, hB, hPg, hX, hC, hS, hBk, hOw, hD, hR, hSh, hW⟩ := id h
  exact op_sum hZ hF hP hLn hK hT hO x1
theorem all_letters {Z : Shp} {M : Mem} (h : IAll Z M) (y : Int64) : ∃ r M1 M2, fX11_letters Z M 2 y = some (r, M1) ∧ fX12_letters Z M1 51 y = some (r, M2) ∧ IAll Z M2 := by
  obtain ⟨hZ, hF, hP, hLn, hK, hT, hO, hB, hPg, hX, hC, hS, hBk, hOw, hD, hR, hSh, hW⟩ := id h
  obtain ⟨r, M1, M2, e1, e2, gP, w⟩ := op_letters hZ hF hPg y
  exact ⟨r, M1, M2, e1, e2, ⟨hZ, w.fix hF (by decide), hP.keep w (by decide), hLn.keep w (by decide), hK.keep w (by decide), hT.keep (Ext_rf Z) w (by decide) (by decide) (by decide) (by decide) (by decide), hO.keep w (by decide), hB.keep (Ext_rf Z) w (by decide) (by decide) (by decide) (by decide), gP, hX.keep (Ext_rf Z) w (by decide) (by decide) (by decide) (by decide) (by decide) (by decide), hC.keep w (by decide), hS.keep (Ext_rf Z) w (by decide) (by decide), hBk.kp w (by decide), hOw.keep w (by decide), hD.keep w (by decide), hR.keep w (by decide), hSh.keep w (by decide), hW.keep w (by decide)⟩⟩
theorem all_blank {Z : Shp} {M : Mem} (h : IAll Z M) : ∃ r M1 M2, fX11_blank Z M 2 = some (r, M1) ∧ fX12_blank Z M1 51 = some (r, M2) ∧ IAll Z M2 := by
  obtain ⟨hZ, hF, hP, hLn, hK, hT, hO, hB, hPg, hX, hC, hS, hBk, hOw, hD, hR, hSh, hW⟩ := id h
  obtain ⟨r, M1, M2, e1, e2, gP, w⟩ := op_blank hZ hF hPg
  exact ⟨r, M1, M2, e1, e2, ⟨hZ, w.fix hF (by decide), hP.keep w (by decide), hLn.keep w (by decide), hK.keep w (by decide), hT.keep (Ext_rf Z) w (by decide) (by decide) (by decide) (by decide) (by decide), hO.keep w (by decide), hB.keep (Ext_rf Z) w (by decide) (by decide) (by decide) (by decide), gP, hX.keep (Ext_rf Z) w (by decide) (by decide) (by decide) (by decide) (by decide) (by decide), hC.keep w (by decide), hS.keep (Ext_rf Z) w (by decide) (by decide), hBk.kp w (by decide), hOw.keep w (by decide), hD.keep w (by decide), hR.keep w (by decide), hSh.keep w (by decide), hW.keep w (by decide)⟩⟩
theorem all_fault {Z : Shp} {M : Mem} (h : IAll Z M) : ∃ r M2, fX11_fault Z M 2 = some r ∧ fX12_fault Z M 51 = some (r, M2) ∧ IAll Z M2 := by
  obtain ⟨hZ, hF, hP, hLn, hK, hT, hO, hB, hPg, hX, hC, hS, hBk, hOw, hD, hR, hSh, hW⟩ := id h
  obtain ⟨r, M2, e1, e2, w⟩ := op_fault hZ hF hPg
  exact ⟨r, M2, e1, e2, ⟨hZ, w.fix hF (by decide), hP.keep w (by decide), hLn.keep w (by decide), hK.keep w (by decide), hT.keep (Ext_rf Z) w (by decide) (by decide) (by decide) (by decide) (by decide), hO.keep w (by decide), hB.keep (Ext_rf Z) w (by decide) (by decide) (by decide) (by decide), hPg.keep w (by decide), hX.keep (Ext_rf Z) w (by decide) (by decide) (by decide) (by decide) (by decide) (by decide), hC.keep w (by decide), hS.keep (Ext_rf Z) w (by decide) (by decide), hBk.kp w (by decide), hOw.keep w (by decide), hD.keep w (by decide), hR.keep w (by decide), hSh.keep w (by decide), hW.keep w (by decide)⟩⟩
theorem all_text {Z : Shp} {M : Mem} (h : IAll Z M) : ∃ r Z1 M1 M2, fX11_text Z M 2 = some (r, Z1, M1) ∧ fX12_text Z1 M1 51 = some (r, M2) ∧ IAll Z1 M2 := by
  obtain ⟨hZ, hF, hP, hLn, hK, hT, hO, hB, hPg, hX, hC, hS, hBk, hOw, hD, hR, hSh, hW⟩ := id h
  obtain ⟨r, Z1, M1, M2, e1, e2, hE, gP, gX, w⟩ := op_text hZ hF hPg hX
  exact ⟨r, Z1, M1, M2, e1, e2, ⟨Ext_tr hZ hE, w.fix hF (by decide), hP.keep w (by decide), hLn.keep w (by decide), hK.keep w (by decide), hT.keep hE w (by decide) (by decide) (by decide) (by decide) (by decide), hO.keep w (by decide), hB.keep hE w (by decide) (by decide) (by decide) (by decide), gP, gX, hC.keep w (by decide), hS.keep hE w (by decide) (by decide), hBk.kp w (by decide), hOw.keep w (by decide), hD.keep w (by decide), hR.keep w (by decide), hSh.keep w (by decide), hW.keep w (by decide)⟩⟩
theorem all_force {Z : Shp} {M : Mem} (h : IAll Z M) (x1 x2 x3 : Int32) : ∃ r M1 M2, fX11_force Z M 2 x1 x2 x3 = some (r, M1) ∧ fX12_force Z M1 51 x1 x2 x3 = some (r, M2) ∧ IAll Z M2 := by
  obtain ⟨hZ, hF, hP, hLn, hK, hT, hO, hB, hPg, hX, hC, hS, hBk, hOw, hD, hR, hSh, hW⟩ := id h
  obtain ⟨r, M1, M2, e1, e2, gX, w⟩ := op_force hZ hF hX x1 x2 x3
  exact ⟨r, M1, M2, e1, e2, ⟨hZ, w.fix hF (by decide), hP.keep w (by decide), hLn.keep w (by decide), hK.keep w (by decide), hT.keep (Ext_rf Z) w (by decide) (by decide) (by decide) (by decide) (by decide), hO.keep w (by decide), hB.keep (Ext_rf Z) w (by decide) (by decide) (by decide) (by decide), hPg.keep w (by decide), gX, hC.keep w (by decide), hS.keep (Ext_rf Z) w (by decide) (by decide), hBk.kp w (by decide), hOw.keep w (by decide), hD.keep w (by decide), hR.keep w (by decide), hSh.keep w (by decide), hW.keep w (by decide)⟩⟩
theorem all_speaks {Z : Shp} {M : Mem} (h : IAll Z M) (x1 x2 x3 : Int32) : ∃ r M2, fX11_speaks Z M 2 x1 x2 x3 = some r ∧ fX12_speaks Z M 51 x1 x2 x3 = some (r, M2) ∧ IAll Z M2 := by
  obtain ⟨hZ, hF, hP, hLn, hK, hT, hO, hB, hPg, hX, hC, hS, hBk, hOw, hD, hR, hSh, hW⟩ := id h
  obtain ⟨r, M2, e1, e2, w⟩ := op_speaks hZ hF hX hB x1 x2 x3
  exact ⟨r, M2, e1, e2, ⟨hZ, w.fix hF (by decide), hP.keep w (by decide), hLn.keep w (by decide), hK.keep w (by decide), hT.keep (Ext_rf Z) w (by decide) (by decide) (by decide) (by decide) (by decide), hO.keep w (by decide), hB.keep (Ext_rf Z) w (by decide) (by decide) (by decide) (by decide), hPg.keep w (by decide), hX.keep (Ext_rf Z) w (by decide) (by decide) (by decide) (by decide) (by decide) (by decide), hC.keep w (by decide), hS.keep (Ext_rf Z) w (by decide) (by decide), hBk.kp w (by decide), hOw.keep w (by decide), hD.keep w (by decide), hR.keep w (by decide), hSh.keep w (by decide), hW.keep w (by decide)⟩⟩
theorem all_quarrel {Z : Shp} {M : Mem} (h : IAll Z M) (x1 x2 x3 : Int32) : ∃ r M2, fX11_quarrel Z M 2 x1 x2 x3 = some r ∧ fX12_quarrel Z M 51 x1 x2 x3 = some (r, M2) ∧ IAll Z M2 := by
  obtain ⟨hZ, hF, hP, hLn, hK, hT, hO, hB, hPg, hX, hC, hS, hBk, hOw, hD, hR, hSh, hW⟩ := id h
  obtain ⟨r, M2, e1, e2, w⟩ := op_quarrel hZ hF hX hB x1 x2 x3
  exact ⟨r, M2, e1, e2, ⟨hZ, w.fix hF (by decide), hP.keep w (by decide), hLn.keep w (by decide), hK.keep w (by decide), hT.keep (Ext_rf Z) w (by decide) (by decide) (by decide) (by decide) (by decide), hO.keep w (by decide), hB.keep (Ext_rf Z) w (by decide) (by decide) (by decide) (by decide), hPg.keep w (by decide), hX.keep (Ext_rf Z) w (by decide) (by decide) (by decide) (by decide) (by decide) (by decide), hC.keep w (by decide), hS.keep (Ext_rf Z) w (by decide) (by decide), hBk.kp w (by decide), hOw.keep w (by decide), hD.keep w (by decide), hR.keep w (by decide), hSh.keep w (by decide), hW.keep w (by decide)⟩⟩
theorem all_toll {Z : Shp} {M : Mem} (h : IAll Z M) (x1 x2 : Int32) : ∃ r M2, fX11_toll Z M 2 x1 x2 = some r ∧ fX12_toll Z M 51 x1 x2 = some (r, M2) ∧ IAll Z M2 := by
  obtain ⟨hZ, hF, hP, hLn, hK, hT, hO, hB, hPg, hX, hC, hS, hBk, hOw, hD, hR, hSh, hW⟩ := id h
  obtain ⟨r, M2, e1, e2, w⟩ := op_toll hZ hF hX hB x1 x2
  exact ⟨r, M2, e1, e2, ⟨hZ, w.fix hF (by decide), hP.keep w (by decide), hLn.keep w (by decide), hK.keep w (by decide), hT.keep (Ext_rf Z) w (by decide) (by decide) (by decide) (by decide) (by decide), hO.keep w (by decide), hB.keep (Ext_rf Z) w (by decide) (by decide) (by decide) (by decide), hPg.keep w (by decide), hX.keep (Ext_rf Z) w (by decide) (by decide) (by decide) (by decide) (by decide) (by decide), hC.keep w (by decide), hS.keep (Ext_rf Z) w (by decide) (by decide), hBk.kp w (by decide), hOw.keep w (by decide), hD.keep w (by decide), hR.keep w (by decide), hSh.keep w (by decide), hW.keep w (by decide)⟩⟩
theorem all_comer {Z : Shp} {M : Mem} (h : IAll Z M) (x1 x2 x3 : Int32) (hz : zb x1) : ∃ r M1 M2, fX11_comer Z M 2 x1 x2 x3 = some (r, M1) ∧ fX12_comer Z M1 51 x1 x2 x3 = some (r, M2) ∧ IAll Z M2 := by
  obtain ⟨hZ, hF, hP, hLn, hK, hT, hO, hB, hPg, hX, hC, hS, hBk, hOw, hD, hR, hSh, hW⟩ := id h
  obtain ⟨r, M1, M2, e1, e2, gC, g5, w⟩ := op_comer hZ hF hC x1 x2 x3 hz
  exact ⟨r, M1, M2, e1, e2, ⟨hZ, w.fix hF (by decide), hP.keep w (by decide), hLn.keep w (by decide), hK.keep w (by decide), hT.keep (Ext_rf Z) w (by decide) (by decide) (by decide) (by decide) (by decide), hO.keep w (by decide), hB.keep (Ext_rf Z) w (by decide) (by decide) (by decide) (by decide), hPg.keep w (by decide), hX.keep (Ext_rf Z) w (by decide) (by decide) (by decide) (by decide) (by decide) (by decide), gC, hS.come w g5, hBk.kp w (by decide), hOw.keep w (by decide), hD.keep w (by decide), hR.keep w (by decide), hSh.keep w (by decide), hW.keep w (by decide)⟩⟩
theorem all_clear {Z : Shp} {M : Mem} (h : IAll Z M) : ∃ r M1 M2, fX11_clear Z M 2 = some (r, M1) ∧ fX12_clear Z M1 51 = some (r, M2) ∧ IAll Z M2 := by
  obtain ⟨hZ, hF, hP, hLn, hK, hT, hO, hB, hPg, hX, hC, hS, hBk, hOw, hD, hR, hSh, hW⟩ := id h
  obtain ⟨r, M1, M2, e1, e2, gC, g5, w⟩ := op_clear hZ hF hC
  exact ⟨r, M1, M2, e1, e2, ⟨hZ, w.fix hF (by decide), hP.keep w (by decide), hLn.keep w (by decide), hK.keep w (by decide), hT.keep (Ext_rf Z) w (by decide) (by decide) (by decide) (by decide) (by decide), hO.keep w (by decide), hB.keep (Ext_rf Z) w (by decide) (by decide) (by decide) (by decide), hPg.keep w (by decide), hX.keep (Ext_rf Z) w (by decide) (by decide) (by decide) (by decide) (by decide) (by decide), gC, hS.come w (Or.inr g5), hBk.kp w (by decide), hOw.keep w (by decide), hD.keep w (by decide), hR.keep w (by decide), hSh.keep w (by decide), hW.keep w (by decide)⟩⟩
theorem all_turn {Z : Shp} {M : Mem} (h : IAll Z M) (x1 : Int32) : ∃ r Z1 M1 M2, fX11_turn Z M 2 x1 = some (r, Z1, M1) ∧ fX12_turn Z1 M1 51 x1 = some (r, M2) ∧ IAll Z1 M2 := by
  obtain ⟨hZ, hF, hP, hLn, hK, hT, hO, hB, hPg, hX, hC, hS, hBk, hOw, hD, hR, hSh, hW⟩ := id h
  obtain ⟨r, Z1, M1, M2, e1, e2, hE, gF, gS, w⟩ := op_turn hZ hF hC hS x1
  exact ⟨r, Z1, M1, M2, e1, e2, ⟨Ext_tr hZ hE, gF, hP.keep w (by decide), hLn.keep w (by decide), hK.keep w (by decide), hT.keep hE w (by decide) (by decide) (by decide) (by decide) (by decide), hO.keep w (by decide), hB.keep hE w (by decide) (by decide) (by decide) (by decide), hPg.keep w (by decide), hX.keep hE w (by decide) (by decide) (by decide) (by decide) (by decide) (by decide), hC.keep w (by decide), gS, hBk.kp w (by decide), hOw.keep w (by decide), hD.keep w (by decide), hR.keep w (by decide), hSh.keep w (by decide), hW.keep w (by decide)⟩⟩
theorem all_judge {Z : Shp} {M : Mem} (h : IAll Z M) (x1 : Int32) : ∃ r M2, fX11_judge Z M 2 x1 = some r ∧ fX12_judge Z M 51 x1 = some (r, M2) ∧ IAll Z M2 := by
  obtain ⟨hZ, hF, hP, hLn, hK, hT, hO, hB, hPg, hX, hC, hS, hBk, hOw, hD, hR, hSh, hW⟩ := id h
  obtain ⟨r, M2, e1, e2, w⟩ := op_judge hZ hF hC x1
  exact ⟨r, M2, e1, e2, ⟨hZ, w.fix hF (by decide), hP.keep w (by decide), hLn.keep w (by decide), hK.keep w (by decide), hT.keep (Ext_rf Z) w (by decide) (by decide) (by decide) (by decide) (by decide), hO.keep w (by decide), hB.keep (Ext_rf Z) w (by decide) (by decide) (by decide) (by decide), hPg.keep w (by decide), hX.keep (Ext_rf Z) w (by decide) (by decide) (by decide) (by decide) (by decide) (by decide), hC.keep w (by decide), hS.keep (Ext_rf Z) w (by decide) (by decide), hBk.kp w (by decide), hOw.keep w (by decide), hD.keep w (by decide), hR.keep w (by decide), hSh.keep w (by decide), hW.keep w (by decide)⟩⟩
theorem all_dry {Z : Shp} {M : Mem} (h : IAll Z M) (x1 x2 x3 x4 x5 : Int32) : ∃ r, fX11_dry Z M 2 x1 x2 x3 x4 x5 = some r ∧ fX12_dry Z M 51 x1 x2 x3 x4 x5 = some r := by
  obtain ⟨hZ, hF, hP, hLn, hK, hT, hO, hB, hPg, hX, hC, hS, hBk, hOw, hD, hR, hSh, hW⟩ := id h
  exact op_dry hZ hF hP hLn x1 x2 x3 x4 x5
theorem all_bank {Z : Shp} {M : Mem} (h : IAll Z M) (x1 x2 : Int32) : ∃ r M1 M2, fX11_bank Z M 2 x1 x2 = some (r, M1) ∧ fX12_bank Z M1 51 x1 x2 = some (r, M2) ∧ IAll Z M2 := by
  obtain ⟨hZ, hF, hP, hLn, hK, hT, hO, hB, hPg, hX, hC, hS, hBk, hOw, hD, hR, hSh, hW⟩ := id h
  obtain ⟨r, M1, M2, e1, e2, gB, w⟩ := op_bank hZ hF hBk x1 x2
  exact ⟨r, M1, M2, e1, e2, ⟨hZ, w.fix hF (by decide), hP.keep w (by decide), hLn.keep w (by decide), hK.keep w (by decide), hT.keep (Ext_rf Z) w (by decide) (by decide) (by decide) (by decide) (by decide), hO.keep w (by decide), hB.keep (Ext_rf Z) w (by decide) (by decide) (by decide) (by decide), hPg.keep w (by decide), hX.keep (Ext_rf Z) w (by decide) (by decide) (by decide) (by decide) (by decide) (by decide), hC.keep w (by decide), hS.keep (Ext_rf Z) w (by decide) (by decide), gB, hOw.keep w (by decide), hD.keep w (by decide), hR.keep w (by decide), hSh.keep w (by decide), hW.keep w (by decide)⟩⟩
theorem all_read {Z : Shp} {M : Mem} (h : IAll Z M) (x1 x2 x3 : Int32) : ∃ r M1 M2, fX11_read Z M 2 x1 x2 x3 = some (r, M1) ∧ fX12_read Z M1 51 x1 x2 x3 = some (r, M2) ∧ IAll Z M2 := by
  obtain ⟨hZ, hF, hP, hLn, hK, hT, hO, hB, hPg, hX, hC, hS, hBk, hOw, hD, hR, hSh, hW⟩ := id h
  obtain ⟨r, M1, M2, e1, e2, gB, w⟩ := op_read hZ hF hBk x1 x2 x3
  exact ⟨r, M1, M2, e1, e2, ⟨hZ, w.fix hF (by decide), hP.keep w (by decide), hLn.keep w (by decide), hK.keep w (by decide), hT.keep (Ext_rf Z) w (by decide) (by decide) (by decide) (by decide) (by decide), hO.keep w (by decide), hB.keep (Ext_rf Z) w (by decide) (by decide) (by decide) (by decide), hPg.keep w (by decide), hX.keep (Ext_rf Z) w (by decide) (by decide) (by decide) (by decide) (by decide) (by decide), hC.keep w (by decide), hS.keep (Ext_rf Z) w (by decide) (by decide), gB, hOw.keep w (by decide), hD.keep w (by decide), hR.keep w (by decide), hSh.keep w (by decide), hW.keep w (by decide)⟩⟩
theorem all_unread {Z : Shp} {M : Mem} (h : IAll Z M) : ∃ r M1 M2, fX11_unread Z M 2 = some (r, M1) ∧ fX12_unread Z M1 51 = some (r, M2) ∧ IAll Z M2 := by
  obtain ⟨hZ, hF, hP, hLn, hK, hT, hO, hB, hPg, hX, hC, hS, hBk, hOw, hD, hR, hSh, hW⟩ := id h
  obtain ⟨r, M1, M2, e1, e2, gB, w⟩ := op_unread hZ hF hBk
  exact ⟨r, M1, M2, e1, e2, ⟨hZ, w.fix hF (by decide), hP.keep w (by decide), hLn.keep w (by decide), hK.keep w (by decide), hT.keep (Ext_rf Z) w (by decide) (by decide) (by decide) (by decide) (by decide), hO.keep w (by decide), hB.keep (Ext_rf Z) w (by decide) (by decide) (by decide) (by decide), hPg.keep w (by decide), hX.keep (Ext_rf Z) w (by decide) (by decide) (by decide) (by decide) (by decide) (by decide), hC.keep w (by decide), hS.keep (Ext_rf Z) w (by decide) (by decide), gB, hOw.keep w (by decide), hD.keep w (by decide), hR.keep w (by decide), hSh.keep w (by decide), hW.keep w (by decide)⟩⟩
theorem all_find {Z : Shp} {M : Mem} (h : IAll Z M) (x1 : Int32) : ∃ r M1, fX11_find Z M 2 x1 = some (r, M1) ∧ fX12_find Z M1 51 x1 = some r ∧ IAll Z M1 := by
  obtain ⟨hZ, hF, hP, hLn, hK, hT, hO, hB, hPg, hX, hC, hS, hBk, hOw, hD, hR, hSh, hW⟩ := id h
  obtain ⟨r, M1, e1, e2, gB, w⟩ := op_find hZ hF hBk x1
  exact ⟨r, M1, e1, e2, ⟨hZ, w.fix hF (by decide), hP.keep w (by decide), hLn.keep w (by decide), hK.keep w (by decide), hT.keep (Ext_rf Z) w (by decide) (by decide) (by decide) (by decide) (by decide), hO.keep w (by decide), hB.keep (Ext_rf Z) w (by decide) (by decide) (by decide) (by decide), hPg.keep w (by decide), hX.keep (Ext_rf Z) w (by decide) (by decide) (by decide) (by decide) (by decide) (by decide), hC.keep w (by decide), hS.keep (Ext_rf Z) w (by decide) (by decide), gB, hOw.keep w (by decide), hD.keep w (by decide), hR.keep w (by decide), hSh.keep w (by decide), hW.keep w (by decide)⟩⟩
theorem all_bill {Z : Shp} {M : Mem} (h : IAll Z M) (x1 x2 : Int32) : ∃ r M1 M2, fX11_bill Z M 2 x1 x2 = some (r, M1) ∧ fX12_bill Z M1 51 x1 x2 = some (r, M2) ∧ IAll Z M2 := by
  obtain ⟨hZ, hF, hP, hLn, hK, hT, hO, hB, hPg, hX, hC, hS, hBk, hOw, hD, hR, hSh, hW⟩ := id h
  obtain ⟨r, M1, M2, e1, e2, gB, gO, w⟩ := op_bill hZ hF hX hB hOw x1 x2
  exact ⟨r, M1, M2, e1, e2, ⟨hZ, w.fix hF (by decide), hP.keep w (by decide), hLn.keep w (by decide), hK.keep w (by decide), hT.keep (Ext_rf Z) w (by decide) (by decide) (by decide) (by decide) (by decide), hO.keep w (by decide), gB, hPg.keep w (by decide), hX.keep (Ext_rf Z) w (by decide) (by decide) (by decide) (by decide) (by decide) (by decide), hC.keep w (by decide), hS.keep (Ext_rf Z) w (by decide) (by decide), hBk.kp w (by decide), gO, hD.keep w (by decide), hR.keep w (by decide), hSh.keep w (by decide), hW.keep w (by decide)⟩⟩
theorem all_pay {Z : Shp} {M : Mem} (h : IAll Z M) (x1 x2 : Int32) : ∃ r M1 M2, fX11_pay Z M 2 x1 x2 = some (r, M1) ∧ fX12_pay Z M1 51 x1 x2 = some (r, M2) ∧ IAll Z M2 := by
  obtain ⟨hZ, hF, hP, hLn, hK, hT, hO, hB, hPg, hX, hC, hS, hBk, hOw, hD, hR, hSh, hW⟩ := id h
  obtain ⟨r, M1, M2, e1, e2, gO, w⟩ := op_pay hZ hF hOw x1 x2
  exact ⟨r, M1, M2, e1, e2, ⟨hZ, w.fix hF (by decide), hP.keep w (by decide), hLn.keep w (by decide), hK.keep w (by decide), hT.keep (Ext_rf Z) w (by decide) (by decide) (by decide) (by decide) (by decide), hO.keep w (by decide), hB.keep (Ext_rf Z) w (by decide) (by decide) (by decide) (by decide), hPg.keep w (by decide), hX.keep (Ext_rf Z) w (by decide) (by decide) (by decide) (by decide) (by decide) (by decide), hC.keep w (by decide), hS.keep (Ext_rf Z) w (by decide) (by decide), hBk.kp w (by decide), gO, hD.keep w (by decide), hR.keep w (by decide), hSh.keep w (by decide), hW.keep w (by decide)⟩⟩
theorem all_debt {Z : Shp} {M : Mem} (h : IAll Z M) (x1 x2 x3 : Int32) : ∃ r M1 M2, fX11_debt Z M 2 x1 x2 x3 = some (r, M1) ∧ fX12_debt Z M1 51 x1 x2 x3 = some (r, M2) ∧ IAll Z M2 := by
  obtain ⟨hZ, hF, hP, hLn, hK, hT, hO, hB, hPg, hX, hC, hS, hBk, hOw, hD, hR, hSh, hW⟩ := id h
  obtain ⟨r, M1, M2, e1, e2, gD, w⟩ := op_debt hZ hF hD x1 x2 x3
  exact ⟨r, M1, M2, e1, e2, ⟨hZ, w.fix hF (by decide), hP.keep w (by decide), hLn.keep w (by decide), hK.keep w (by decide), hT.keep (Ext_rf Z) w (by decide) (by decide) (by decide) (by decide) (by decide), hO.keep w (by decide), hB.keep (Ext_rf Z) w (by decide) (by decide) (by decide) (by decide), hPg.keep w (by decide), hX.keep (Ext_rf Z) w (by decide) (by decide) (by decide) (by decide) (by decide) (by decide), hC.keep w (by decide), hS.keep (Ext_rf Z) w (by decide) (by decide), hBk.kp w (by decide), hOw.keep w (by decide), gD, hR.keep w (by decide), hSh.keep w (by decide), hW.keep w (by decide)⟩⟩
theorem all_failed {Z : Shp} {M : Mem} (h : IAll Z M) (x1 x2 : Int32) : ∃ r, fX11_failed Z M 2 x1 x2 = some r ∧ fX12_failed Z M 51 x1 x2 = some r := by
  obtain ⟨hZ, hF, hP, hLn, hK, hT, hO, hB, hPg, hX, hC, hS, hBk, hOw, hD, hR, hSh, hW⟩ := id h
  exact op_failed hZ hF hD x1 x2
theorem all_shares {Z : Shp} {M : Mem} (h : IAll Z M) (x1 x2 : Int32) : ∃ r M1 M2, fX11_shares Z M 2 x1 x2 = some (r, M1) ∧ fX12_shares Z M1 51 x1 x2 = some (r, M2) ∧ IAll Z M2 := by
  obtain ⟨hZ, hF, hP, hLn, hK, hT, hO, hB, hPg, hX, hC, hS, hBk, hOw, hD, hR, hSh, hW⟩ := id h
  obtain ⟨r, M1, M2, e1, e2, gS, w⟩ := op_shares hZ hF hSh x1 x2
  exact ⟨r, M1, M2, e1, e2, ⟨hZ, w.fix hF (by decide), hP.keep w (by decide), hLn.keep w (by decide), hK.keep w (by decide), hT.keep (Ext_rf Z) w (by decide) (by decide) (by decide) (by decide) (by decide), hO.keep w (by decide), hB.keep (Ext_rf Z) w (by decide) (by decide) (by decide) (by decide), hPg.keep w (by decide), hX.keep (Ext_rf Z) w (by decide) (by decide) (by decide) (by decide) (by decide) (by decide), hC.keep w (by decide), hS.keep (Ext_rf Z) w (by decide) (by decide), hBk.kp w (by decide), hOw.keep w (by decide), hD.keep w (by decide), hR.keep w (by decide), gS, hW.keep w (by decide)⟩⟩
theorem all_pass {Z : Shp} {M : Mem} (h : IAll Z M) (x1 x2 x3 x4 : Int32) : ∃ r M1 M2, fX11_pass Z M 2 x1 x2 x3 x4 = some (r, M1) ∧ fX12_pass Z M1 51 x1 x2 x3 x4 = some (r, M2) ∧ IAll Z M2 := by
  obtain ⟨hZ, hF, hP, hLn, hK, hT, hO, hB, hPg, hX, hC, hS, hBk, hOw, hD, hR, hSh, hW⟩ := id h
  obtain ⟨r, M1, M2, e1, e2, gS, w⟩ := op_pass hZ hF hSh x1 x2 x3 x4
  exact ⟨r, M1, M2, e1, e2, ⟨hZ, w.fix hF (by decide), hP.keep w (by decide), hLn.keep w (by decide), hK.keep w (by decide), hT.keep (Ext_rf Z) w (by decide) (by decide) (by decide) (by decide) (by decide), hO.keep w (by decide), hB.keep (Ext_rf Z) w (by decide) (by decide) (by decide) (by decide), hPg.keep w (by decide), hX.keep (Ext_rf Z) w (by decide) (by decide) (by decide) (by decide) (by decide) (by decide), hC.keep w (by decide), hS.keep (Ext_rf Z) w (by decide) (by decide), hBk.kp w (by decide), hOw.keep w (by decide), hD.keep w (by decide), hR.keep w (by decide), gS, hW.keep w (by decide)⟩⟩
theorem all_had {Z : Shp} {M : Mem} (h : IAll Z M) (x1 x2 : Int32) : ∃ r, fX11_had Z M 2 x1 x2 = some r ∧ fX12_had Z M 51 x1 x2 = some r := by
  obtain ⟨hZ, hF, hP, hLn, hK, hT, hO, hB, hPg, hX, hC, hS, hBk, hOw, hD, hR, hSh, hW⟩ := id h
  exact op_had hZ hF hSh x1 x2
theorem all_dividend {Z : Shp} {M : Mem} (h : IAll Z M) (x1 x2 x3 : Int32) : ∃ r, fX11_dividend Z M 2 x1 x2 x3 = some r ∧ fX12_dividend Z M 51 x1 x2 x3 = some r := by
  obtain ⟨hZ, hF, hP, hLn, hK, hT, hO, hB, hPg, hX, hC, hS, hBk, hOw, hD, hR, hSh, hW⟩ := id h
  exact op_dividend hZ hF hSh x1 x2 x3
theorem all_rate {Z : Shp} {M : Mem} (h : IAll Z M) (x1 : Int32) : ∃ r M1 M2, fX11_rate Z M 2 x1 = some (r, M1) ∧ fX12_rate Z M1 51 x1 = some (r, M2) ∧ IAll Z M2 := by
  obtain ⟨hZ, hF, hP, hLn, hK, hT, hO, hB, hPg, hX, hC, hS, hBk, hOw, hD, hR, hSh, hW⟩ := id h
  obtain ⟨r, M1, M2, e1, e2, gR, w⟩ := op_rate hZ hF hR x1
  exact ⟨r, M1, M2, e1, e2, ⟨hZ, w.fix hF (by decide), hP.keep w (by decide), hLn.keep w (by decide), hK.keep w (by decide), hT.keep (Ext_rf Z) w (by decide) (by decide) (by decide) (by decide) (by decide), hO.keep w (by decide), hB.keep (Ext_rf Z) w (by decide) (by decide) (by decide) (by decide), hPg.keep w (by decide), hX.keep (Ext_rf Z) w (by decide) (by decide) (by decide) (by decide) (by decide) (by decide), hC.keep w (by decide), hS.keep (Ext_rf Z) w (by decide) (by decide), hBk.kp w (by decide), hOw.keep w (by decide), hD.keep w (by decide), gR, hSh.keep w (by decide), hW.keep w (by decide)⟩⟩
theorem all_over {Z : Shp} {M : Mem} (h : IAll Z M) (x1 : Int32) : ∃ r, fX11_over Z M 2 x1 = some r ∧ fX12_over Z M 51 x1 = some r := by
  obtain ⟨hZ, hF, hP, hLn, hK, hT, hO, hB, hPg, hX, hC, hS, hBk, hOw, hD, hR, hSh, hW⟩ := id h
  exact op_over hZ hF hB hR.1 x1
theorem all_bestPence {Z : Shp} {M : Mem} (h : IAll Z M) (x1 : Int32) : ∃ r, fX11_bestPence Z M 2 x1 = some r ∧ fX12_bestPence Z M 51 x1 = some r := by
  obtain ⟨hZ, hF, hP, hLn, hK, hT, hO, hB, hPg, hX, hC, hS, hBk, hOw, hD, hR, hSh, hW⟩ := id h
  exact op_bestPence hZ hF hB hR.1 x1
theorem all_work {Z : Shp} {M : Mem} (h : IAll Z M) (x1 x2 x3 : Int32) : ∃ r M1 M2, fX11_work Z M 2 x1 x2 x3 = some (r, M1) ∧ fX12_work Z M1 51 x1 x2 x3 = some (r, M2) ∧ IAll Z M2 := by
  obtain ⟨hZ, hF, hP, hLn, hK, hT, hO, hB, hPg, hX, hC, hS, hBk, hOw, hD, hR, hSh, hW⟩ := id h
  obtain ⟨r, M1, M2, e1, e2, gW, w⟩ := op_work hZ hF hW x1 x2 x3
  exact ⟨r, M1, M2, e1, e2, ⟨hZ, w.fix hF (by decide), hP.keep w (by decide), hLn.keep w (by decide), hK.keep w (by decide), hT.keep (Ext_rf Z) w (by decide) (by decide) (by decide) (by decide) (by decide), hO.keep w (by decide), hB.keep (Ext_rf Z) w (by decide) (by decide) (by decide) (by decide), hPg.keep w (by decide), hX.keep (Ext_rf Z) w (by decide) (by decide) (by decide) (by decide) (by decide) (by decide), hC.keep w (by decide), hS.keep (Ext_rf Z) w (by decide) (by decide), hBk.kp w (by decide), hOw.keep w (by decide), hD.keep w (by decide), hR.keep w (by decide), hSh.keep w (by decide), gW⟩⟩
theorem all_plan {Z : Shp} {M : Mem} (h : IAll Z M) (x1 x2 : Int32) : ∃ r, fX11_plan Z M 2 x1 x2 = some r ∧ fX12_plan Z M 51 x1 x2 = some r := by
  obtain ⟨hZ, hF, hP, hLn, hK, hT, hO, hB, hPg, hX, hC, hS, hBk, hOw, hD, hR, hSh, hW⟩ := id h
  exact op_plan hZ hF hW x1 x2
theorem all_count {Z : Shp} {M : Mem} (h : IAll Z M) (x1 : Int32) : ∃ r, fX11_count Z M 2 x1 = some r ∧ fX12_count Z M 51 x1 = some r := by
  obtain ⟨hZ, hF, hP, hLn, hK, hT, hO, hB, hPg, hX, hC, hS, hBk, hOw, hD, hR, hSh, hW⟩ := id h
  exact op_count hZ hF hLn hT hB hPg hC hBk hSh hW (by obtain ⟨t, -, c1, c2, -⟩ := id hX; rw [c1, c2]) (by obtain ⟨-, ⟨a, -, c1, c2⟩, -⟩ := id hS; rw [c1, c2]) x1
theorem all_digest {Z : Shp} {M : Mem} (h : IAll Z M) : ∃ r M2, fX11_digest Z M 2 = some r ∧ fX12_digest Z M 51 = some (r, M2) ∧ IAll Z M2 := by
  obtain ⟨hZ, hF, hP, hLn, hK, hT, hO, hB, hPg, hX, hC, hS, hBk, hOw, hD, hR, hSh, hW⟩ := id h
  obtain ⟨r, M2, e1, e2, w⟩ := op_digest hZ hF hP hLn hK hT hO hB hPg hX hC hBk hOw hD hR hSh hW (by obtain ⟨-, ⟨a, -, c1, c2⟩, -⟩ := id hS; rw [c1, c2])
  exact ⟨r, M2, e1, e2, ⟨hZ, w.fix hF (by decide), hP.keep w (by decide), hLn.keep w (by decide), hK.keep w (by decide), hT.keep (Ext_rf Z) w (by decide) (by decide) (by decide) (by decide) (by decide), hO.keep w (by decide), hB.keep (Ext_rf Z) w (by decide) (by decide) (by decide) (by decide), hPg.keep w (by decide), hX.keep (Ext_rf Z) w (by decide) (by decide) (by decide) (by decide) (by decide) (by decide), hC.keep w (by decide), hS.keep (Ext_rf Z) w (by decide) (by decide), hBk.kp w (by decide), hOw.keep w (by decide), hD.keep w (by decide), hR.keep w (by decide), hSh.keep w (by decide), hW.keep w (by decide)⟩⟩
