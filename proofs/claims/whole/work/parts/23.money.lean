/-! money: what is owed, debts, the rate -/
theorem rng_nI {x : Int32} (h0 : 0 ≤ x.toInt) : ∃ j : Nat, j < 2 ^ 31 ∧ x = nI j ∧ x.toInt = j := by
  obtain ⟨j, hj, rfl⟩ := nI_of (x := x) (fun h3 => by
    rw [i32_lt] at h3
    have : (0 : Int32).toInt = 0 := by decide
    omega)
  exact ⟨j, hj, rfl, nI_toInt hj⟩
theorem sub_toInt {a b : Int32} (h1 : 0 ≤ a.toInt) (h2 : 0 ≤ b.toInt) : (a - b).toInt = a.toInt - b.toInt := by
  have ha := Int32.toInt_lt a
  have hb := Int32.toInt_lt b
  rw [Int32.toInt_sub, Int.bmod_def]
  omega
def IOwed (M : Mem) : Prop := (∀ k, rI M 40 k = rI M 99 k) ∧ ∀ k, 0 ≤ (rI M 99 k).toInt ∧ (rI M 99 k).toInt ≤ 9999
abbrev FOwed : List (Nat × Option Nat) := [(40, none), (99, none)]
theorem IOwed.keep {Z : Shp} {L : List (Nat × Option Nat)} {ts LR : List Nat} {M M1 : Mem} (h : IOwed M) (w : Wr Z L ts LR M M1) (hd : dis L FOwed = true) : IOwed M1 := by
  unfold IOwed at h ⊢
  simp only [w.row hd (a := 40) (by simp) (by omega), w.row hd (a := 99) (by simp) (by omega)]
  exact h
def IDebt (M : Mem) : Prop := (∀ k, rI M 41 k = rI M 101 k) ∧ ∀ k, 0 ≤ (rI M 101 k).toInt ∧ (rI M 101 k).toInt ≤ 9999
abbrev FDebt : List (Nat × Option Nat) := [(41, none), (101, none)]
theorem IDebt.keep {Z : Shp} {L : List (Nat × Option Nat)} {ts LR : List Nat} {M M1 : Mem} (h : IDebt M) (w : Wr Z L ts LR M M1) (hd : dis L FDebt = true) : IDebt M1 := by
  unfold IDebt at h ⊢
  simp only [w.row hd (a := 41) (by simp) (by omega), w.row hd (a := 101) (by simp) (by omega)]
  exact h
def IRate (M : Mem) : Prop := rI M 39 8 = rI M 51 80 ∧ 0 ≤ (rI M 51 80).toInt ∧ (rI M 51 80).toInt ≤ 999
abbrev FRate : List (Nat × Option Nat) := [(39, some 8), (51, some 80)]
theorem IRate.keep {Z : Shp} {L : List (Nat × Option Nat)} {ts LR : List Nat} {M M1 : Mem} (h : IRate M) (w : Wr Z L ts LR M M1) (hd : dis L FRate = true) : IRate M1 := by
  unfold IRate at h ⊢
  simp only [w.at hd (a := 39) (k := 8) (by simp) (by omega), w.at hd (a := 51) (k := 80) (by simp) (by omega)]
  exact h
theorem op_rate {Z : Shp} {M : Mem} (hZ : OKZ Z) (hF : Fix M) (hI : IRate M) (x1 : Int32) : ∃ r M1 M2, fX11_rate Z M 2 x1 = some (r, M1) ∧ fX12_rate Z M1 51 x1 = some (r, M2) ∧ IRate M2 ∧ Wr Z FRate [] [] M M2 := by
  obtain ⟨h1, h2⟩ := id hI
  by_cases c1 : fX11_within x1 0 999 = 0
  · exact ⟨-102, M, M, by simp [fX11_rate, c1], by simp [fX12_rate, in_m1_e, in_0_e, in_0_1, in_0_2, in_0_23, in_0_3, in_0_4, in_0_40, in_0_5, in_0_50, in_0_599, in_0_6, in_0_7, in_0_9, in_0_99, in_0_999, in_0_9999, in_0_99999, in_0_999999, in_1_100, in_1_200, in_1_6, in_1_9, in_1_999, in_10_17, in_10_200, in_48_57, in_6_17, in_e_99, in_e_9999, in_within, c1], hI, Wr.rf⟩
  · refine ⟨rI M 51 80, wI M 39 8 x1, wI (wI M 39 8 x1) 51 80 x1, ?_, ?_, ⟨?_, ?_⟩, ?_⟩
    · simp [fX11_rate, c1, tg_2 hZ, tg_3 hZ, tg_4 hZ, tg_5 hZ, tg_6 hZ, tg_7 hZ, tg_8 hZ, tg_24 hZ, tg_25 hZ, tg_26 hZ, tg_27 hZ, tg_28 hZ, tg_29 hZ, tg_30 hZ, tg_31 hZ, tg_32 hZ, tg_33 hZ, tg_34 hZ, tg_35 hZ, tg_36 hZ, tg_37 hZ, tg_38 hZ, tg_39 hZ, tg_40 hZ, tg_41 hZ, tg_42 hZ, tg_43 hZ, tg_44 hZ, tg_45 hZ, tg_46 hZ, tg_47 hZ, tg_48 hZ, tg_49 hZ, tg_50 hZ, fr_2_0 hF, fr_3_0 hF, fr_3_1 hF, fr_3_2 hF, fr_3_3 hF, fr_3_4 hF, fr_2_1 hF, fr_24_0 hF, fr_24_2 hF, fr_2_2 hF, fr_27_0 hF, fr_27_1 hF, fr_27_2 hF, fr_27_8 hF, fr_2_3 hF, fr_32_0 hF, fr_32_1 hF, fr_32_3 hF, fr_32_4 hF, fr_32_5 hF, fr_32_6 hF, fr_2_4 hF, fr_39_0 hF, fr_39_1 hF, fr_39_2 hF, fr_39_3 hF, fr_39_4 hF, fr_39_5 hF, fr_39_6 hF, fr_2_5 hF, fr_47_0 hF, fr_47_1 hF, fr_47_2 hF, pu, h1]
    · simp [fX12_rate, in_m1_e, in_0_e, in_0_1, in_0_2, in_0_23, in_0_3, in_0_4, in_0_40, in_0_5, in_0_50, in_0_599, in_0_6, in_0_7, in_0_9, in_0_99, in_0_999, in_0_9999, in_0_99999, in_0_999999, in_1_100, in_1_200, in_1_6, in_1_9, in_1_999, in_10_17, in_10_200, in_48_57, in_6_17, in_e_99, in_e_9999, in_within, c1, tg_51 hZ, tg_52 hZ, tg_53 hZ, tg_54 hZ, tg_55 hZ, tg_56 hZ, tg_57 hZ, tg_58 hZ, tg_59 hZ, tg_60 hZ, tg_61 hZ, tg_62 hZ, tg_63 hZ, tg_64 hZ, tg_65 hZ, tg_66 hZ, tg_67 hZ, tg_68 hZ, tg_69 hZ, tg_70 hZ, tg_71 hZ, tg_72 hZ, tg_73 hZ, tg_74 hZ, tg_75 hZ, tg_76 hZ, tg_77 hZ, tg_78 hZ, tg_79 hZ, tg_80 hZ, tg_81 hZ, tg_82 hZ, tg_83 hZ, tg_84 hZ, tg_85 hZ, tg_86 hZ, tg_87 hZ, tg_88 hZ, tg_89 hZ, tg_90 hZ, tg_91 hZ, tg_92 hZ, tg_93 hZ, tg_94 hZ, tg_95 hZ, tg_96 hZ, tg_97 hZ, tg_98 hZ, tg_99 hZ, tg_100 hZ, tg_101 hZ, tg_102 hZ, tg_103 hZ, tg_104 hZ, tg_105 hZ, tg_106 hZ, tg_107 hZ, tg_108 hZ, tg_109 hZ, fr_51_0 hF, fr_51_1 hF, fr_51_2 hF, fr_51_4 hF, fr_51_5 hF, fr_51_6 hF, fr_51_7 hF, fr_51_8 hF, fr_51_9 hF, fr_51_10 hF, fr_51_16 hF, fr_51_17 hF, fr_51_18 hF, fr_51_19 hF, fr_51_20 hF, fr_51_22 hF, fr_51_23 hF, fr_51_24 hF, fr_51_25 hF, fr_51_26 hF, fr_51_27 hF, fr_51_28 hF, fr_51_29 hF, fr_51_30 hF, fr_51_31 hF, fr_51_32 hF, fr_51_33 hF, fr_51_36 hF, fr_51_37 hF, fr_51_38 hF, fr_51_39 hF, fr_51_40 hF, fr_51_41 hF, fr_51_42 hF, fr_51_51 hF, fr_51_52 hF, fr_51_54 hF, fr_51_56 hF, fr_51_58 hF, fr_51_59 hF, fr_51_60 hF, fr_51_62 hF, fr_51_63 hF, fr_51_67 hF, fr_51_68 hF, fr_51_69 hF, fr_51_70 hF, fr_51_71 hF, fr_51_72 hF, fr_51_73 hF, fr_51_74 hF, fr_51_76 hF, fr_51_77 hF, fr_51_78 hF, fr_51_79 hF, fr_51_82 hF, fr_51_83 hF, fr_51_84 hF, pu, rI_wI, rJ_wI, rR_wI, rI_wJ, rJ_wJ, rR_wJ, rI_wR, rJ_wR, rR_wR]
    · simp [rI_wI]
    · simpa [rI_wI] using w_rng c1
    · exact (Wr.rf.sI (by simp [inF])).sI (by simp [inF])
theorem op_pay {Z : Shp} {M : Mem} (hZ : OKZ Z) (hF : Fix M) (hI : IOwed M) (x1 x2 : Int32) : ∃ r M1 M2, fX11_pay Z M 2 x1 x2 = some (r, M1) ∧ fX12_pay Z M1 51 x1 x2 = some (r, M2) ∧ IOwed M2 ∧ Wr Z FOwed [] [] M M2 := by
  obtain ⟨h1, h2⟩ := id hI
  by_cases c1 : fX11_within x1 0 3 = 0
  · exact ⟨-101, M, M, by simp [fX11_pay, c1], by simp [fX12_pay, fX12_isCarrier, in_m1_e, in_0_e, in_0_1, in_0_2, in_0_23, in_0_3, in_0_4, in_0_40, in_0_5, in_0_50, in_0_599, in_0_6, in_0_7, in_0_9, in_0_99, in_0_999, in_0_9999, in_0_99999, in_0_999999, in_1_100, in_1_200, in_1_6, in_1_9, in_1_999, in_10_17, in_10_200, in_48_57, in_6_17, in_e_99, in_e_9999, in_within, c1], hI, Wr.rf⟩
  · by_cases c2 : fX11_within x2 0 999999 = 0
    · exact ⟨-102, M, M, by simp [fX11_pay, c1, c2], by simp [fX12_pay, fX12_isCarrier, in_m1_e, in_0_e, in_0_1, in_0_2, in_0_23, in_0_3, in_0_4, in_0_40, in_0_5, in_0_50, in_0_599, in_0_6, in_0_7, in_0_9, in_0_99, in_0_999, in_0_9999, in_0_99999, in_0_999999, in_1_100, in_1_200, in_1_6, in_1_9, in_1_999, in_10_17, in_10_200, in_48_57, in_6_17, in_e_99, in_e_9999, in_within, c1, c2], hI, Wr.rf⟩
    · obtain ⟨p, hp, rfl⟩ := wN (n := 3) (by decide) c1
      have r2 := w_rng c2
      have hix : ix (nI p) = p := ix_nI (by omega)
      have a40 : aok Z 40 100 (nI p) := aok_nI (tg_40 hZ) (by omega) (by decide)
      have a99 : aok Z 99 100 (nI p) := aok_nI (tg_99 hZ) (by omega) (by decide)
      obtain ⟨v, hv⟩ : ∃ v, v = mxI 0 (rI M 99 p - x2) := ⟨_, rfl⟩
      have h9 := h2 p
      have h0 : (0 : Int32).toInt = 0 := by decide
      have h8 : (999999 : Int32).toInt = 999999 := by decide
      rw [h0, h8] at r2
      have hs := sub_toInt h9.1 r2.1
      have hv2 : v = if rI M 99 p ≤ x2 then 0 else rI M 99 p - x2 := by
        rw [hv]
        unfold mxI
        by_cases c3 : rI M 99 p ≤ x2
        · rw [if_pos c3]
          rw [i32_le] at c3
          rw [if_neg]
          rw [i32_lt, hs, h0]
          omega
        · rw [if_neg c3]
          rw [i32_le] at c3
          rw [if_pos]
          rw [i32_lt, hs, h0]
          omega
      have hvb : 0 ≤ v.toInt ∧ v.toInt ≤ 9999 := by
        rw [hv2]
        by_cases c3 : rI M 99 p ≤ x2
        · rw [if_pos c3]
          decide
        · rw [if_neg c3, hs]
          rw [i32_le] at c3
          omega
      refine ⟨v, wI M 40 p v, wI (wI M 40 p v) 99 p v, ?_, ?_, ⟨?_, ?_⟩, ?_⟩
      · simp [fX11_pay, c1, c2, tg_2 hZ, tg_3 hZ, tg_4 hZ, tg_5 hZ, tg_6 hZ, tg_7 hZ, tg_8 hZ, tg_24 hZ, tg_25 hZ, tg_26 hZ, tg_27 hZ, tg_28 hZ, tg_29 hZ, tg_30 hZ, tg_31 hZ, tg_32 hZ, tg_33 hZ, tg_34 hZ, tg_35 hZ, tg_36 hZ, tg_37 hZ, tg_38 hZ, tg_39 hZ, tg_40 hZ, tg_41 hZ, tg_42 hZ, tg_43 hZ, tg_44 hZ, tg_45 hZ, tg_46 hZ, tg_47 hZ, tg_48 hZ, tg_49 hZ, tg_50 hZ, fr_2_0 hF, fr_3_0 hF, fr_3_1 hF, fr_3_2 hF, fr_3_3 hF, fr_3_4 hF, fr_2_1 hF, fr_24_0 hF, fr_24_2 hF, fr_2_2 hF, fr_27_0 hF, fr_27_1 hF, fr_27_2 hF, fr_27_8 hF, fr_2_3 hF, fr_32_0 hF, fr_32_1 hF, fr_32_3 hF, fr_32_4 hF, fr_32_5 hF, fr_32_6 hF, fr_2_4 hF, fr_39_0 hF, fr_39_1 hF, fr_39_2 hF, fr_39_3 hF, fr_39_4 hF, fr_39_5 hF, fr_39_6 hF, fr_2_5 hF, fr_47_0 hF, fr_47_1 hF, fr_47_2 hF, pu, rI_wI, rJ_wI, rR_wI, rI_wJ, rJ_wJ, rR_wJ, rI_wR, rJ_wR, rR_wR, if_pos a40, hix, h1, hv]
      · by_cases c3 : rI M 99 p ≤ x2
        · rw [if_pos c3] at hv2
          simp [fX12_pay, fX12_isCarrier, in_m1_e, in_0_e, in_0_1, in_0_2, in_0_23, in_0_3, in_0_4, in_0_40, in_0_5, in_0_50, in_0_599, in_0_6, in_0_7, in_0_9, in_0_99, in_0_999, in_0_9999, in_0_99999, in_0_999999, in_1_100, in_1_200, in_1_6, in_1_9, in_1_999, in_10_17, in_10_200, in_48_57, in_6_17, in_e_99, in_e_9999, in_within, c1, c2, tg_51 hZ, tg_52 hZ, tg_53 hZ, tg_54 hZ, tg_55 hZ, tg_56 hZ, tg_57 hZ, tg_58 hZ, tg_59 hZ, tg_60 hZ, tg_61 hZ, tg_62 hZ, tg_63 hZ, tg_64 hZ, tg_65 hZ, tg_66 hZ, tg_67 hZ, tg_68 hZ, tg_69 hZ, tg_70 hZ, tg_71 hZ, tg_72 hZ, tg_73 hZ, tg_74 hZ, tg_75 hZ, tg_76 hZ, tg_77 hZ, tg_78 hZ, tg_79 hZ, tg_80 hZ, tg_81 hZ, tg_82 hZ, tg_83 hZ, tg_84 hZ, tg_85 hZ, tg_86 hZ, tg_87 hZ, tg_88 hZ, tg_89 hZ, tg_90 hZ, tg_91 hZ, tg_92 hZ, tg_93 hZ, tg_94 hZ, tg_95 hZ, tg_96 hZ, tg_97 hZ, tg_98 hZ, tg_99 hZ, tg_100 hZ, tg_101 hZ, tg_102 hZ, tg_103 hZ, tg_104 hZ, tg_105 hZ, tg_106 hZ, tg_107 hZ, tg_108 hZ, tg_109 hZ, fr_51_0 hF, fr_51_1 hF, fr_51_2 hF, fr_51_4 hF, fr_51_5 hF, fr_51_6 hF, fr_51_7 hF, fr_51_8 hF, fr_51_9 hF, fr_51_10 hF, fr_51_16 hF, fr_51_17 hF, fr_51_18 hF, fr_51_19 hF, fr_51_20 hF, fr_51_22 hF, fr_51_23 hF, fr_51_24 hF, fr_51_25 hF, fr_51_26 hF, fr_51_27 hF, fr_51_28 hF, fr_51_29 hF, fr_51_30 hF, fr_51_31 hF, fr_51_32 hF, fr_51_33 hF, fr_51_36 hF, fr_51_37 hF, fr_51_38 hF, fr_51_39 hF, fr_51_40 hF, fr_51_41 hF, fr_51_42 hF, fr_51_51 hF, fr_51_52 hF, fr_51_54 hF, fr_51_56 hF, fr_51_58 hF, fr_51_59 hF, fr_51_60 hF, fr_51_62 hF, fr_51_63 hF, fr_51_67 hF, fr_51_68 hF, fr_51_69 hF, fr_51_70 hF, fr_51_71 hF, fr_51_72 hF, fr_51_73 hF, fr_51_74 hF, fr_51_76 hF, fr_51_77 hF, fr_51_78 hF, fr_51_79 hF, fr_51_82 hF, fr_51_83 hF, fr_51_84 hF, pu, rI_wI, rJ_wI, rR_wI, rI_wJ, rJ_wJ, rR_wJ, rI_wR, rJ_wR, rR_wR, if_pos a99, hix, c3, hv2]
        · rw [if_neg c3] at hv2
          simp [fX12_pay, fX12_isCarrier, in_m1_e, in_0_e, in_0_1, in_0_2, in_0_23, in_0_3, in_0_4, in_0_40, in_0_5, in_0_50, in_0_599, in_0_6, in_0_7, in_0_9, in_0_99, in_0_999, in_0_9999, in_0_99999, in_0_999999, in_1_100, in_1_200, in_1_6, in_1_9, in_1_999, in_10_17, in_10_200, in_48_57, in_6_17, in_e_99, in_e_9999, in_within, c1, c2, tg_51 hZ, tg_52 hZ, tg_53 hZ, tg_54 hZ, tg_55 hZ, tg_56 hZ, tg_57 hZ, tg_58 hZ, tg_59 hZ, tg_60 hZ, tg_61 hZ, tg_62 hZ, tg_63 hZ, tg_64 hZ, tg_65 hZ, tg_66 hZ, tg_67 hZ, tg_68 hZ, tg_69 hZ, tg_70 hZ, tg_71 hZ, tg_72 hZ, tg_73 hZ, tg_74 hZ, tg_75 hZ, tg_76 hZ, tg_77 hZ, tg_78 hZ, tg_79 hZ, tg_80 hZ, tg_81 hZ, tg_82 hZ, tg_83 hZ, tg_84 hZ, tg_85 hZ, tg_86 hZ, tg_87 hZ, tg_88 hZ, tg_89 hZ, tg_90 hZ, tg_91 hZ, tg_92 hZ, tg_93 hZ, tg_94 hZ, tg_95 hZ, tg_96 hZ, tg_97 hZ, tg_98 hZ, tg_99 hZ, tg_100 hZ, tg_101 hZ, tg_102 hZ, tg_103 hZ, tg_104 hZ, tg_105 hZ, tg_106 hZ, tg_107 hZ, tg_108 hZ, tg_109 hZ, fr_51_0 hF, fr_51_1 hF, fr_51_2 hF, fr_51_4 hF, fr_51_5 hF, fr_51_6 hF, fr_51_7 hF, fr_51_8 hF, fr_51_9 hF, fr_51_10 hF, fr_51_16 hF, fr_51_17 hF, fr_51_18 hF, fr_51_19 hF, fr_51_20 hF, fr_51_22 hF, fr_51_23 hF, fr_51_24 hF, fr_51_25 hF, fr_51_26 hF, fr_51_27 hF, fr_51_28 hF, fr_51_29 hF, fr_51_30 hF, fr_51_31 hF, fr_51_32 hF, fr_51_33 hF, fr_51_36 hF, fr_51_37 hF, fr_51_38 hF, fr_51_39 hF, fr_51_40 hF, fr_51_41 hF, fr_51_42 hF, fr_51_51 hF, fr_51_52 hF, fr_51_54 hF, fr_51_56 hF, fr_51_58 hF, fr_51_59 hF, fr_51_60 hF, fr_51_62 hF, fr_51_63 hF, fr_51_67 hF, fr_51_68 hF, fr_51_69 hF, fr_51_70 hF, fr_51_71 hF, fr_51_72 hF, fr_51_73 hF, fr_51_74 hF, fr_51_76 hF, fr_51_77 hF, fr_51_78 hF, fr_51_79 hF, fr_51_82 hF, fr_51_83 hF, fr_51_84 hF, pu, rI_wI, rJ_wI, rR_wI, rI_wJ, rJ_wJ, rR_wJ, rI_wR, rJ_wR, rR_wR, if_pos a99, hix, c3, hv2]
      · intro k
        simp [rI_wI, h1]
      · intro k
        by_cases hk : k = p
        · subst hk; simpa [rI_wI] using hvb
        · simpa [rI_wI, hk] using h2 k
      · exact (Wr.rf.sI (by simp [inF])).sI (by simp [inF])
theorem op_debt {Z : Shp} {M : Mem} (hZ : OKZ Z) (hF : Fix M) (hI : IDebt M) (x1 x2 x3 : Int32) : ∃ r M1 M2, fX11_debt Z M 2 x1 x2 x3 = some (r, M1) ∧ fX12_debt Z M1 51 x1 x2 x3 = some (r, M2) ∧ IDebt M2 ∧ Wr Z FDebt [] [] M M2 := by
  obtain ⟨h1, h2⟩ := id hI
  by_cases c1 : fX11_within x1 0 3 = 0
  · exact ⟨-101, M, M, by simp [fX11_debt, c1], by simp [fX12_debt, fX12_isCarrier, in_m1_e, in_0_e, in_0_1, in_0_2, in_0_23, in_0_3, in_0_4, in_0_40, in_0_5, in_0_50, in_0_599, in_0_6, in_0_7, in_0_9, in_0_99, in_0_999, in_0_9999, in_0_99999, in_0_999999, in_1_100, in_1_200, in_1_6, in_1_9, in_1_999, in_10_17, in_10_200, in_48_57, in_6_17, in_e_99, in_e_9999, in_within, c1], hI, Wr.rf⟩
  · by_cases c2 : fX11_within x2 0 2 = 0
    · exact ⟨-101, M, M, by simp [fX11_debt, c1, c2], by simp [fX12_debt, fX12_isCarrier, in_m1_e, in_0_e, in_0_1, in_0_2, in_0_23, in_0_3, in_0_4, in_0_40, in_0_5, in_0_50, in_0_599, in_0_6, in_0_7, in_0_9, in_0_99, in_0_999, in_0_9999, in_0_99999, in_0_999999, in_1_100, in_1_200, in_1_6, in_1_9, in_1_999, in_10_17, in_10_200, in_48_57, in_6_17, in_e_99, in_e_9999, in_within, c1, c2], hI, Wr.rf⟩
    · by_cases c3 : fX11_within x3 0 9999 = 0
      · exact ⟨-102, M, M, by simp [fX11_debt, c1, c2, c3], by simp [fX12_debt, fX12_isCarrier, in_m1_e, in_0_e, in_0_1, in_0_2, in_0_23, in_0_3, in_0_4, in_0_40, in_0_5, in_0_50, in_0_599, in_0_6, in_0_7, in_0_9, in_0_99, in_0_999, in_0_9999, in_0_99999, in_0_999999, in_1_100, in_1_200, in_1_6, in_1_9, in_1_999, in_10_17, in_10_200, in_48_57, in_6_17, in_e_99, in_e_9999, in_within, c1, c2, c3], hI, Wr.rf⟩
      · obtain ⟨p, hp, rfl⟩ := wN (n := 3) (by decide) c1
        obtain ⟨q, hq, rfl⟩ := wN (n := 2) (by decide) c2
        have e1 : nI p * 3 + nI q = nI (3 * p + q) := by
          rw [show (3 : Int32) = nI 3 from rfl, pk_mul, nI_add, Nat.mul_comm]
        have e2 : 3 * nI p + nI q = nI (3 * p + q) := by
          rw [show (3 : Int32) = nI 3 from rfl, pk_mul, nI_add]
        have hix : ix (nI (3 * p + q)) = 3 * p + q := ix_nI (by omega)
        have a41 : aok Z 41 100 (nI (3 * p + q)) := aok_nI (tg_41 hZ) (by omega) (by decide)
        have a101 : aok Z 101 100 (nI (3 * p + q)) := aok_nI (tg_101 hZ) (by omega) (by decide)
        refine ⟨rI M 101 (3 * p + q), wI M 41 (3 * p + q) x3, wI (wI M 41 (3 * p + q) x3) 101 (3 * p + q) x3, ?_, ?_, ⟨?_, ?_⟩, ?_⟩
        · simp [fX11_debt, fX5_replaceDebt, fX5_debtOf, c1, c2, c3, tg_2 hZ, tg_3 hZ, tg_4 hZ, tg_5 hZ, tg_6 hZ, tg_7 hZ, tg_8 hZ, tg_24 hZ, tg_25 hZ, tg_26 hZ, tg_27 hZ, tg_28 hZ, tg_29 hZ, tg_30 hZ, tg_31 hZ, tg_32 hZ, tg_33 hZ, tg_34 hZ, tg_35 hZ, tg_36 hZ, tg_37 hZ, tg_38 hZ, tg_39 hZ, tg_40 hZ, tg_41 hZ, tg_42 hZ, tg_43 hZ, tg_44 hZ, tg_45 hZ, tg_46 hZ, tg_47 hZ, tg_48 hZ, tg_49 hZ, tg_50 hZ, fr_2_0 hF, fr_3_0 hF, fr_3_1 hF, fr_3_2 hF, fr_3_3 hF, fr_3_4 hF, fr_2_1 hF, fr_24_0 hF, fr_24_2 hF, fr_2_2 hF, fr_27_0 hF, fr_27_1 hF, fr_27_2 hF, fr_27_8 hF, fr_2_3 hF, fr_32_0 hF, fr_32_1 hF, fr_32_3 hF, fr_32_4 hF, fr_32_5 hF, fr_32_6 hF, fr_2_4 hF, fr_39_0 hF, fr_39_1 hF, fr_39_2 hF, fr_39_3 hF, fr_39_4 hF, fr_39_5 hF, fr_39_6 hF, fr_2_5 hF, fr_47_0 hF, fr_47_1 hF, fr_47_2 hF, pu, e1, if_pos a41, hix, h1]
        · simp [fX12_debt, fX12_isCarrier, in_m1_e, in_0_e, in_0_1, in_0_2, in_0_23, in_0_3, in_0_4, in_0_40, in_0_5, in_0_50, in_0_599, in_0_6, in_0_7, in_0_9, in_0_99, in_0_999, in_0_9999, in_0_99999, in_0_999999, in_1_100, in_1_200, in_1_6, in_1_9, in_1_999, in_10_17, in_10_200, in_48_57, in_6_17, in_e_99, in_e_9999, in_within, c1, c2, c3, tg_51 hZ, tg_52 hZ, tg_53 hZ, tg_54 hZ, tg_55 hZ, tg_56 hZ, tg_57 hZ, tg_58 hZ, tg_59 hZ, tg_60 hZ, tg_61 hZ, tg_62 hZ, tg_63 hZ, tg_64 hZ, tg_65 hZ, tg_66 hZ, tg_67 hZ, tg_68 hZ, tg_69 hZ, tg_70 hZ, tg_71 hZ, tg_72 hZ, tg_73 hZ, tg_74 hZ, tg_75 hZ, tg_76 hZ, tg_77 hZ, tg_78 hZ, tg_79 hZ, tg_80 hZ, tg_81 hZ, tg_82 hZ, tg_83 hZ, tg_84 hZ, tg_85 hZ, tg_86 hZ, tg_87 hZ, tg_88 hZ, tg_89 hZ, tg_90 hZ, tg_91 hZ, tg_92 hZ, tg_93 hZ, tg_94 hZ, tg_95 hZ, tg_96 hZ, tg_97 hZ, tg_98 hZ, tg_99 hZ, tg_100 hZ, tg_101 hZ, tg_102 hZ, tg_103 hZ, tg_104 hZ, tg_105 hZ, tg_106 hZ, tg_107 hZ, tg_108 hZ, tg_109 hZ, fr_51_0 hF, fr_51_1 hF, fr_51_2 hF, fr_51_4 hF, fr_51_5 hF, fr_51_6 hF, fr_51_7 hF, fr_51_8 hF, fr_51_9 hF, fr_51_10 hF, fr_51_16 hF, fr_51_17 hF, fr_51_18 hF, fr_51_19 hF, fr_51_20 hF, fr_51_22 hF, fr_51_23 hF, fr_51_24 hF, fr_51_25 hF, fr_51_26 hF, fr_51_27 hF, fr_51_28 hF, fr_51_29 hF, fr_51_30 hF, fr_51_31 hF, fr_51_32 hF, fr_51_33 hF, fr_51_36 hF, fr_51_37 hF, fr_51_38 hF, fr_51_39 hF, fr_51_40 hF, fr_51_41 hF, fr_51_42 hF, fr_51_51 hF, fr_51_52 hF, fr_51_54 hF, fr_51_56 hF, fr_51_58 hF, fr_51_59 hF, fr_51_60 hF, fr_51_62 hF, fr_51_63 hF, fr_51_67 hF, fr_51_68 hF, fr_51_69 hF, fr_51_70 hF, fr_51_71 hF, fr_51_72 hF, fr_51_73 hF, fr_51_74 hF, fr_51_76 hF, fr_51_77 hF, fr_51_78 hF, fr_51_79 hF, fr_51_82 hF, fr_51_83 hF, fr_51_84 hF, pu, rI_wI, rJ_wI, rR_wI, rI_wJ, rJ_wJ, rR_wJ, rI_wR, rJ_wR, rR_wR, e2, if_pos a101, hix]
        · intro k
          simp [rI_wI, h1]
        · intro k
          by_cases hk : k = 3 * p + q
          · subst hk; simpa [rI_wI] using w_rng c3
          · simpa [rI_wI, hk] using h2 k
        · exact (Wr.rf.sI (by simp [inF])).sI (by simp [inF])
