/-! works, readings, shares -/
def IWorks (M : Mem) : Prop := ∃ n : Nat, n ≤ 8 ∧ rI M 47 3 = nI n ∧ rI M 51 81 = nI n ∧ (∀ k, rI M 48 k = rI M 107 k) ∧ (∀ k, rI M 49 k = rI M 108 k) ∧ (∀ k, rI M 50 k = rI M 109 k) ∧ ∀ k, k < n → (1 ≤ (rI M 107 k).toInt ∧ (rI M 107 k).toInt ≤ 999) ∧ (0 ≤ (rI M 108 k).toInt ∧ (rI M 108 k).toInt ≤ 999) ∧ -1 ≤ (rI M 109 k).toInt ∧ (rI M 109 k).toInt < k
abbrev FWorks : List (Nat × Option Nat) := [(47, some 3), (48, none), (49, none), (50, none), (51, some 81), (107, none), (108, none), (109, none)]
theorem IWorks.keep {Z : Shp} {L : List (Nat × Option Nat)} {ts LR : List Nat} {M M1 : Mem} (h : IWorks M) (w : Wr Z L ts LR M M1) (hd : dis L FWorks = true) : IWorks M1 := by
  unfold IWorks at h ⊢
  simp only [w.row hd (a := 48) (by simp) (by omega), w.row hd (a := 49) (by simp) (by omega), w.row hd (a := 50) (by simp) (by omega), w.row hd (a := 107) (by simp) (by omega), w.row hd (a := 108) (by simp) (by omega), w.row hd (a := 109) (by simp) (by omega), w.at hd (a := 47) (k := 3) (by simp) (by omega), w.at hd (a := 51) (k := 81) (by simp) (by omega)]
  exact h
theorem nI_predI {n : Nat} (h : n < 2 ^ 31) : (nI n - 1).toInt = (n : Int) - 1 := by
  have h1 := nI_toInt h
  have h2 : (1 : Int32).toInt = 1 := by decide
  rw [sub_toInt (by omega) (by omega), h1, h2]
theorem op_work {Z : Shp} {M : Mem} (hZ : OKZ Z) (hF : Fix M) (hI : IWorks M) (x1 x2 x3 : Int32) : ∃ r M1 M2, fX11_work Z M 2 x1 x2 x3 = some (r, M1) ∧ fX12_work Z M1 51 x1 x2 x3 = some (r, M2) ∧ IWorks M2 ∧ Wr Z FWorks [] [] M M2 := by
  obtain ⟨n, hn, h1, h2, e1, e2, e3, hv⟩ := id hI
  by_cases c1 : fX11_within x3 (-1) (nI n - 1) = 0
  · refine ⟨-101, M, M, ?_, ?_, hI, Wr.rf⟩
    · simp [fX11_work, tg_2 hZ, tg_3 hZ, tg_4 hZ, tg_5 hZ, tg_6 hZ, tg_7 hZ, tg_8 hZ, tg_24 hZ, tg_25 hZ, tg_26 hZ, tg_27 hZ, tg_28 hZ, tg_29 hZ, tg_30 hZ, tg_31 hZ, tg_32 hZ, tg_33 hZ, tg_34 hZ, tg_35 hZ, tg_36 hZ, tg_37 hZ, tg_38 hZ, tg_39 hZ, tg_40 hZ, tg_41 hZ, tg_42 hZ, tg_43 hZ, tg_44 hZ, tg_45 hZ, tg_46 hZ, tg_47 hZ, tg_48 hZ, tg_49 hZ, tg_50 hZ, fr_2_0 hF, fr_3_0 hF, fr_3_1 hF, fr_3_2 hF, fr_3_3 hF, fr_3_4 hF, fr_2_1 hF, fr_24_0 hF, fr_24_2 hF, fr_2_2 hF, fr_27_0 hF, fr_27_1 hF, fr_27_2 hF, fr_27_8 hF, fr_2_3 hF, fr_32_0 hF, fr_32_1 hF, fr_32_3 hF, fr_32_4 hF, fr_32_5 hF, fr_32_6 hF, fr_2_4 hF, fr_39_0 hF, fr_39_1 hF, fr_39_2 hF, fr_39_3 hF, fr_39_4 hF, fr_39_5 hF, fr_39_6 hF, fr_2_5 hF, fr_47_0 hF, fr_47_1 hF, fr_47_2 hF, h1, c1]
    · simp [fX12_work, in_m1_e, in_0_e, in_0_1, in_0_2, in_0_23, in_0_3, in_0_4, in_0_40, in_0_5, in_0_50, in_0_599, in_0_6, in_0_7, in_0_9, in_0_99, in_0_999, in_0_9999, in_0_99999, in_0_999999, in_1_100, in_1_200, in_1_6, in_1_9, in_1_999, in_10_17, in_10_200, in_48_57, in_6_17, in_e_99, in_e_9999, in_within, tg_51 hZ, tg_52 hZ, tg_53 hZ, tg_54 hZ, tg_55 hZ, tg_56 hZ, tg_57 hZ, tg_58 hZ, tg_59 hZ, tg_60 hZ, tg_61 hZ, tg_62 hZ, tg_63 hZ, tg_64 hZ, tg_65 hZ, tg_66 hZ, tg_67 hZ, tg_68 hZ, tg_69 hZ, tg_70 hZ, tg_71 hZ, tg_72 hZ, tg_73 hZ, tg_74 hZ, tg_75 hZ, tg_76 hZ, tg_77 hZ, tg_78 hZ, tg_79 hZ, tg_80 hZ, tg_81 hZ, tg_82 hZ, tg_83 hZ, tg_84 hZ, tg_85 hZ, tg_86 hZ, tg_87 hZ, tg_88 hZ, tg_89 hZ, tg_90 hZ, tg_91 hZ, tg_92 hZ, tg_93 hZ, tg_94 hZ, tg_95 hZ, tg_96 hZ, tg_97 hZ, tg_98 hZ, tg_99 hZ, tg_100 hZ, tg_101 hZ, tg_102 hZ, tg_103 hZ, tg_104 hZ, tg_105 hZ, tg_106 hZ, tg_107 hZ, tg_108 hZ, tg_109 hZ, fr_51_0 hF, fr_51_1 hF, fr_51_2 hF, fr_51_4 hF, fr_51_5 hF, fr_51_6 hF, fr_51_7 hF, fr_51_8 hF, fr_51_9 hF, fr_51_10 hF, fr_51_16 hF, fr_51_17 hF, fr_51_18 hF, fr_51_19 hF, fr_51_20 hF, fr_51_22 hF, fr_51_23 hF, fr_51_24 hF, fr_51_25 hF, fr_51_26 hF, fr_51_27 hF, fr_51_28 hF, fr_51_29 hF, fr_51_30 hF, fr_51_31 hF, fr_51_32 hF, fr_51_33 hF, fr_51_36 hF, fr_51_37 hF, fr_51_38 hF, fr_51_39 hF, fr_51_40 hF, fr_51_41 hF, fr_51_42 hF, fr_51_51 hF, fr_51_52 hF, fr_51_54 hF, fr_51_56 hF, fr_51_58 hF, fr_51_59 hF, fr_51_60 hF, fr_51_62 hF, fr_51_63 hF, fr_51_67 hF, fr_51_68 hF, fr_51_69 hF, fr_51_70 hF, fr_51_71 hF, fr_51_72 hF, fr_51_73 hF, fr_51_74 hF, fr_51_76 hF, fr_51_77 hF, fr_51_78 hF, fr_51_79 hF, fr_51_82 hF, fr_51_83 hF, fr_51_84 hF, h2, c1]
  · by_cases c2 : fX11_within x1 1 999 = 0
    · refine ⟨-102, M, M, ?_, ?_, hI, Wr.rf⟩
      · simp [fX11_work, tg_2 hZ, tg_3 hZ, tg_4 hZ, tg_5 hZ, tg_6 hZ, tg_7 hZ, tg_8 hZ, tg_24 hZ, tg_25 hZ, tg_26 hZ, tg_27 hZ, tg_28 hZ, tg_29 hZ, tg_30 hZ, tg_31 hZ, tg_32 hZ, tg_33 hZ, tg_34 hZ, tg_35 hZ, tg_36 hZ, tg_37 hZ, tg_38 hZ, tg_39 hZ, tg_40 hZ, tg_41 hZ, tg_42 hZ, tg_43 hZ, tg_44 hZ, tg_45 hZ, tg_46 hZ, tg_47 hZ, tg_48 hZ, tg_49 hZ, tg_50 hZ, fr_2_0 hF, fr_3_0 hF, fr_3_1 hF, fr_3_2 hF, fr_3_3 hF, fr_3_4 hF, fr_2_1 hF, fr_24_0 hF, fr_24_2 hF, fr_2_2 hF, fr_27_0 hF, fr_27_1 hF, fr_27_2 hF, fr_27_8 hF, fr_2_3 hF, fr_32_0 hF, fr_32_1 hF, fr_32_3 hF, fr_32_4 hF, fr_32_5 hF, fr_32_6 hF, fr_2_4 hF, fr_39_0 hF, fr_39_1 hF, fr_39_2 hF, fr_39_3 hF, fr_39_4 hF, fr_39_5 hF, fr_39_6 hF, fr_2_5 hF, fr_47_0 hF, fr_47_1 hF, fr_47_2 hF, h1, c1, c2]
      · simp [fX12_work, in_m1_e, in_0_e, in_0_1, in_0_2, in_0_23, in_0_3, in_0_4, in_0_40, in_0_5, in_0_50, in_0_599, in_0_6, in_0_7, in_0_9, in_0_99, in_0_999, in_0_9999, in_0_99999, in_0_999999, in_1_100, in_1_200, in_1_6, in_1_9, in_1_999, in_10_17, in_10_200, in_48_57, in_6_17, in_e_99, in_e_9999, in_within, tg_51 hZ, tg_52 hZ, tg_53 hZ, tg_54 hZ, tg_55 hZ, tg_56 hZ, tg_57 hZ, tg_58 hZ, tg_59 hZ, tg_60 hZ, tg_61 hZ, tg_62 hZ, tg_63 hZ, tg_64 hZ, tg_65 hZ, tg_66 hZ, tg_67 hZ, tg_68 hZ, tg_69 hZ, tg_70 hZ, tg_71 hZ, tg_72 hZ, tg_73 hZ, tg_74 hZ, tg_75 hZ, tg_76 hZ, tg_77 hZ, tg_78 hZ, tg_79 hZ, tg_80 hZ, tg_81 hZ, tg_82 hZ, tg_83 hZ, tg_84 hZ, tg_85 hZ, tg_86 hZ, tg_87 hZ, tg_88 hZ, tg_89 hZ, tg_90 hZ, tg_91 hZ, tg_92 hZ, tg_93 hZ, tg_94 hZ, tg_95 hZ, tg_96 hZ, tg_97 hZ, tg_98 hZ, tg_99 hZ, tg_100 hZ, tg_101 hZ, tg_102 hZ, tg_103 hZ, tg_104 hZ, tg_105 hZ, tg_106 hZ, tg_107 hZ, tg_108 hZ, tg_109 hZ, fr_51_0 hF, fr_51_1 hF, fr_51_2 hF, fr_51_4 hF, fr_51_5 hF, fr_51_6 hF, fr_51_7 hF, fr_51_8 hF, fr_51_9 hF, fr_51_10 hF, fr_51_16 hF, fr_51_17 hF, fr_51_18 hF, fr_51_19 hF, fr_51_20 hF, fr_51_22 hF, fr_51_23 hF, fr_51_24 hF, fr_51_25 hF, fr_51_26 hF, fr_51_27 hF, fr_51_28 hF, fr_51_29 hF, fr_51_30 hF, fr_51_31 hF, fr_51_32 hF, fr_51_33 hF, fr_51_36 hF, fr_51_37 hF, fr_51_38 hF, fr_51_39 hF, fr_51_40 hF, fr_51_41 hF, fr_51_42 hF, fr_51_51 hF, fr_51_52 hF, fr_51_54 hF, fr_51_56 hF, fr_51_58 hF, fr_51_59 hF, fr_51_60 hF, fr_51_62 hF, fr_51_63 hF, fr_51_67 hF, fr_51_68 hF, fr_51_69 hF, fr_51_70 hF, fr_51_71 hF, fr_51_72 hF, fr_51_73 hF, fr_51_74 hF, fr_51_76 hF, fr_51_77 hF, fr_51_78 hF, fr_51_79 hF, fr_51_82 hF, fr_51_83 hF, fr_51_84 hF, h2, c1, c2]
    · by_cases c3 : fX11_within x2 0 999 = 0
      · refine ⟨-102, M, M, ?_, ?_, hI, Wr.rf⟩
        · simp [fX11_work, tg_2 hZ, tg_3 hZ, tg_4 hZ, tg_5 hZ, tg_6 hZ, tg_7 hZ, tg_8 hZ, tg_24 hZ, tg_25 hZ, tg_26 hZ, tg_27 hZ, tg_28 hZ, tg_29 hZ, tg_30 hZ, tg_31 hZ, tg_32 hZ, tg_33 hZ, tg_34 hZ, tg_35 hZ, tg_36 hZ, tg_37 hZ, tg_38 hZ, tg_39 hZ, tg_40 hZ, tg_41 hZ, tg_42 hZ, tg_43 hZ, tg_44 hZ, tg_45 hZ, tg_46 hZ, tg_47 hZ, tg_48 hZ, tg_49 hZ, tg_50 hZ, fr_2_0 hF, fr_3_0 hF, fr_3_1 hF, fr_3_2 hF, fr_3_3 hF, fr_3_4 hF, fr_2_1 hF, fr_24_0 hF, fr_24_2 hF, fr_2_2 hF, fr_27_0 hF, fr_27_1 hF, fr_27_2 hF, fr_27_8 hF, fr_2_3 hF, fr_32_0 hF, fr_32_1 hF, fr_32_3 hF, fr_32_4 hF, fr_32_5 hF, fr_32_6 hF, fr_2_4 hF, fr_39_0 hF, fr_39_1 hF, fr_39_2 hF, fr_39_3 hF, fr_39_4 hF, fr_39_5 hF, fr_39_6 hF, fr_2_5 hF, fr_47_0 hF, fr_47_1 hF, fr_47_2 hF, h1, c1, c2, c3]
        · simp [fX12_work, in_m1_e, in_0_e, in_0_1, in_0_2, in_0_23, in_0_3, in_0_4, in_0_40, in_0_5, in_0_50, in_0_599, in_0_6, in_0_7, in_0_9, in_0_99, in_0_999, in_0_9999, in_0_99999, in_0_999999, in_1_100, in_1_200, in_1_6, in_1_9, in_1_999, in_10_17, in_10_200, in_48_57, in_6_17, in_e_99, in_e_9999, in_within, tg_51 hZ, tg_52 hZ, tg_53 hZ, tg_54 hZ, tg_55 hZ, tg_56 hZ, tg_57 hZ, tg_58 hZ, tg_59 hZ, tg_60 hZ, tg_61 hZ, tg_62 hZ, tg_63 hZ, tg_64 hZ, tg_65 hZ, tg_66 hZ, tg_67 hZ, tg_68 hZ, tg_69 hZ, tg_70 hZ, tg_71 hZ, tg_72 hZ, tg_73 hZ, tg_74 hZ, tg_75 hZ, tg_76 hZ, tg_77 hZ, tg_78 hZ, tg_79 hZ, tg_80 hZ, tg_81 hZ, tg_82 hZ, tg_83 hZ, tg_84 hZ, tg_85 hZ, tg_86 hZ, tg_87 hZ, tg_88 hZ, tg_89 hZ, tg_90 hZ, tg_91 hZ, tg_92 hZ, tg_93 hZ, tg_94 hZ, tg_95 hZ, tg_96 hZ, tg_97 hZ, tg_98 hZ, tg_99 hZ, tg_100 hZ, tg_101 hZ, tg_102 hZ, tg_103 hZ, tg_104 hZ, tg_105 hZ, tg_106 hZ, tg_107 hZ, tg_108 hZ, tg_109 hZ, fr_51_0 hF, fr_51_1 hF, fr_51_2 hF, fr_51_4 hF, fr_51_5 hF, fr_51_6 hF, fr_51_7 hF, fr_51_8 hF, fr_51_9 hF, fr_51_10 hF, fr_51_16 hF, fr_51_17 hF, fr_51_18 hF, fr_51_19 hF, fr_51_20 hF, fr_51_22 hF, fr_51_23 hF, fr_51_24 hF, fr_51_25 hF, fr_51_26 hF, fr_51_27 hF, fr_51_28 hF, fr_51_29 hF, fr_51_30 hF, fr_51_31 hF, fr_51_32 hF, fr_51_33 hF, fr_51_36 hF, fr_51_37 hF, fr_51_38 hF, fr_51_39 hF, fr_51_40 hF, fr_51_41 hF, fr_51_42 hF, fr_51_51 hF, fr_51_52 hF, fr_51_54 hF, fr_51_56 hF, fr_51_58 hF, fr_51_59 hF, fr_51_60 hF, fr_51_62 hF, fr_51_63 hF, fr_51_67 hF, fr_51_68 hF, fr_51_69 hF, fr_51_70 hF, fr_51_71 hF, fr_51_72 hF, fr_51_73 hF, fr_51_74 hF, fr_51_76 hF, fr_51_77 hF, fr_51_78 hF, fr_51_79 hF, fr_51_82 hF, fr_51_83 hF, fr_51_84 hF, h2, c1, c2, c3]
      · by_cases c4 : n = 8
        · subst c4
          refine ⟨-104, M, M, ?_, ?_, hI, Wr.rf⟩
          · simp [fX11_work, fX10_add, tg_2 hZ, tg_3 hZ, tg_4 hZ, tg_5 hZ, tg_6 hZ, tg_7 hZ, tg_8 hZ, tg_24 hZ, tg_25 hZ, tg_26 hZ, tg_27 hZ, tg_28 hZ, tg_29 hZ, tg_30 hZ, tg_31 hZ, tg_32 hZ, tg_33 hZ, tg_34 hZ, tg_35 hZ, tg_36 hZ, tg_37 hZ, tg_38 hZ, tg_39 hZ, tg_40 hZ, tg_41 hZ, tg_42 hZ, tg_43 hZ, tg_44 hZ, tg_45 hZ, tg_46 hZ, tg_47 hZ, tg_48 hZ, tg_49 hZ, tg_50 hZ, fr_2_0 hF, fr_3_0 hF, fr_3_1 hF, fr_3_2 hF, fr_3_3 hF, fr_3_4 hF, fr_2_1 hF, fr_24_0 hF, fr_24_2 hF, fr_2_2 hF, fr_27_0 hF, fr_27_1 hF, fr_27_2 hF, fr_27_8 hF, fr_2_3 hF, fr_32_0 hF, fr_32_1 hF, fr_32_3 hF, fr_32_4 hF, fr_32_5 hF, fr_32_6 hF, fr_2_4 hF, fr_39_0 hF, fr_39_1 hF, fr_39_2 hF, fr_39_3 hF, fr_39_4 hF, fr_39_5 hF, fr_39_6 hF, fr_2_5 hF, fr_47_0 hF, fr_47_1 hF, fr_47_2 hF, h1, c1, c2, c3, show ¬ nI 8 < 8 by decide]
          · have c5 : ¬ fX12_in x3.toInt64 (-1) 7 = 0 := by
              rw [in_w (a := -1) (b := 7) (by decide) (by decide)]
              rw [show nI 8 - 1 = 7 by decide] at c1
              exact c1
            simp [fX12_work, in_m1_e, in_0_e, in_0_1, in_0_2, in_0_23, in_0_3, in_0_4, in_0_40, in_0_5, in_0_50, in_0_599, in_0_6, in_0_7, in_0_9, in_0_99, in_0_999, in_0_9999, in_0_99999, in_0_999999, in_1_100, in_1_200, in_1_6, in_1_9, in_1_999, in_10_17, in_10_200, in_48_57, in_6_17, in_e_99, in_e_9999, in_within, tg_51 hZ, tg_52 hZ, tg_53 hZ, tg_54 hZ, tg_55 hZ, tg_56 hZ, tg_57 hZ, tg_58 hZ, tg_59 hZ, tg_60 hZ, tg_61 hZ, tg_62 hZ, tg_63 hZ, tg_64 hZ, tg_65 hZ, tg_66 hZ, tg_67 hZ, tg_68 hZ, tg_69 hZ, tg_70 hZ, tg_71 hZ, tg_72 hZ, tg_73 hZ, tg_74 hZ, tg_75 hZ, tg_76 hZ, tg_77 hZ, tg_78 hZ, tg_79 hZ, tg_80 hZ, tg_81 hZ, tg_82 hZ, tg_83 hZ, tg_84 hZ, tg_85 hZ, tg_86 hZ, tg_87 hZ, tg_88 hZ, tg_89 hZ, tg_90 hZ, tg_91 hZ, tg_92 hZ, tg_93 hZ, tg_94 hZ, tg_95 hZ, tg_96 hZ, tg_97 hZ, tg_98 hZ, tg_99 hZ, tg_100 hZ, tg_101 hZ, tg_102 hZ, tg_103 hZ, tg_104 hZ, tg_105 hZ, tg_106 hZ, tg_107 hZ, tg_108 hZ, tg_109 hZ, fr_51_0 hF, fr_51_1 hF, fr_51_2 hF, fr_51_4 hF, fr_51_5 hF, fr_51_6 hF, fr_51_7 hF, fr_51_8 hF, fr_51_9 hF, fr_51_10 hF, fr_51_16 hF, fr_51_17 hF, fr_51_18 hF, fr_51_19 hF, fr_51_20 hF, fr_51_22 hF, fr_51_23 hF, fr_51_24 hF, fr_51_25 hF, fr_51_26 hF, fr_51_27 hF, fr_51_28 hF, fr_51_29 hF, fr_51_30 hF, fr_51_31 hF, fr_51_32 hF, fr_51_33 hF, fr_51_36 hF, fr_51_37 hF, fr_51_38 hF, fr_51_39 hF, fr_51_40 hF, fr_51_41 hF, fr_51_42 hF, fr_51_51 hF, fr_51_52 hF, fr_51_54 hF, fr_51_56 hF, fr_51_58 hF, fr_51_59 hF, fr_51_60 hF, fr_51_62 hF, fr_51_63 hF, fr_51_67 hF, fr_51_68 hF, fr_51_69 hF, fr_51_70 hF, fr_51_71 hF, fr_51_72 hF, fr_51_73 hF, fr_51_74 hF, fr_51_76 hF, fr_51_77 hF, fr_51_78 hF, fr_51_79 hF, fr_51_82 hF, fr_51_83 hF, fr_51_84 hF, h2, c1, c2, c3, c5, show nI 8 = 8 by decide]
        · have hn8 : n < 8 := by omega
          have hlt : nI n < 8 := nI_lt hn8 (by decide)
          have hne : ¬ nI n = 8 := fun h => c4 ((nI_eq (by omega) (by decide)).mp h)
          have hix : ix (nI n) = n := ix_nI (by omega)
          have a48 : aok Z 48 100 (nI n) := aok_nI (tg_48 hZ) hn8 (by decide)
          have a49 : aok Z 49 100 (nI n) := aok_nI (tg_49 hZ) hn8 (by decide)
          have a50 : aok Z 50 100 (nI n) := aok_nI (tg_50 hZ) hn8 (by decide)
          have a107 : aok Z 107 100 (nI n) := aok_nI (tg_107 hZ) hn8 (by decide)
          have a108 : aok Z 108 100 (nI n) := aok_nI (tg_108 hZ) hn8 (by decide)
          have a109 : aok Z 109 100 (nI n) := aok_nI (tg_109 hZ) hn8 (by decide)
          refine ⟨nI n, wI (wI (wI (wI M 48 n x1) 49 n x2) 50 n x3) 47 3 (nI n + 1), wI (wI (wI (wI (wI (wI (wI (wI M 48 n x1) 49 n x2) 50 n x3) 47 3 (nI n + 1)) 107 n x1) 108 n x2) 109 n x3) 51 81 (nI n + 1), ?_, ?_, ⟨n + 1, by omega, ?_, ?_, ?_, ?_, ?_, ?_⟩, ?_⟩
          · simp [fX11_work, fX10_add, tg_2 hZ, tg_3 hZ, tg_4 hZ, tg_5 hZ, tg_6 hZ, tg_7 hZ, tg_8 hZ, tg_24 hZ, tg_25 hZ, tg_26 hZ, tg_27 hZ, tg_28 hZ, tg_29 hZ, tg_30 hZ, tg_31 hZ, tg_32 hZ, tg_33 hZ, tg_34 hZ, tg_35 hZ, tg_36 hZ, tg_37 hZ, tg_38 hZ, tg_39 hZ, tg_40 hZ, tg_41 hZ, tg_42 hZ, tg_43 hZ, tg_44 hZ, tg_45 hZ, tg_46 hZ, tg_47 hZ, tg_48 hZ, tg_49 hZ, tg_50 hZ, fr_2_0 hF, fr_3_0 hF, fr_3_1 hF, fr_3_2 hF, fr_3_3 hF, fr_3_4 hF, fr_2_1 hF, fr_24_0 hF, fr_24_2 hF, fr_2_2 hF, fr_27_0 hF, fr_27_1 hF, fr_27_2 hF, fr_27_8 hF, fr_2_3 hF, fr_32_0 hF, fr_32_1 hF, fr_32_3 hF, fr_32_4 hF, fr_32_5 hF, fr_32_6 hF, fr_2_4 hF, fr_39_0 hF, fr_39_1 hF, fr_39_2 hF, fr_39_3 hF, fr_39_4 hF, fr_39_5 hF, fr_39_6 hF, fr_2_5 hF, fr_47_0 hF, fr_47_1 hF, fr_47_2 hF, h1, c1, c2, c3, hlt, if_pos a48, if_pos a49, if_pos a50, hix, pu, rI_wI, rJ_wI, rR_wI, rI_wJ, rJ_wJ, rR_wJ, rI_wR, rJ_wR, rR_wR]
          · simp [fX12_work, in_m1_e, in_0_e, in_0_1, in_0_2, in_0_23, in_0_3, in_0_4, in_0_40, in_0_5, in_0_50, in_0_599, in_0_6, in_0_7, in_0_9, in_0_99, in_0_999, in_0_9999, in_0_99999, in_0_999999, in_1_100, in_1_200, in_1_6, in_1_9, in_1_999, in_10_17, in_10_200, in_48_57, in_6_17, in_e_99, in_e_9999, in_within, tg_51 hZ, tg_52 hZ, tg_53 hZ, tg_54 hZ, tg_55 hZ, tg_56 hZ, tg_57 hZ, tg_58 hZ, tg_59 hZ, tg_60 hZ, tg_61 hZ, tg_62 hZ, tg_63 hZ, tg_64 hZ, tg_65 hZ, tg_66 hZ, tg_67 hZ, tg_68 hZ, tg_69 hZ, tg_70 hZ, tg_71 hZ, tg_72 hZ, tg_73 hZ, tg_74 hZ, tg_75 hZ, tg_76 hZ, tg_77 hZ, tg_78 hZ, tg_79 hZ, tg_80 hZ, tg_81 hZ, tg_82 hZ, tg_83 hZ, tg_84 hZ, tg_85 hZ, tg_86 hZ, tg_87 hZ, tg_88 hZ, tg_89 hZ, tg_90 hZ, tg_91 hZ, tg_92 hZ, tg_93 hZ, tg_94 hZ, tg_95 hZ, tg_96 hZ, tg_97 hZ, tg_98 hZ, tg_99 hZ, tg_100 hZ, tg_101 hZ, tg_102 hZ, tg_103 hZ, tg_104 hZ, tg_105 hZ, tg_106 hZ, tg_107 hZ, tg_108 hZ, tg_109 hZ, fr_51_0 hF, fr_51_1 hF, fr_51_2 hF, fr_51_4 hF, fr_51_5 hF, fr_51_6 hF, fr_51_7 hF, fr_51_8 hF, fr_51_9 hF, fr_51_10 hF, fr_51_16 hF, fr_51_17 hF, fr_51_18 hF, fr_51_19 hF, fr_51_20 hF, fr_51_22 hF, fr_51_23 hF, fr_51_24 hF, fr_51_25 hF, fr_51_26 hF, fr_51_27 hF, fr_51_28 hF, fr_51_29 hF, fr_51_30 hF, fr_51_31 hF, fr_51_32 hF, fr_51_33 hF, fr_51_36 hF, fr_51_37 hF, fr_51_38 hF, fr_51_39 hF, fr_51_40 hF, fr_51_41 hF, fr_51_42 hF, fr_51_51 hF, fr_51_52 hF, fr_51_54 hF, fr_51_56 hF, fr_51_58 hF, fr_51_59 hF, fr_51_60 hF, fr_51_62 hF, fr_51_63 hF, fr_51_67 hF, fr_51_68 hF, fr_51_69 hF, fr_51_70 hF, fr_51_71 hF, fr_51_72 hF, fr_51_73 hF, fr_51_74 hF, fr_51_76 hF, fr_51_77 hF, fr_51_78 hF, fr_51_79 hF, fr_51_82 hF, fr_51_83 hF, fr_51_84 hF, h2, c1, c2, c3, hne, if_pos a107, if_pos a108, if_pos a109, hix, pu, rI_wI, rJ_wI, rR_wI, rI_wJ, rJ_wJ, rR_wJ, rI_wR, rJ_wR, rR_wR]
          · simp [rI_wI, nI_succ]
          · simp [rI_wI, nI_succ]
          · intro k
            simp [rI_wI, e1]
          · intro k
            simp [rI_wI, e2]
          · intro k
            simp [rI_wI, e3]
          · intro k hk
            have r1 := w_rng c1
            have r2 := w_rng c2
            have r3 := w_rng c3
            rw [nI_predI (by omega)] at r1
            have m1 : (-1 : Int32).toInt = -1 := by decide
            have m2 : (1 : Int32).toInt = 1 := by decide
            have m3 : (0 : Int32).toInt = 0 := by decide
            have m4 : (999 : Int32).toInt = 999 := by decide
            by_cases hkn : k = n
            · subst hkn
              simp only [rI_wI]
              simp
              omega
            · simp [rI_wI, hkn]
              exact hv k (by omega)
          · exact (((((((Wr.rf.sI (by simp [inF])).sI (by simp [inF])).sI (by simp [inF])).sI (by simp [inF])).sI (by simp [inF])).sI (by simp [inF])).sI (by simp [inF])).sI (by simp [inF])
theorem op_read {Z : Shp} {M : Mem} (hZ : OKZ Z) (hF : Fix M) (hB : IBanks M) (x1 x2 x3 : Int32) : ∃ r M1 M2, fX11_read Z M 2 x1 x2 x3 = some (r, M1) ∧ fX12_read Z M1 51 x1 x2 x3 = some (r, M2) ∧ IBanks M2 ∧ Wr Z FBk [] [] M M2 := by
  have hB0 := hB
  obtain ⟨n, hn, h1, h2, h33, h34, hv, hr⟩ := hB
  by_cases c1 : fX11_within x1 0 7 = 0
  · refine ⟨-101, M, M, ?_, ?_, hB0, Wr.rf⟩
    · simp [fX11_read, fX3_poundNumbered, c1, tg_2 hZ, tg_3 hZ, tg_4 hZ, tg_5 hZ, tg_6 hZ, tg_7 hZ, tg_8 hZ, tg_24 hZ, tg_25 hZ, tg_26 hZ, tg_27 hZ, tg_28 hZ, tg_29 hZ, tg_30 hZ, tg_31 hZ, tg_32 hZ, tg_33 hZ, tg_34 hZ, tg_35 hZ, tg_36 hZ, tg_37 hZ, tg_38 hZ, tg_39 hZ, tg_40 hZ, tg_41 hZ, tg_42 hZ, tg_43 hZ, tg_44 hZ, tg_45 hZ, tg_46 hZ, tg_47 hZ, tg_48 hZ, tg_49 hZ, tg_50 hZ, fr_2_0 hF, fr_3_0 hF, fr_3_1 hF, fr_3_2 hF, fr_3_3 hF, fr_3_4 hF, fr_2_1 hF, fr_24_0 hF, fr_24_2 hF, fr_2_2 hF, fr_27_0 hF, fr_27_1 hF, fr_27_2 hF, fr_27_8 hF, fr_2_3 hF, fr_32_0 hF, fr_32_1 hF, fr_32_3 hF, fr_32_4 hF, fr_32_5 hF, fr_32_6 hF, fr_2_4 hF, fr_39_0 hF, fr_39_1 hF, fr_39_2 hF, fr_39_3 hF, fr_39_4 hF, fr_39_5 hF, fr_39_6 hF, fr_2_5 hF, fr_47_0 hF, fr_47_1 hF, fr_47_2 hF]
    · simp [fX12_read, fX12_isPound, in_m1_e, in_0_e, in_0_1, in_0_2, in_0_23, in_0_3, in_0_4, in_0_40, in_0_5, in_0_50, in_0_599, in_0_6, in_0_7, in_0_9, in_0_99, in_0_999, in_0_9999, in_0_99999, in_0_999999, in_1_100, in_1_200, in_1_6, in_1_9, in_1_999, in_10_17, in_10_200, in_48_57, in_6_17, in_e_99, in_e_9999, in_within, c1]
  · obtain ⟨p, hp, rfl⟩ := wN (n := 7) (by decide) c1
    have hix : ix (nI p) = p := ix_nI (by omega)
    have hq : rR M 4 p = 9 + p := fr_p hF (by omega)
    have ha : aok Z 4 110 (nI p) := aok_nI (tg_4 hZ) (by omega) (by decide)
    by_cases c2 : fX11_within x2 0 9999 = 0
    · refine ⟨-102, M, M, ?_, ?_, hB0, Wr.rf⟩
      · simp [fX11_read, fX3_poundNumbered, c1, c2, tg_2 hZ, tg_3 hZ, tg_4 hZ, tg_5 hZ, tg_6 hZ, tg_7 hZ, tg_8 hZ, tg_24 hZ, tg_25 hZ, tg_26 hZ, tg_27 hZ, tg_28 hZ, tg_29 hZ, tg_30 hZ, tg_31 hZ, tg_32 hZ, tg_33 hZ, tg_34 hZ, tg_35 hZ, tg_36 hZ, tg_37 hZ, tg_38 hZ, tg_39 hZ, tg_40 hZ, tg_41 hZ, tg_42 hZ, tg_43 hZ, tg_44 hZ, tg_45 hZ, tg_46 hZ, tg_47 hZ, tg_48 hZ, tg_49 hZ, tg_50 hZ, fr_2_0 hF, fr_3_0 hF, fr_3_1 hF, fr_3_2 hF, fr_3_3 hF, fr_3_4 hF, fr_2_1 hF, fr_24_0 hF, fr_24_2 hF, fr_2_2 hF, fr_27_0 hF, fr_27_1 hF, fr_27_2 hF, fr_27_8 hF, fr_2_3 hF, fr_32_0 hF, fr_32_1 hF, fr_32_3 hF, fr_32_4 hF, fr_32_5 hF, fr_32_6 hF, fr_2_4 hF, fr_39_0 hF, fr_39_1 hF, fr_39_2 hF, fr_39_3 hF, fr_39_4 hF, fr_39_5 hF, fr_39_6 hF, fr_2_5 hF, fr_47_0 hF, fr_47_1 hF, fr_47_2 hF, hix, hq, if_pos ha]
      · simp [fX12_read, fX12_isPound, in_m1_e, in_0_e, in_0_1, in_0_2, in_0_23, in_0_3, in_0_4, in_0_40, in_0_5, in_0_50, in_0_599, in_0_6, in_0_7, in_0_9, in_0_99, in_0_999, in_0_9999, in_0_99999, in_0_999999, in_1_100, in_1_200, in_1_6, in_1_9, in_1_999, in_10_17, in_10_200, in_48_57, in_6_17, in_e_99, in_e_9999, in_within, c1, c2]
    · by_cases c3 : fX11_within x3 0 99 = 0
      · refine ⟨-102, M, M, ?_, ?_, hB0, Wr.rf⟩
        · simp [fX11_read, fX3_poundNumbered, c1, c2, c3, tg_2 hZ, tg_3 hZ, tg_4 hZ, tg_5 hZ, tg_6 hZ, tg_7 hZ, tg_8 hZ, tg_24 hZ, tg_25 hZ, tg_26 hZ, tg_27 hZ, tg_28 hZ, tg_29 hZ, tg_30 hZ, tg_31 hZ, tg_32 hZ, tg_33 hZ, tg_34 hZ, tg_35 hZ, tg_36 hZ, tg_37 hZ, tg_38 hZ, tg_39 hZ, tg_40 hZ, tg_41 hZ, tg_42 hZ, tg_43 hZ, tg_44 hZ, tg_45 hZ, tg_46 hZ, tg_47 hZ, tg_48 hZ, tg_49 hZ, tg_50 hZ, fr_2_0 hF, fr_3_0 hF, fr_3_1 hF, fr_3_2 hF, fr_3_3 hF, fr_3_4 hF, fr_2_1 hF, fr_24_0 hF, fr_24_2 hF, fr_2_2 hF, fr_27_0 hF, fr_27_1 hF, fr_27_2 hF, fr_27_8 hF, fr_2_3 hF, fr_32_0 hF, fr_32_1 hF, fr_32_3 hF, fr_32_4 hF, fr_32_5 hF, fr_32_6 hF, fr_2_4 hF, fr_39_0 hF, fr_39_1 hF, fr_39_2 hF, fr_39_3 hF, fr_39_4 hF, fr_39_5 hF, fr_39_6 hF, fr_2_5 hF, fr_47_0 hF, fr_47_1 hF, fr_47_2 hF, hix, hq, if_pos ha]
        · simp [fX12_read, fX12_isPound, fX12_isDay, in_m1_e, in_0_e, in_0_1, in_0_2, in_0_23, in_0_3, in_0_4, in_0_40, in_0_5, in_0_50, in_0_599, in_0_6, in_0_7, in_0_9, in_0_99, in_0_999, in_0_9999, in_0_99999, in_0_999999, in_1_100, in_1_200, in_1_6, in_1_9, in_1_999, in_10_17, in_10_200, in_48_57, in_6_17, in_e_99, in_e_9999, in_within, c1, c2, c3]
      · have a35 : aok Z 35 101 (nI p) := aok_nI (tg_35 hZ) (by omega) (by decide)
        have a36 : aok Z 36 100 (nI p) := aok_nI (tg_36 hZ) (by omega) (by decide)
        have a37 : aok Z 37 100 (nI p) := aok_nI (tg_37 hZ) (by omega) (by decide)
        have a97 : aok Z 97 100 (nI p) := aok_nI (tg_97 hZ) (by omega) (by decide)
        have a98 : aok Z 98 100 (nI p) := aok_nI (tg_98 hZ) (by omega) (by decide)
        refine ⟨1, wI (wI (wI M 35 p 1) 36 p x2) 37 p x3, wI (wI (wI (wI (wI M 35 p 1) 36 p x2) 37 p x3) 97 p x2) 98 p x3, ?_, ?_, ⟨n, hn, ?_, ?_, ?_, ?_, ?_, ?_⟩, ?_⟩
        · simp [fX11_read, fX3_poundNumbered, fX0_note, c1, c2, c3, tg_2 hZ, tg_3 hZ, tg_4 hZ, tg_5 hZ, tg_6 hZ, tg_7 hZ, tg_8 hZ, tg_24 hZ, tg_25 hZ, tg_26 hZ, tg_27 hZ, tg_28 hZ, tg_29 hZ, tg_30 hZ, tg_31 hZ, tg_32 hZ, tg_33 hZ, tg_34 hZ, tg_35 hZ, tg_36 hZ, tg_37 hZ, tg_38 hZ, tg_39 hZ, tg_40 hZ, tg_41 hZ, tg_42 hZ, tg_43 hZ, tg_44 hZ, tg_45 hZ, tg_46 hZ, tg_47 hZ, tg_48 hZ, tg_49 hZ, tg_50 hZ, fr_2_0 hF, fr_3_0 hF, fr_3_1 hF, fr_3_2 hF, fr_3_3 hF, fr_3_4 hF, fr_2_1 hF, fr_24_0 hF, fr_24_2 hF, fr_2_2 hF, fr_27_0 hF, fr_27_1 hF, fr_27_2 hF, fr_27_8 hF, fr_2_3 hF, fr_32_0 hF, fr_32_1 hF, fr_32_3 hF, fr_32_4 hF, fr_32_5 hF, fr_32_6 hF, fr_2_4 hF, fr_39_0 hF, fr_39_1 hF, fr_39_2 hF, fr_39_3 hF, fr_39_4 hF, fr_39_5 hF, fr_39_6 hF, fr_2_5 hF, fr_47_0 hF, fr_47_1 hF, fr_47_2 hF, hix, hq, if_pos ha, if_pos a35, if_pos a36, if_pos a37, pu, rI_wI, rJ_wI, rR_wI, rI_wJ, rJ_wJ, rR_wJ, rI_wR, rJ_wR, rR_wR]
        · simp [fX12_read, fX12_isPound, fX12_isDay, in_m1_e, in_0_e, in_0_1, in_0_2, in_0_23, in_0_3, in_0_4, in_0_40, in_0_5, in_0_50, in_0_599, in_0_6, in_0_7, in_0_9, in_0_99, in_0_999, in_0_9999, in_0_99999, in_0_999999, in_1_100, in_1_200, in_1_6, in_1_9, in_1_999, in_10_17, in_10_200, in_48_57, in_6_17, in_e_99, in_e_9999, in_within, c1, c2, c3, tg_51 hZ, tg_52 hZ, tg_53 hZ, tg_54 hZ, tg_55 hZ, tg_56 hZ, tg_57 hZ, tg_58 hZ, tg_59 hZ, tg_60 hZ, tg_61 hZ, tg_62 hZ, tg_63 hZ, tg_64 hZ, tg_65 hZ, tg_66 hZ, tg_67 hZ, tg_68 hZ, tg_69 hZ, tg_70 hZ, tg_71 hZ, tg_72 hZ, tg_73 hZ, tg_74 hZ, tg_75 hZ, tg_76 hZ, tg_77 hZ, tg_78 hZ, tg_79 hZ, tg_80 hZ, tg_81 hZ, tg_82 hZ, tg_83 hZ, tg_84 hZ, tg_85 hZ, tg_86 hZ, tg_87 hZ, tg_88 hZ, tg_89 hZ, tg_90 hZ, tg_91 hZ, tg_92 hZ, tg_93 hZ, tg_94 hZ, tg_95 hZ, tg_96 hZ, tg_97 hZ, tg_98 hZ, tg_99 hZ, tg_100 hZ, tg_101 hZ, tg_102 hZ, tg_103 hZ, tg_104 hZ, tg_105 hZ, tg_106 hZ, tg_107 hZ, tg_108 hZ, tg_109 hZ, fr_51_0 hF, fr_51_1 hF, fr_51_2 hF, fr_51_4 hF, fr_51_5 hF, fr_51_6 hF, fr_51_7 hF, fr_51_8 hF, fr_51_9 hF, fr_51_10 hF, fr_51_16 hF, fr_51_17 hF, fr_51_18 hF, fr_51_19 hF, fr_51_20 hF, fr_51_22 hF, fr_51_23 hF, fr_51_24 hF, fr_51_25 hF, fr_51_26 hF, fr_51_27 hF, fr_51_28 hF, fr_51_29 hF, fr_51_30 hF, fr_51_31 hF, fr_51_32 hF, fr_51_33 hF, fr_51_36 hF, fr_51_37 hF, fr_51_38 hF, fr_51_39 hF, fr_51_40 hF, fr_51_41 hF, fr_51_42 hF, fr_51_51 hF, fr_51_52 hF, fr_51_54 hF, fr_51_56 hF, fr_51_58 hF, fr_51_59 hF, fr_51_60 hF, fr_51_62 hF, fr_51_63 hF, fr_51_67 hF, fr_51_68 hF, fr_51_69 hF, fr_51_70 hF, fr_51_71 hF, fr_51_72 hF, fr_51_73 hF, fr_51_74 hF, fr_51_76 hF, fr_51_77 hF, fr_51_78 hF, fr_51_79 hF, fr_51_82 hF, fr_51_83 hF, fr_51_84 hF, hix, if_pos a97, if_pos a98, pu, rI_wI, rJ_wI, rR_wI, rI_wJ, rJ_wJ, rR_wJ, rI_wR, rJ_wR, rR_wR]
        · simpa [rI_wI] using h1
        · simpa [rI_wI] using h2
        · intro k
          simpa [rI_wI] using h33 k
        · intro k
          simpa [rI_wI] using h34 k
        · intro k hk
          simpa [rI_wI] using hv k hk
        · intro q hq
          have r2 := w_rng c2
          have r3 := w_rng c3
          have m1 : (9999 : Int32).toInt = 9999 := by decide
          have m3 : (0 : Int32).toInt = 0 := by decide
          have m4 : (99 : Int32).toInt = 99 := by decide
          by_cases hqp : q = p
          · subst hqp
            right
            simp [rI_wI]
            omega
          · simpa [rI_wI, hqp] using hr q hq
        · exact ((((Wr.rf.sI (by simp [inF])).sI (by simp [inF])).sI (by simp [inF])).sI (by simp [inF])).sI (by simp [inF])
/-- the readings, counted -/
def rdN (M : Mem) : Nat → Int32
  | 0 => 0
  | k + 1 => if rI M 97 k = -1 then rdN M k + 0 else rdN M k + 1
theorem readings_c {Z : Shp} {M : Mem} (hZ : OKZ Z) (hF : Fix M) (hr : ∀ p, p < 8 → (rI M 35 p = 0 ↔ rI M 97 p = -1)) : fX0_readings Z M 32 = some (rdN M 8) := by
  unfold fX0_readings
  refine loop_for (fun i => (rdN M i, nI i)) 8 rfl (fun i hi => ?_) ?_
  · have hix : ix (nI i) = i := ix_nI (by omega)
    have a35 : aok Z 35 101 (nI i) := aok_nI (tg_35 hZ) hi (by decide)
    have hlt : ¬ (8 : Int32) ≤ nI i := by
      rw [i32_le, nI_toInt (by omega), show (8 : Int32).toInt = 8 by decide]
      omega
    by_cases c : rI M 97 i = -1
    · simp [hlt, tg_2 hZ, tg_3 hZ, tg_4 hZ, tg_5 hZ, tg_6 hZ, tg_7 hZ, tg_8 hZ, tg_24 hZ, tg_25 hZ, tg_26 hZ, tg_27 hZ, tg_28 hZ, tg_29 hZ, tg_30 hZ, tg_31 hZ, tg_32 hZ, tg_33 hZ, tg_34 hZ, tg_35 hZ, tg_36 hZ, tg_37 hZ, tg_38 hZ, tg_39 hZ, tg_40 hZ, tg_41 hZ, tg_42 hZ, tg_43 hZ, tg_44 hZ, tg_45 hZ, tg_46 hZ, tg_47 hZ, tg_48 hZ, tg_49 hZ, tg_50 hZ, fr_2_0 hF, fr_3_0 hF, fr_3_1 hF, fr_3_2 hF, fr_3_3 hF, fr_3_4 hF, fr_2_1 hF, fr_24_0 hF, fr_24_2 hF, fr_2_2 hF, fr_27_0 hF, fr_27_1 hF, fr_27_2 hF, fr_27_8 hF, fr_2_3 hF, fr_32_0 hF, fr_32_1 hF, fr_32_3 hF, fr_32_4 hF, fr_32_5 hF, fr_32_6 hF, fr_2_4 hF, fr_39_0 hF, fr_39_1 hF, fr_39_2 hF, fr_39_3 hF, fr_39_4 hF, fr_39_5 hF, fr_39_6 hF, fr_2_5 hF, fr_47_0 hF, fr_47_1 hF, fr_47_2 hF, if_pos a35, hix, (hr i hi).mpr c, c, pu, rdN, nI_succ]
    · simp [hlt, tg_2 hZ, tg_3 hZ, tg_4 hZ, tg_5 hZ, tg_6 hZ, tg_7 hZ, tg_8 hZ, tg_24 hZ, tg_25 hZ, tg_26 hZ, tg_27 hZ, tg_28 hZ, tg_29 hZ, tg_30 hZ, tg_31 hZ, tg_32 hZ, tg_33 hZ, tg_34 hZ, tg_35 hZ, tg_36 hZ, tg_37 hZ, tg_38 hZ, tg_39 hZ, tg_40 hZ, tg_41 hZ, tg_42 hZ, tg_43 hZ, tg_44 hZ, tg_45 hZ, tg_46 hZ, tg_47 hZ, tg_48 hZ, tg_49 hZ, tg_50 hZ, fr_2_0 hF, fr_3_0 hF, fr_3_1 hF, fr_3_2 hF, fr_3_3 hF, fr_3_4 hF, fr_2_1 hF, fr_24_0 hF, fr_24_2 hF, fr_2_2 hF, fr_27_0 hF, fr_27_1 hF, fr_27_2 hF, fr_27_8 hF, fr_2_3 hF, fr_32_0 hF, fr_32_1 hF, fr_32_3 hF, fr_32_4 hF, fr_32_5 hF, fr_32_6 hF, fr_2_4 hF, fr_39_0 hF, fr_39_1 hF, fr_39_2 hF, fr_39_3 hF, fr_39_4 hF, fr_39_5 hF, fr_39_6 hF, fr_2_5 hF, fr_47_0 hF, fr_47_1 hF, fr_47_2 hF, if_pos a35, hix, mt (hr i hi).mp c, c, pu, rdN, nI_succ]
  · simp [show (8 : Int32) ≤ nI 8 by decide]
theorem readings_m {Z : Shp} {M : Mem} (hZ : OKZ Z) (hF : Fix M) : fX12_readMany Z M 51 = some (rdN M 8) := by
  unfold fX12_readMany
  refine loop_for (fun i => (rdN M i, nI i)) 8 rfl (fun i hi => ?_) ?_
  · have hix : ix (nI i) = i := ix_nI (by omega)
    have a97 : aok Z 97 100 (nI i) := aok_nI (tg_97 hZ) hi (by decide)
    have hlt : ¬ (8 : Int32) ≤ nI i := by
      rw [i32_le, nI_toInt (by omega), show (8 : Int32).toInt = 8 by decide]
      omega
    by_cases c : rI M 97 i = -1
    · simp [hlt, tg_51 hZ, tg_52 hZ, tg_53 hZ, tg_54 hZ, tg_55 hZ, tg_56 hZ, tg_57 hZ, tg_58 hZ, tg_59 hZ, tg_60 hZ, tg_61 hZ, tg_62 hZ, tg_63 hZ, tg_64 hZ, tg_65 hZ, tg_66 hZ, tg_67 hZ, tg_68 hZ, tg_69 hZ, tg_70 hZ, tg_71 hZ, tg_72 hZ, tg_73 hZ, tg_74 hZ, tg_75 hZ, tg_76 hZ, tg_77 hZ, tg_78 hZ, tg_79 hZ, tg_80 hZ, tg_81 hZ, tg_82 hZ, tg_83 hZ, tg_84 hZ, tg_85 hZ, tg_86 hZ, tg_87 hZ, tg_88 hZ, tg_89 hZ, tg_90 hZ, tg_91 hZ, tg_92 hZ, tg_93 hZ, tg_94 hZ, tg_95 hZ, tg_96 hZ, tg_97 hZ, tg_98 hZ, tg_99 hZ, tg_100 hZ, tg_101 hZ, tg_102 hZ, tg_103 hZ, tg_104 hZ, tg_105 hZ, tg_106 hZ, tg_107 hZ, tg_108 hZ, tg_109 hZ, fr_51_0 hF, fr_51_1 hF, fr_51_2 hF, fr_51_4 hF, fr_51_5 hF, fr_51_6 hF, fr_51_7 hF, fr_51_8 hF, fr_51_9 hF, fr_51_10 hF, fr_51_16 hF, fr_51_17 hF, fr_51_18 hF, fr_51_19 hF, fr_51_20 hF, fr_51_22 hF, fr_51_23 hF, fr_51_24 hF, fr_51_25 hF, fr_51_26 hF, fr_51_27 hF, fr_51_28 hF, fr_51_29 hF, fr_51_30 hF, fr_51_31 hF, fr_51_32 hF, fr_51_33 hF, fr_51_36 hF, fr_51_37 hF, fr_51_38 hF, fr_51_39 hF, fr_51_40 hF, fr_51_41 hF, fr_51_42 hF, fr_51_51 hF, fr_51_52 hF, fr_51_54 hF, fr_51_56 hF, fr_51_58 hF, fr_51_59 hF, fr_51_60 hF, fr_51_62 hF, fr_51_63 hF, fr_51_67 hF, fr_51_68 hF, fr_51_69 hF, fr_51_70 hF, fr_51_71 hF, fr_51_72 hF, fr_51_73 hF, fr_51_74 hF, fr_51_76 hF, fr_51_77 hF, fr_51_78 hF, fr_51_79 hF, fr_51_82 hF, fr_51_83 hF, fr_51_84 hF, if_pos a97, hix, c, pu, rdN, nI_succ]
    · simp [hlt, tg_51 hZ, tg_52 hZ, tg_53 hZ, tg_54 hZ, tg_55 hZ, tg_56 hZ, tg_57 hZ, tg_58 hZ, tg_59 hZ, tg_60 hZ, tg_61 hZ, tg_62 hZ, tg_63 hZ, tg_64 hZ, tg_65 hZ, tg_66 hZ, tg_67 hZ, tg_68 hZ, tg_69 hZ, tg_70 hZ, tg_71 hZ, tg_72 hZ, tg_73 hZ, tg_74 hZ, tg_75 hZ, tg_76 hZ, tg_77 hZ, tg_78 hZ, tg_79 hZ, tg_80 hZ, tg_81 hZ, tg_82 hZ, tg_83 hZ, tg_84 hZ, tg_85 hZ, tg_86 hZ, tg_87 hZ, tg_88 hZ, tg_89 hZ, tg_90 hZ, tg_91 hZ, tg_92 hZ, tg_93 hZ, tg_94 hZ, tg_95 hZ, tg_96 hZ, tg_97 hZ, tg_98 hZ, tg_99 hZ, tg_100 hZ, tg_101 hZ, tg_102 hZ, tg_103 hZ, tg_104 hZ, tg_105 hZ, tg_106 hZ, tg_107 hZ, tg_108 hZ, tg_109 hZ, fr_51_0 hF, fr_51_1 hF, fr_51_2 hF, fr_51_4 hF, fr_51_5 hF, fr_51_6 hF, fr_51_7 hF, fr_51_8 hF, fr_51_9 hF, fr_51_10 hF, fr_51_16 hF, fr_51_17 hF, fr_51_18 hF, fr_51_19 hF, fr_51_20 hF, fr_51_22 hF, fr_51_23 hF, fr_51_24 hF, fr_51_25 hF, fr_51_26 hF, fr_51_27 hF, fr_51_28 hF, fr_51_29 hF, fr_51_30 hF, fr_51_31 hF, fr_51_32 hF, fr_51_33 hF, fr_51_36 hF, fr_51_37 hF, fr_51_38 hF, fr_51_39 hF, fr_51_40 hF, fr_51_41 hF, fr_51_42 hF, fr_51_51 hF, fr_51_52 hF, fr_51_54 hF, fr_51_56 hF, fr_51_58 hF, fr_51_59 hF, fr_51_60 hF, fr_51_62 hF, fr_51_63 hF, fr_51_67 hF, fr_51_68 hF, fr_51_69 hF, fr_51_70 hF, fr_51_71 hF, fr_51_72 hF, fr_51_73 hF, fr_51_74 hF, fr_51_76 hF, fr_51_77 hF, fr_51_78 hF, fr_51_79 hF, fr_51_82 hF, fr_51_83 hF, fr_51_84 hF, if_pos a97, hix, c, pu, rdN, nI_succ]
  · simp [show (8 : Int32) ≤ nI 8 by decide]
/-- the first n of a row set to v -/
def stN (a : Nat) (v : Int32) (M : Mem) : Nat → Mem
  | 0 => M
  | k + 1 => wI (stN a v M k) a k v
theorem rI_stN (a : Nat) (v : Int32) (M : Mem) (n a' k' : Nat) : rI (stN a v M n) a' k' = if a' = a ∧ k' < n then v else rI M a' k' := by
  induction n with
  | zero => simp [stN]
  | succ n ih =>
    simp only [stN, rI_wI, ih]
    by_cases h : a' = a
    · subst h
      by_cases h2 : k' = n
      · subst h2; simp
      · by_cases h3 : k' < n
        · simp [h2, h3, show k' < n + 1 by omega]
        · simp [h2, h3, show ¬ k' < n + 1 by omega]
    · simp [h]
theorem rR_stN (a : Nat) (v : Int32) (M : Mem) (n a' k' : Nat) : rR (stN a v M n) a' k' = rR M a' k' := by
  induction n with
  | zero => rfl
  | succ n ih => simp only [stN, rR_wI, ih]
theorem rJ_stN (a : Nat) (v : Int32) (M : Mem) (n a' k' : Nat) : rJ (stN a v M n) a' k' = rJ M a' k' := by
  induction n with
  | zero => rfl
  | succ n ih => simp only [stN, rJ_wI, ih]
theorem Wr.st {Z : Shp} {L : List (Nat × Option Nat)} {ts LR : List Nat} {M M1 : Mem} {a : Nat} {v : Int32} (h : Wr Z L ts LR M M1) (hm : (a, none) ∈ L) (n : Nat) : Wr Z L ts LR M (stN a v M1 n) := by
  induction n with
  | zero => exact h
  | succ n ih => exact ih.sI (Or.inl hm)
theorem op_unread {Z : Shp} {M : Mem} (hZ : OKZ Z) (hF : Fix M) (hB : IBanks M) : ∃ r M1 M2, fX11_unread Z M 2 = some (r, M1) ∧ fX12_unread Z M1 51 = some (r, M2) ∧ IBanks M2 ∧ Wr Z FBk [] [] M M2 := by
  obtain ⟨n, hn, h1, h2, h33, h34, hv, hr⟩ := hB
  have hr1 : ∀ p, p < 8 → (rI M 35 p = 0 ↔ rI M 97 p = -1) := by
    intro p hp
    rcases hr p hp with ⟨g1, g2⟩ | ⟨g1, g2, g3, g4, g5, g6, g7⟩
    · exact ⟨fun _ => g2, fun _ => g1⟩
    · refine ⟨fun h => ?_, fun h => ?_⟩
      · rw [g1] at h
        exact absurd h (by decide)
      · rw [h] at g4
        exact absurd g4 (by decide)
  have w1 : Wr Z FBk [] [] M (stN 35 0 M 8) := Wr.st Wr.rf (by simp) 8
  have hF1 : Fix (stN 35 0 M 8) := w1.fix hF (by decide)
  have q1 : fX0_forget Z M 32 = some (stN 35 0 M 8) := by
    unfold fX0_forget
    refine loop_for (fun i => (nI i, stN 35 0 M i)) 8 rfl (fun i hi => ?_) ?_
    · have hix : ix (nI i) = i := ix_nI (by omega)
      have a35 : aok Z 35 101 (nI i) := aok_nI (tg_35 hZ) hi (by decide)
      have hlt : ¬ (8 : Int32) ≤ nI i := by
        rw [i32_le, nI_toInt (by omega), show (8 : Int32).toInt = 8 by decide]
        omega
      simp [hlt, tg_2 hZ, tg_3 hZ, tg_4 hZ, tg_5 hZ, tg_6 hZ, tg_7 hZ, tg_8 hZ, tg_24 hZ, tg_25 hZ, tg_26 hZ, tg_27 hZ, tg_28 hZ, tg_29 hZ, tg_30 hZ, tg_31 hZ, tg_32 hZ, tg_33 hZ, tg_34 hZ, tg_35 hZ, tg_36 hZ, tg_37 hZ, tg_38 hZ, tg_39 hZ, tg_40 hZ, tg_41 hZ, tg_42 hZ, tg_43 hZ, tg_44 hZ, tg_45 hZ, tg_46 hZ, tg_47 hZ, tg_48 hZ, tg_49 hZ, tg_50 hZ, fr_2_0 hF, fr_3_0 hF, fr_3_1 hF, fr_3_2 hF, fr_3_3 hF, fr_3_4 hF, fr_2_1 hF, fr_24_0 hF, fr_24_2 hF, fr_2_2 hF, fr_27_0 hF, fr_27_1 hF, fr_27_2 hF, fr_27_8 hF, fr_2_3 hF, fr_32_0 hF, fr_32_1 hF, fr_32_3 hF, fr_32_4 hF, fr_32_5 hF, fr_32_6 hF, fr_2_4 hF, fr_39_0 hF, fr_39_1 hF, fr_39_2 hF, fr_39_3 hF, fr_39_4 hF, fr_39_5 hF, fr_39_6 hF, fr_2_5 hF, fr_47_0 hF, fr_47_1 hF, fr_47_2 hF, rR_stN, if_pos a35, hix, pu, stN, nI_succ]
    · simp [show (8 : Int32) ≤ nI 8 by decide]
  have q2 : rdN (stN 35 0 M 8) 8 = rdN M 8 := by
    simp only [rdN, rI_stN]
    simp
  refine ⟨rdN M 8, stN 35 0 M 8, stN 97 (-1) (stN 35 0 M 8) 8, ?_, ?_, ⟨n, hn, ?_, ?_, ?_, ?_, ?_, ?_⟩, w1.st (by simp) 8⟩
  · simp [fX11_unread, tg_2 hZ, tg_3 hZ, tg_4 hZ, tg_5 hZ, tg_6 hZ, tg_7 hZ, tg_8 hZ, tg_24 hZ, tg_25 hZ, tg_26 hZ, tg_27 hZ, tg_28 hZ, tg_29 hZ, tg_30 hZ, tg_31 hZ, tg_32 hZ, tg_33 hZ, tg_34 hZ, tg_35 hZ, tg_36 hZ, tg_37 hZ, tg_38 hZ, tg_39 hZ, tg_40 hZ, tg_41 hZ, tg_42 hZ, tg_43 hZ, tg_44 hZ, tg_45 hZ, tg_46 hZ, tg_47 hZ, tg_48 hZ, tg_49 hZ, tg_50 hZ, fr_2_0 hF, fr_3_0 hF, fr_3_1 hF, fr_3_2 hF, fr_3_3 hF, fr_3_4 hF, fr_2_1 hF, fr_24_0 hF, fr_24_2 hF, fr_2_2 hF, fr_27_0 hF, fr_27_1 hF, fr_27_2 hF, fr_27_8 hF, fr_2_3 hF, fr_32_0 hF, fr_32_1 hF, fr_32_3 hF, fr_32_4 hF, fr_32_5 hF, fr_32_6 hF, fr_2_4 hF, fr_39_0 hF, fr_39_1 hF, fr_39_2 hF, fr_39_3 hF, fr_39_4 hF, fr_39_5 hF, fr_39_6 hF, fr_2_5 hF, fr_47_0 hF, fr_47_1 hF, fr_47_2 hF, readings_c hZ hF hr1, q1]
  · unfold fX12_unread
    rw [if_pos (tg_51 hZ), readings_m hZ hF1, q2]
    refine loop_for (fun i => (nI i, stN 97 (-1) (stN 35 0 M 8) i)) 8 rfl (fun i hi => ?_) ?_
    · have hix : ix (nI i) = i := ix_nI (by omega)
      have a97 : aok Z 97 100 (nI i) := aok_nI (tg_97 hZ) hi (by decide)
      have hlt : ¬ (8 : Int32) ≤ nI i := by
        rw [i32_le, nI_toInt (by omega), show (8 : Int32).toInt = 8 by decide]
        omega
      simp [hlt, tg_51 hZ, tg_52 hZ, tg_53 hZ, tg_54 hZ, tg_55 hZ, tg_56 hZ, tg_57 hZ, tg_58 hZ, tg_59 hZ, tg_60 hZ, tg_61 hZ, tg_62 hZ, tg_63 hZ, tg_64 hZ, tg_65 hZ, tg_66 hZ, tg_67 hZ, tg_68 hZ, tg_69 hZ, tg_70 hZ, tg_71 hZ, tg_72 hZ, tg_73 hZ, tg_74 hZ, tg_75 hZ, tg_76 hZ, tg_77 hZ, tg_78 hZ, tg_79 hZ, tg_80 hZ, tg_81 hZ, tg_82 hZ, tg_83 hZ, tg_84 hZ, tg_85 hZ, tg_86 hZ, tg_87 hZ, tg_88 hZ, tg_89 hZ, tg_90 hZ, tg_91 hZ, tg_92 hZ, tg_93 hZ, tg_94 hZ, tg_95 hZ, tg_96 hZ, tg_97 hZ, tg_98 hZ, tg_99 hZ, tg_100 hZ, tg_101 hZ, tg_102 hZ, tg_103 hZ, tg_104 hZ, tg_105 hZ, tg_106 hZ, tg_107 hZ, tg_108 hZ, tg_109 hZ, fr_51_0 hF, fr_51_1 hF, fr_51_2 hF, fr_51_4 hF, fr_51_5 hF, fr_51_6 hF, fr_51_7 hF, fr_51_8 hF, fr_51_9 hF, fr_51_10 hF, fr_51_16 hF, fr_51_17 hF, fr_51_18 hF, fr_51_19 hF, fr_51_20 hF, fr_51_22 hF, fr_51_23 hF, fr_51_24 hF, fr_51_25 hF, fr_51_26 hF, fr_51_27 hF, fr_51_28 hF, fr_51_29 hF, fr_51_30 hF, fr_51_31 hF, fr_51_32 hF, fr_51_33 hF, fr_51_36 hF, fr_51_37 hF, fr_51_38 hF, fr_51_39 hF, fr_51_40 hF, fr_51_41 hF, fr_51_42 hF, fr_51_51 hF, fr_51_52 hF, fr_51_54 hF, fr_51_56 hF, fr_51_58 hF, fr_51_59 hF, fr_51_60 hF, fr_51_62 hF, fr_51_63 hF, fr_51_67 hF, fr_51_68 hF, fr_51_69 hF, fr_51_70 hF, fr_51_71 hF, fr_51_72 hF, fr_51_73 hF, fr_51_74 hF, fr_51_76 hF, fr_51_77 hF, fr_51_78 hF, fr_51_79 hF, fr_51_82 hF, fr_51_83 hF, fr_51_84 hF, rR_stN, rR_wI, if_pos a97, hix, pu, stN, nI_succ]
    · simp [show (8 : Int32) ≤ nI 8 by decide]
  · simpa [rI_stN] using h1
  · simpa [rI_stN] using h2
  · intro k
    simpa [rI_stN] using h33 k
  · intro k
    simpa [rI_stN] using h34 k
  · intro k hk
    simpa [rI_stN] using hv k hk
  · intro p hp
    left
    simp [rI_stN, hp]

/-! shares -/
def IShare (M : Mem) : Prop := ∃ n : Nat, n ≤ 24 ∧ rI M 39 7 = nI n ∧ rI M 51 75 = nI n ∧ (∀ k, rI M 42 k = rI M 102 k) ∧ (∀ k, rI M 43 k = rI M 103 k) ∧ (∀ k, rI M 44 k = rI M 104 k) ∧ (∀ k, rI M 45 k = rI M 105 k) ∧ (∀ k, rI M 46 k = rI M 106 k) ∧ (∀ k, 0 ≤ (rI M 102 k).toInt ∧ (rI M 102 k).toInt ≤ 999) ∧
  (∀ k, k < n → (∃ p q, p < 6 ∧ q < 6 ∧ p ≠ q ∧ rI M 103 k = nI p ∧ rI M 104 k = nI q) ∧ (1 ≤ (rI M 105 k).toInt ∧ (rI M 105 k).toInt ≤ 999) ∧ 0 ≤ (rI M 106 k).toInt ∧ (rI M 106 k).toInt ≤ 99) ∧ ∀ j k, j ≤ k → k < n → (rI M 106 j).toInt ≤ (rI M 106 k).toInt
abbrev FShare : List (Nat × Option Nat) := [(39, some 7), (42, none), (43, none), (44, none), (45, none), (46, none), (51, some 75), (102, none), (103, none), (104, none), (105, none), (106, none)]
theorem IShare.keep {Z : Shp} {L : List (Nat × Option Nat)} {ts LR : List Nat} {M M1 : Mem} (h : IShare M) (w : Wr Z L ts LR M M1) (hd : dis L FShare = true) : IShare M1 := by
  unfold IShare at h ⊢
  simp only [w.row hd (a := 42) (by simp) (by omega), w.row hd (a := 43) (by simp) (by omega), w.row hd (a := 44) (by simp) (by omega), w.row hd (a := 45) (by simp) (by omega), w.row hd (a := 46) (by simp) (by omega), w.row hd (a := 102) (by simp) (by omega), w.row hd (a := 103) (by simp) (by omega), w.row hd (a := 104) (by simp) (by omega), w.row hd (a := 105) (by simp) (by omega), w.row hd (a := 106) (by simp) (by omega), w.at hd (a := 39) (k := 7) (by simp) (by omega), w.at hd (a := 51) (k := 75) (by simp) (by omega)]
  exact h
/-- what x had behind the first k passes, those after day y left out -/
def hd (M : Mem) (x y : Int32) : Nat → Int32
  | 0 => rI M 102 (ix x)
  | k + 1 => if y < rI M 106 k then hd M x y k else if rI M 104 k = x then hd M x y k + rI M 105 k else if rI M 103 k = x then hd M x y k + (-(rI M 105 k)) else hd M x y k + 0
theorem had_m {Z : Shp} {M : Mem} (hZ : OKZ Z) (hF : Fix M) {n : Nat} (hn : n ≤ 24) (h2 : rI M 51 75 = nI n) {p : Nat} (hp : p < 6) (y : Int32) : fX12_hadOf Z M 51 (nI p) y = some (hd M (nI p) y n) := by
  have hx : ix (nI p) = p := ix_nI (by omega)
  have a102 : aok Z 102 100 (nI p) := aok_nI (tg_102 hZ) hp (by decide)
  unfold fX12_hadOf
  simp only [if_pos (tg_51 hZ), fr_51_74 hF, if_pos a102, pu]
  refine loop_for (fun i => (hd M (nI p) y i, nI i)) n rfl (fun i hi => ?_) ?_
  · have hix : ix (nI i) = i := ix_nI (by omega)
    have hle : ¬ nI n ≤ nI i := by
      rw [i32_le, nI_toInt (by omega), nI_toInt (by omega)]
      omega
    have a103 : aok Z 103 100 (nI i) := aok_nI (tg_103 hZ) (by omega) (by decide)
    have a104 : aok Z 104 100 (nI i) := aok_nI (tg_104 hZ) (by omega) (by decide)
    have a105 : aok Z 105 100 (nI i) := aok_nI (tg_105 hZ) (by omega) (by decide)
    have a106 : aok Z 106 100 (nI i) := aok_nI (tg_106 hZ) (by omega) (by decide)
    simp only [h2, if_neg hle, fr_51_76 hF, fr_51_77 hF, fr_51_78 hF, fr_51_79 hF, if_pos a103, if_pos a104, if_pos a105, if_pos a106, hix, hd, pu, nI_succ]
    by_cases g1 : y < rI M 106 i
    · simp [g1]
    · by_cases g2 : rI M 104 i = nI p
      · simp [g1, g2]
      · by_cases g3 : rI M 103 i = nI p
        · simp [g1, g2, g3]
        · simp [g1, g2, g3]
  · simp [h2]
theorem hd_late {M : Mem} {x y : Int32} {m n : Nat} (hmn : m ≤ n) (h : ∀ k, m ≤ k → k < n → y < rI M 106 k) : hd M x y n = hd M x y m := by
  induction n with
  | zero => rw [show m = 0 by omega]
  | succ n ih =>
    by_cases hm : m = n + 1
    · rw [hm]
    · rw [hd, if_pos (h n (by omega) (by omega))]
      exact ih (by omega) (fun k h1 h2 => h k h1 (by omega))
theorem had_c {Z : Shp} {M : Mem} (hZ : OKZ Z) (hF : Fix M) {n : Nat} (hn : n ≤ 24) (h1 : rI M 39 7 = nI n) (e2 : ∀ k, rI M 42 k = rI M 102 k) (e3 : ∀ k, rI M 43 k = rI M 103 k) (e4 : ∀ k, rI M 44 k = rI M 104 k) (e5 : ∀ k, rI M 45 k = rI M 105 k) (e6 : ∀ k, rI M 46 k = rI M 106 k) (hv : ∀ k, k < n → (∃ p q, p < 6 ∧ q < 6 ∧ p ≠ q ∧ rI M 103 k = nI p ∧ rI M 104 k = nI q)) (hm : ∀ j k, j ≤ k → k < n → (rI M 106 j).toInt ≤ (rI M 106 k).toInt) {p : Nat} (hp : p < 6) (y : Int32) : fX5_held Z M 39 (nI p) y = some (hd M (nI p) y n) := by
  have hx : ix (nI p) = p := ix_nI (by omega)
  have a42 : aok Z 42 100 (nI p) := aok_nI (tg_42 hZ) hp (by decide)
  unfold fX5_held
  simp only [if_pos (tg_39 hZ), fr_39_2 hF, if_pos a42, pu]
  obtain ⟨r, hr1, hr2⟩ := loop_inv (f := fun s4 : Int32 × Int32 => (if (rI M 39 7) ≤ s4.2 then some (Sum.inr s4.1) else (if aok Z (rR M 39 6) 100 s4.2 then (if y < (rI M (rR M 39 6) (ix s4.2)) then some (Sum.inr s4.1) else (if aok Z (rR M 39 3) 100 s4.2 then (if (rI M (rR M 39 3) (ix s4.2)) = nI p then (if aok Z (rR M 39 5) 100 s4.2 then some (Sum.inl ((s4.1 - (rI M (rR M 39 5) (ix s4.2))), (s4.2 + (1 : Int32)))) else none) else (if aok Z (rR M 39 4) 100 s4.2 then (if (rI M (rR M 39 4) (ix s4.2)) = nI p then (if aok Z (rR M 39 5) 100 s4.2 then some (Sum.inl ((s4.1 + (rI M (rR M 39 5) (ix s4.2))), (s4.2 + (1 : Int32)))) else none) else some (Sum.inl (s4.1, (s4.2 + (1 : Int32))))) else none)) else none)) else none)))
    (fun s => ∃ i, i ≤ n ∧ s = (hd M (nI p) y i, nI i)) (fun r => r = hd M (nI p) y n) (fun s => n - ix s.2) (by
    rintro s ⟨i, hi, rfl⟩
    have hix : ix (nI i) = i := ix_nI (by omega)
    by_cases hin : i = n
    · subst hin
      right
      exact ⟨_, by simp [h1], rfl⟩
    · have hi : i < n := by omega
      have hix1 : ix (nI (i + 1)) = i + 1 := ix_nI (by omega)
      have hle : ¬ nI n ≤ nI i := by
        rw [i32_le, nI_toInt (by omega), nI_toInt (by omega)]
        omega
      have a43 : aok Z 43 100 (nI i) := aok_nI (tg_43 hZ) (by omega) (by decide)
      have a44 : aok Z 44 100 (nI i) := aok_nI (tg_44 hZ) (by omega) (by decide)
      have a45 : aok Z 45 100 (nI i) := aok_nI (tg_45 hZ) (by omega) (by decide)
      have a46 : aok Z 46 100 (nI i) := aok_nI (tg_46 hZ) (by omega) (by decide)
      simp only [h1, if_neg hle, fr_39_3 hF, fr_39_4 hF, fr_39_5 hF, fr_39_6 hF, if_pos a43, if_pos a44, if_pos a45, if_pos a46, hix, e3, e4, e5, e6]
      by_cases g1 : y < rI M 106 i
      · right
        refine ⟨hd M (nI p) y i, by simp [g1], ?_⟩
        refine (hd_late (by omega) (fun k h3 h4 => ?_)).symm
        have := hm i k h3 h4
        rw [i32_lt] at g1 ⊢
        omega
      · left
        obtain ⟨u, v, hu, hv1, huv, eu, ev⟩ := hv i hi
        have hne : ¬ (rI M 103 i = nI p ∧ rI M 104 i = nI p) := by
          rintro ⟨t1, t2⟩
          rw [eu] at t1
          rw [ev] at t2
          have t3 := (nI_eq (by omega) (by omega)).mp t1
          have t4 := (nI_eq (by omega) (by omega)).mp t2
          omega
        refine ⟨(hd M (nI p) y (i + 1), nI (i + 1)), ?_, ⟨i + 1, by omega, rfl⟩, ?_⟩
        · by_cases g3 : rI M 103 i = nI p
          · have g2 : ¬ rI M 104 i = nI p := fun h => hne ⟨g3, h⟩
            simp [g1, g2, g3, hd, nI_succ, Int32.sub_eq_add_neg]
          · by_cases g2 : rI M 104 i = nI p
            · simp [g1, g2, g3, hd, nI_succ]
            · simp [g1, g2, g3, hd, nI_succ]
        · show n - ix (nI (i + 1)) < n - i
          rw [hix1]
          omega) (hd M (nI p) y 0, nI 0) ⟨0, by omega, rfl⟩
  rw [hr2] at hr1
  rw [← hr1, hd, hx, e2]
  rfl
theorem op_had {Z : Shp} {M : Mem} (hZ : OKZ Z) (hF : Fix M) (hI : IShare M) (x1 x2 : Int32) : ∃ r, fX11_had Z M 2 x1 x2 = some r ∧ fX12_had Z M 51 x1 x2 = some r := by
  obtain ⟨n, hn, h1, h2, e2, e3, e4, e5, e6, hb, hv, hm⟩ := id hI
  by_cases c1 : fX11_within x1 0 5 = 0
  · exact ⟨-101, by simp [fX11_had, c1], by simp [fX12_had, fX12_isHolder, in_m1_e, in_0_e, in_0_1, in_0_2, in_0_23, in_0_3, in_0_4, in_0_40, in_0_5, in_0_50, in_0_599, in_0_6, in_0_7, in_0_9, in_0_99, in_0_999, in_0_9999, in_0_99999, in_0_999999, in_1_100, in_1_200, in_1_6, in_1_9, in_1_999, in_10_17, in_10_200, in_48_57, in_6_17, in_e_99, in_e_9999, in_within, c1]⟩
  · by_cases c2 : fX11_within x2 0 99 = 0
    · exact ⟨-102, by simp [fX11_had, c1, c2], by simp [fX12_had, fX12_isHolder, fX12_isDay, in_m1_e, in_0_e, in_0_1, in_0_2, in_0_23, in_0_3, in_0_4, in_0_40, in_0_5, in_0_50, in_0_599, in_0_6, in_0_7, in_0_9, in_0_99, in_0_999, in_0_9999, in_0_99999, in_0_999999, in_1_100, in_1_200, in_1_6, in_1_9, in_1_999, in_10_17, in_10_200, in_48_57, in_6_17, in_e_99, in_e_9999, in_within, c1, c2]⟩
    · obtain ⟨p, hp, rfl⟩ := wN (n := 5) (by decide) c1
      refine ⟨hd M (nI p) x2 n, ?_, ?_⟩
      · simp [fX11_had, c1, c2, tg_2 hZ, tg_3 hZ, tg_4 hZ, tg_5 hZ, tg_6 hZ, tg_7 hZ, tg_8 hZ, tg_24 hZ, tg_25 hZ, tg_26 hZ, tg_27 hZ, tg_28 hZ, tg_29 hZ, tg_30 hZ, tg_31 hZ, tg_32 hZ, tg_33 hZ, tg_34 hZ, tg_35 hZ, tg_36 hZ, tg_37 hZ, tg_38 hZ, tg_39 hZ, tg_40 hZ, tg_41 hZ, tg_42 hZ, tg_43 hZ, tg_44 hZ, tg_45 hZ, tg_46 hZ, tg_47 hZ, tg_48 hZ, tg_49 hZ, tg_50 hZ, fr_2_0 hF, fr_3_0 hF, fr_3_1 hF, fr_3_2 hF, fr_3_3 hF, fr_3_4 hF, fr_2_1 hF, fr_24_0 hF, fr_24_2 hF, fr_2_2 hF, fr_27_0 hF, fr_27_1 hF, fr_27_2 hF, fr_27_8 hF, fr_2_3 hF, fr_32_0 hF, fr_32_1 hF, fr_32_3 hF, fr_32_4 hF, fr_32_5 hF, fr_32_6 hF, fr_2_4 hF, fr_39_0 hF, fr_39_1 hF, fr_39_2 hF, fr_39_3 hF, fr_39_4 hF, fr_39_5 hF, fr_39_6 hF, fr_2_5 hF, fr_47_0 hF, fr_47_1 hF, fr_47_2 hF, had_c hZ hF hn h1 e2 e3 e4 e5 e6 (fun k hk => (hv k hk).1) hm (show p < 6 by omega)]
      · simp [fX12_had, fX12_isHolder, fX12_isDay, in_m1_e, in_0_e, in_0_1, in_0_2, in_0_23, in_0_3, in_0_4, in_0_40, in_0_5, in_0_50, in_0_599, in_0_6, in_0_7, in_0_9, in_0_99, in_0_999, in_0_9999, in_0_99999, in_0_999999, in_1_100, in_1_200, in_1_6, in_1_9, in_1_999, in_10_17, in_10_200, in_48_57, in_6_17, in_e_99, in_e_9999, in_within, c1, c2, tg_51 hZ, tg_52 hZ, tg_53 hZ, tg_54 hZ, tg_55 hZ, tg_56 hZ, tg_57 hZ, tg_58 hZ, tg_59 hZ, tg_60 hZ, tg_61 hZ, tg_62 hZ, tg_63 hZ, tg_64 hZ, tg_65 hZ, tg_66 hZ, tg_67 hZ, tg_68 hZ, tg_69 hZ, tg_70 hZ, tg_71 hZ, tg_72 hZ, tg_73 hZ, tg_74 hZ, tg_75 hZ, tg_76 hZ, tg_77 hZ, tg_78 hZ, tg_79 hZ, tg_80 hZ, tg_81 hZ, tg_82 hZ, tg_83 hZ, tg_84 hZ, tg_85 hZ, tg_86 hZ, tg_87 hZ, tg_88 hZ, tg_89 hZ, tg_90 hZ, tg_91 hZ, tg_92 hZ, tg_93 hZ, tg_94 hZ, tg_95 hZ, tg_96 hZ, tg_97 hZ, tg_98 hZ, tg_99 hZ, tg_100 hZ, tg_101 hZ, tg_102 hZ, tg_103 hZ, tg_104 hZ, tg_105 hZ, tg_106 hZ, tg_107 hZ, tg_108 hZ, tg_109 hZ, fr_51_0 hF, fr_51_1 hF, fr_51_2 hF, fr_51_4 hF, fr_51_5 hF, fr_51_6 hF, fr_51_7 hF, fr_51_8 hF, fr_51_9 hF, fr_51_10 hF, fr_51_16 hF, fr_51_17 hF, fr_51_18 hF, fr_51_19 hF, fr_51_20 hF, fr_51_22 hF, fr_51_23 hF, fr_51_24 hF, fr_51_25 hF, fr_51_26 hF, fr_51_27 hF, fr_51_28 hF, fr_51_29 hF, fr_51_30 hF, fr_51_31 hF, fr_51_32 hF, fr_51_33 hF, fr_51_36 hF, fr_51_37 hF, fr_51_38 hF, fr_51_39 hF, fr_51_40 hF, fr_51_41 hF, fr_51_42 hF, fr_51_51 hF, fr_51_52 hF, fr_51_54 hF, fr_51_56 hF, fr_51_58 hF, fr_51_59 hF, fr_51_60 hF, fr_51_62 hF, fr_51_63 hF, fr_51_67 hF, fr_51_68 hF, fr_51_69 hF, fr_51_70 hF, fr_51_71 hF, fr_51_72 hF, fr_51_73 hF, fr_51_74 hF, fr_51_76 hF, fr_51_77 hF, fr_51_78 hF, fr_51_79 hF, fr_51_82 hF, fr_51_83 hF, fr_51_84 hF, had_m hZ hF hn h2 (show p < 6 by omega)]
theorem op_shares {Z : Shp} {M : Mem} (hZ : OKZ Z) (hF : Fix M) (hI : IShare M) (x1 x2 : Int32) : ∃ r M1 M2, fX11_shares Z M 2 x1 x2 = some (r, M1) ∧ fX12_shares Z M1 51 x1 x2 = some (r, M2) ∧ IShare M2 ∧ Wr Z FShare [] [] M M2 := by
  obtain ⟨n, hn, h1, h2, e2, e3, e4, e5, e6, hb, hv, hm⟩ := id hI
  by_cases c1 : fX11_within x1 0 5 = 0
  · exact ⟨-101, M, M, by simp [fX11_shares, c1], by simp [fX12_shares, fX12_isHolder, in_m1_e, in_0_e, in_0_1, in_0_2, in_0_23, in_0_3, in_0_4, in_0_40, in_0_5, in_0_50, in_0_599, in_0_6, in_0_7, in_0_9, in_0_99, in_0_999, in_0_9999, in_0_99999, in_0_999999, in_1_100, in_1_200, in_1_6, in_1_9, in_1_999, in_10_17, in_10_200, in_48_57, in_6_17, in_e_99, in_e_9999, in_within, c1], hI, Wr.rf⟩
  · by_cases c2 : fX11_within x2 0 999 = 0
    · exact ⟨-102, M, M, by simp [fX11_shares, c1, c2], by simp [fX12_shares, fX12_isHolder, in_m1_e, in_0_e, in_0_1, in_0_2, in_0_23, in_0_3, in_0_4, in_0_40, in_0_5, in_0_50, in_0_599, in_0_6, in_0_7, in_0_9, in_0_99, in_0_999, in_0_9999, in_0_99999, in_0_999999, in_1_100, in_1_200, in_1_6, in_1_9, in_1_999, in_10_17, in_10_200, in_48_57, in_6_17, in_e_99, in_e_9999, in_within, c1, c2], hI, Wr.rf⟩
    · obtain ⟨p, hp, rfl⟩ := wN (n := 5) (by decide) c1
      have hix : ix (nI p) = p := ix_nI (by omega)
      by_cases c3 : n = 0
      · subst c3
        have a42 : aok Z 42 100 (nI p) := aok_nI (tg_42 hZ) (by omega) (by decide)
        have a102 : aok Z 102 100 (nI p) := aok_nI (tg_102 hZ) (by omega) (by decide)
        refine ⟨rI M 102 p, wI M 42 p x2, wI (wI M 42 p x2) 102 p x2, ?_, ?_, ⟨0, by omega, ?_, ?_, ?_, ?_, ?_, ?_, ?_, ?_, ?_, ?_⟩, ?_⟩
        · simp [fX11_shares, c1, c2, tg_2 hZ, tg_3 hZ, tg_4 hZ, tg_5 hZ, tg_6 hZ, tg_7 hZ, tg_8 hZ, tg_24 hZ, tg_25 hZ, tg_26 hZ, tg_27 hZ, tg_28 hZ, tg_29 hZ, tg_30 hZ, tg_31 hZ, tg_32 hZ, tg_33 hZ, tg_34 hZ, tg_35 hZ, tg_36 hZ, tg_37 hZ, tg_38 hZ, tg_39 hZ, tg_40 hZ, tg_41 hZ, tg_42 hZ, tg_43 hZ, tg_44 hZ, tg_45 hZ, tg_46 hZ, tg_47 hZ, tg_48 hZ, tg_49 hZ, tg_50 hZ, fr_2_0 hF, fr_3_0 hF, fr_3_1 hF, fr_3_2 hF, fr_3_3 hF, fr_3_4 hF, fr_2_1 hF, fr_24_0 hF, fr_24_2 hF, fr_2_2 hF, fr_27_0 hF, fr_27_1 hF, fr_27_2 hF, fr_27_8 hF, fr_2_3 hF, fr_32_0 hF, fr_32_1 hF, fr_32_3 hF, fr_32_4 hF, fr_32_5 hF, fr_32_6 hF, fr_2_4 hF, fr_39_0 hF, fr_39_1 hF, fr_39_2 hF, fr_39_3 hF, fr_39_4 hF, fr_39_5 hF, fr_39_6 hF, fr_2_5 hF, fr_47_0 hF, fr_47_1 hF, fr_47_2 hF, h1, show nI 0 ≤ 0 by decide, if_pos a42, hix, pu, e2]
        · simp [fX12_shares, fX12_isHolder, in_m1_e, in_0_e, in_0_1, in_0_2, in_0_23, in_0_3, in_0_4, in_0_40, in_0_5, in_0_50, in_0_599, in_0_6, in_0_7, in_0_9, in_0_99, in_0_999, in_0_9999, in_0_99999, in_0_999999, in_1_100, in_1_200, in_1_6, in_1_9, in_1_999, in_10_17, in_10_200, in_48_57, in_6_17, in_e_99, in_e_9999, in_within, c1, c2, tg_51 hZ, tg_52 hZ, tg_53 hZ, tg_54 hZ, tg_55 hZ, tg_56 hZ, tg_57 hZ, tg_58 hZ, tg_59 hZ, tg_60 hZ, tg_61 hZ, tg_62 hZ, tg_63 hZ, tg_64 hZ, tg_65 hZ, tg_66 hZ, tg_67 hZ, tg_68 hZ, tg_69 hZ, tg_70 hZ, tg_71 hZ, tg_72 hZ, tg_73 hZ, tg_74 hZ, tg_75 hZ, tg_76 hZ, tg_77 hZ, tg_78 hZ, tg_79 hZ, tg_80 hZ, tg_81 hZ, tg_82 hZ, tg_83 hZ, tg_84 hZ, tg_85 hZ, tg_86 hZ, tg_87 hZ, tg_88 hZ, tg_89 hZ, tg_90 hZ, tg_91 hZ, tg_92 hZ, tg_93 hZ, tg_94 hZ, tg_95 hZ, tg_96 hZ, tg_97 hZ, tg_98 hZ, tg_99 hZ, tg_100 hZ, tg_101 hZ, tg_102 hZ, tg_103 hZ, tg_104 hZ, tg_105 hZ, tg_106 hZ, tg_107 hZ, tg_108 hZ, tg_109 hZ, fr_51_0 hF, fr_51_1 hF, fr_51_2 hF, fr_51_4 hF, fr_51_5 hF, fr_51_6 hF, fr_51_7 hF, fr_51_8 hF, fr_51_9 hF, fr_51_10 hF, fr_51_16 hF, fr_51_17 hF, fr_51_18 hF, fr_51_19 hF, fr_51_20 hF, fr_51_22 hF, fr_51_23 hF, fr_51_24 hF, fr_51_25 hF, fr_51_26 hF, fr_51_27 hF, fr_51_28 hF, fr_51_29 hF, fr_51_30 hF, fr_51_31 hF, fr_51_32 hF, fr_51_33 hF, fr_51_36 hF, fr_51_37 hF, fr_51_38 hF, fr_51_39 hF, fr_51_40 hF, fr_51_41 hF, fr_51_42 hF, fr_51_51 hF, fr_51_52 hF, fr_51_54 hF, fr_51_56 hF, fr_51_58 hF, fr_51_59 hF, fr_51_60 hF, fr_51_62 hF, fr_51_63 hF, fr_51_67 hF, fr_51_68 hF, fr_51_69 hF, fr_51_70 hF, fr_51_71 hF, fr_51_72 hF, fr_51_73 hF, fr_51_74 hF, fr_51_76 hF, fr_51_77 hF, fr_51_78 hF, fr_51_79 hF, fr_51_82 hF, fr_51_83 hF, fr_51_84 hF, rI_wI, rJ_wI, rR_wI, rI_wJ, rJ_wJ, rR_wJ, rI_wR, rJ_wR, rR_wR, h2, show nI 0 ≤ 0 by decide, if_pos a102, hix, pu]
        · simpa [rI_wI] using h1
        · simpa [rI_wI] using h2
        · intro k
          simp [rI_wI, e2]
        · intro k
          simp [rI_wI, e3]
        · intro k
          simp [rI_wI, e4]
        · intro k
          simp [rI_wI, e5]
        · intro k
          simp [rI_wI, e6]
        · intro k
          by_cases hk : k = p
          · subst hk; simpa [rI_wI] using w_rng c2
          · simpa [rI_wI, hk] using hb k
        · exact fun k hk => absurd hk (by omega)
        · exact fun j k _ hk => absurd hk (by omega)
        · exact (Wr.rf.sI (by simp [inF])).sI (by simp [inF])
      · have hgt : ¬ nI n ≤ 0 := by
          rw [i32_le, nI_toInt (by omega), show (0 : Int32).toInt = 0 by decide]
          omega
        refine ⟨-103, M, M, ?_, ?_, hI, Wr.rf⟩
        · simp [fX11_shares, c1, c2, tg_2 hZ, tg_3 hZ, tg_4 hZ, tg_5 hZ, tg_6 hZ, tg_7 hZ, tg_8 hZ, tg_24 hZ, tg_25 hZ, tg_26 hZ, tg_27 hZ, tg_28 hZ, tg_29 hZ, tg_30 hZ, tg_31 hZ, tg_32 hZ, tg_33 hZ, tg_34 hZ, tg_35 hZ, tg_36 hZ, tg_37 hZ, tg_38 hZ, tg_39 hZ, tg_40 hZ, tg_41 hZ, tg_42 hZ, tg_43 hZ, tg_44 hZ, tg_45 hZ, tg_46 hZ, tg_47 hZ, tg_48 hZ, tg_49 hZ, tg_50 hZ, fr_2_0 hF, fr_3_0 hF, fr_3_1 hF, fr_3_2 hF, fr_3_3 hF, fr_3_4 hF, fr_2_1 hF, fr_24_0 hF, fr_24_2 hF, fr_2_2 hF, fr_27_0 hF, fr_27_1 hF, fr_27_2 hF, fr_27_8 hF, fr_2_3 hF, fr_32_0 hF, fr_32_1 hF, fr_32_3 hF, fr_32_4 hF, fr_32_5 hF, fr_32_6 hF, fr_2_4 hF, fr_39_0 hF, fr_39_1 hF, fr_39_2 hF, fr_39_3 hF, fr_39_4 hF, fr_39_5 hF, fr_39_6 hF, fr_2_5 hF, fr_47_0 hF, fr_47_1 hF, fr_47_2 hF, h1, hgt]
        · simp [fX12_shares, fX12_isHolder, in_m1_e, in_0_e, in_0_1, in_0_2, in_0_23, in_0_3, in_0_4, in_0_40, in_0_5, in_0_50, in_0_599, in_0_6, in_0_7, in_0_9, in_0_99, in_0_999, in_0_9999, in_0_99999, in_0_999999, in_1_100, in_1_200, in_1_6, in_1_9, in_1_999, in_10_17, in_10_200, in_48_57, in_6_17, in_e_99, in_e_9999, in_within, c1, c2, tg_51 hZ, tg_52 hZ, tg_53 hZ, tg_54 hZ, tg_55 hZ, tg_56 hZ, tg_57 hZ, tg_58 hZ, tg_59 hZ, tg_60 hZ, tg_61 hZ, tg_62 hZ, tg_63 hZ, tg_64 hZ, tg_65 hZ, tg_66 hZ, tg_67 hZ, tg_68 hZ, tg_69 hZ, tg_70 hZ, tg_71 hZ, tg_72 hZ, tg_73 hZ, tg_74 hZ, tg_75 hZ, tg_76 hZ, tg_77 hZ, tg_78 hZ, tg_79 hZ, tg_80 hZ, tg_81 hZ, tg_82 hZ, tg_83 hZ, tg_84 hZ, tg_85 hZ, tg_86 hZ, tg_87 hZ, tg_88 hZ, tg_89 hZ, tg_90 hZ, tg_91 hZ, tg_92 hZ, tg_93 hZ, tg_94 hZ, tg_95 hZ, tg_96 hZ, tg_97 hZ, tg_98 hZ, tg_99 hZ, tg_100 hZ, tg_101 hZ, tg_102 hZ, tg_103 hZ, tg_104 hZ, tg_105 hZ, tg_106 hZ, tg_107 hZ, tg_108 hZ, tg_109 hZ, fr_51_0 hF, fr_51_1 hF, fr_51_2 hF, fr_51_4 hF, fr_51_5 hF, fr_51_6 hF, fr_51_7 hF, fr_51_8 hF, fr_51_9 hF, fr_51_10 hF, fr_51_16 hF, fr_51_17 hF, fr_51_18 hF, fr_51_19 hF, fr_51_20 hF, fr_51_22 hF, fr_51_23 hF, fr_51_24 hF, fr_51_25 hF, fr_51_26 hF, fr_51_27 hF, fr_51_28 hF, fr_51_29 hF, fr_51_30 hF, fr_51_31 hF, fr_51_32 hF, fr_51_33 hF, fr_51_36 hF, fr_51_37 hF, fr_51_38 hF, fr_51_39 hF, fr_51_40 hF, fr_51_41 hF, fr_51_42 hF, fr_51_51 hF, fr_51_52 hF, fr_51_54 hF, fr_51_56 hF, fr_51_58 hF, fr_51_59 hF, fr_51_60 hF, fr_51_62 hF, fr_51_63 hF, fr_51_67 hF, fr_51_68 hF, fr_51_69 hF, fr_51_70 hF, fr_51_71 hF, fr_51_72 hF, fr_51_73 hF, fr_51_74 hF, fr_51_76 hF, fr_51_77 hF, fr_51_78 hF, fr_51_79 hF, fr_51_82 hF, fr_51_83 hF, fr_51_84 hF, h2, hgt]
/-- the day of the latest pass -/
def ltd (M : Mem) (n : Nat) : Int32 := if n = 0 then 0 else rI M 106 (n - 1)
theorem nI_prd {n : Nat} (h : n ≠ 0) : nI n - 1 = nI (n - 1) := by
  obtain ⟨m, rfl⟩ : ∃ m, n = m + 1 := ⟨n - 1, by omega⟩
  rw [nI_pred]
  rfl
theorem latest_m {Z : Shp} {M : Mem} (hZ : OKZ Z) (hF : Fix M) {n : Nat} (hn : n ≤ 24) (h2 : rI M 51 75 = nI n) : (if (rI M 51 75) ≤ 0 then some (0 : Int64) else (if aok Z (rR M 51 79) 100 ((rI M 51 75) - (1 : Int32)) then some ((rI M (rR M 51 79) (ix ((rI M 51 75) - (1 : Int32)))).toInt64) else none)) = some (ltd M n).toInt64 := by
  unfold ltd
  by_cases c : n = 0
  · subst c
    simp [h2, show nI 0 ≤ 0 by decide]
  · have hgt : ¬ nI n ≤ 0 := by
      rw [i32_le, nI_toInt (by omega), show (0 : Int32).toInt = 0 by decide]
      omega
    have a106 : aok Z 106 100 (nI (n - 1)) := aok_nI (tg_106 hZ) (by omega) (by decide)
    have hix : ix (nI (n - 1)) = n - 1 := ix_nI (by omega)
    simp [tg_51 hZ, tg_52 hZ, tg_53 hZ, tg_54 hZ, tg_55 hZ, tg_56 hZ, tg_57 hZ, tg_58 hZ, tg_59 hZ, tg_60 hZ, tg_61 hZ, tg_62 hZ, tg_63 hZ, tg_64 hZ, tg_65 hZ, tg_66 hZ, tg_67 hZ, tg_68 hZ, tg_69 hZ, tg_70 hZ, tg_71 hZ, tg_72 hZ, tg_73 hZ, tg_74 hZ, tg_75 hZ, tg_76 hZ, tg_77 hZ, tg_78 hZ, tg_79 hZ, tg_80 hZ, tg_81 hZ, tg_82 hZ, tg_83 hZ, tg_84 hZ, tg_85 hZ, tg_86 hZ, tg_87 hZ, tg_88 hZ, tg_89 hZ, tg_90 hZ, tg_91 hZ, tg_92 hZ, tg_93 hZ, tg_94 hZ, tg_95 hZ, tg_96 hZ, tg_97 hZ, tg_98 hZ, tg_99 hZ, tg_100 hZ, tg_101 hZ, tg_102 hZ, tg_103 hZ, tg_104 hZ, tg_105 hZ, tg_106 hZ, tg_107 hZ, tg_108 hZ, tg_109 hZ, fr_51_0 hF, fr_51_1 hF, fr_51_2 hF, fr_51_4 hF, fr_51_5 hF, fr_51_6 hF, fr_51_7 hF, fr_51_8 hF, fr_51_9 hF, fr_51_10 hF, fr_51_16 hF, fr_51_17 hF, fr_51_18 hF, fr_51_19 hF, fr_51_20 hF, fr_51_22 hF, fr_51_23 hF, fr_51_24 hF, fr_51_25 hF, fr_51_26 hF, fr_51_27 hF, fr_51_28 hF, fr_51_29 hF, fr_51_30 hF, fr_51_31 hF, fr_51_32 hF, fr_51_33 hF, fr_51_36 hF, fr_51_37 hF, fr_51_38 hF, fr_51_39 hF, fr_51_40 hF, fr_51_41 hF, fr_51_42 hF, fr_51_51 hF, fr_51_52 hF, fr_51_54 hF, fr_51_56 hF, fr_51_58 hF, fr_51_59 hF, fr_51_60 hF, fr_51_62 hF, fr_51_63 hF, fr_51_67 hF, fr_51_68 hF, fr_51_69 hF, fr_51_70 hF, fr_51_71 hF, fr_51_72 hF, fr_51_73 hF, fr_51_74 hF, fr_51_76 hF, fr_51_77 hF, fr_51_78 hF, fr_51_79 hF, fr_51_82 hF, fr_51_83 hF, fr_51_84 hF, h2, hgt, c, nI_prd c, if_pos a106, hix]
theorem latest_c {Z : Shp} {M : Mem} (hZ : OKZ Z) (hF : Fix M) {n : Nat} (hn : n ≤ 24) (h1 : rI M 39 7 = nI n) (e6 : ∀ k, rI M 46 k = rI M 106 k) : fX5_latestDay Z M 39 = some (ltd M n) := by
  unfold fX5_latestDay ltd
  by_cases c : n = 0
  · subst c
    simp [tg_2 hZ, tg_3 hZ, tg_4 hZ, tg_5 hZ, tg_6 hZ, tg_7 hZ, tg_8 hZ, tg_24 hZ, tg_25 hZ, tg_26 hZ, tg_27 hZ, tg_28 hZ, tg_29 hZ, tg_30 hZ, tg_31 hZ, tg_32 hZ, tg_33 hZ, tg_34 hZ, tg_35 hZ, tg_36 hZ, tg_37 hZ, tg_38 hZ, tg_39 hZ, tg_40 hZ, tg_41 hZ, tg_42 hZ, tg_43 hZ, tg_44 hZ, tg_45 hZ, tg_46 hZ, tg_47 hZ, tg_48 hZ, tg_49 hZ, tg_50 hZ, fr_2_0 hF, fr_3_0 hF, fr_3_1 hF, fr_3_2 hF, fr_3_3 hF, fr_3_4 hF, fr_2_1 hF, fr_24_0 hF, fr_24_2 hF, fr_2_2 hF, fr_27_0 hF, fr_27_1 hF, fr_27_2 hF, fr_27_8 hF, fr_2_3 hF, fr_32_0 hF, fr_32_1 hF, fr_32_3 hF, fr_32_4 hF, fr_32_5 hF, fr_32_6 hF, fr_2_4 hF, fr_39_0 hF, fr_39_1 hF, fr_39_2 hF, fr_39_3 hF, fr_39_4 hF, fr_39_5 hF, fr_39_6 hF, fr_2_5 hF, fr_47_0 hF, fr_47_1 hF, fr_47_2 hF, h1, show nI 0 = 0 by decide]
  · have hne : ¬ nI n = 0 := fun h => c ((nI_eq (b := 0) (by omega) (by decide)).mp h)
    have a46 : aok Z 46 100 (nI (n - 1)) := aok_nI (tg_46 hZ) (by omega) (by decide)
    have hix : ix (nI (n - 1)) = n - 1 := ix_nI (by omega)
    simp [tg_2 hZ, tg_3 hZ, tg_4 hZ, tg_5 hZ, tg_6 hZ, tg_7 hZ, tg_8 hZ, tg_24 hZ, tg_25 hZ, tg_26 hZ, tg_27 hZ, tg_28 hZ, tg_29 hZ, tg_30 hZ, tg_31 hZ, tg_32 hZ, tg_33 hZ, tg_34 hZ, tg_35 hZ, tg_36 hZ, tg_37 hZ, tg_38 hZ, tg_39 hZ, tg_40 hZ, tg_41 hZ, tg_42 hZ, tg_43 hZ, tg_44 hZ, tg_45 hZ, tg_46 hZ, tg_47 hZ, tg_48 hZ, tg_49 hZ, tg_50 hZ, fr_2_0 hF, fr_3_0 hF, fr_3_1 hF, fr_3_2 hF, fr_3_3 hF, fr_3_4 hF, fr_2_1 hF, fr_24_0 hF, fr_24_2 hF, fr_2_2 hF, fr_27_0 hF, fr_27_1 hF, fr_27_2 hF, fr_27_8 hF, fr_2_3 hF, fr_32_0 hF, fr_32_1 hF, fr_32_3 hF, fr_32_4 hF, fr_32_5 hF, fr_32_6 hF, fr_2_4 hF, fr_39_0 hF, fr_39_1 hF, fr_39_2 hF, fr_39_3 hF, fr_39_4 hF, fr_39_5 hF, fr_39_6 hF, fr_2_5 hF, fr_47_0 hF, fr_47_1 hF, fr_47_2 hF, h1, hne, c, nI_prd c, if_pos a46, hix, e6]
theorem hd_congr {M M1 : Mem} (h : ∀ k, rI M1 102 k = rI M 102 k ∧ rI M1 103 k = rI M 103 k ∧ rI M1 104 k = rI M 104 k ∧ rI M1 105 k = rI M 105 k ∧ rI M1 106 k = rI M 106 k) (x y : Int32) (n : Nat) : hd M1 x y n = hd M x y n := by
  induction n with
  | zero => exact (h _).1
  | succ n ih => rw [hd, hd, ih, (h n).2.1, (h n).2.2.1, (h n).2.2.2.1, (h n).2.2.2.2]
theorem op_pass {Z : Shp} {M : Mem} (hZ : OKZ Z) (hF : Fix M) (hI : IShare M) (x1 x2 x3 x4 : Int32) : ∃ r M1 M2, fX11_pass Z M 2 x1 x2 x3 x4 = some (r, M1) ∧ fX12_pass Z M1 51 x1 x2 x3 x4 = some (r, M2) ∧ IShare M2 ∧ Wr Z FShare [] [] M M2 := by
  obtain ⟨n, hn, h1, h2, e2, e3, e4, e5, e6, hb, hv, hm⟩ := id hI
  by_cases c1 : fX11_within x1 0 5 = 0
  · exact ⟨-101, M, M, by simp [fX11_pass, c1], by simp [fX12_pass, fX12_isHolder, in_m1_e, in_0_e, in_0_1, in_0_2, in_0_23, in_0_3, in_0_4, in_0_40, in_0_5, in_0_50, in_0_599, in_0_6, in_0_7, in_0_9, in_0_99, in_0_999, in_0_9999, in_0_99999, in_0_999999, in_1_100, in_1_200, in_1_6, in_1_9, in_1_999, in_10_17, in_10_200, in_48_57, in_6_17, in_e_99, in_e_9999, in_within, c1], hI, Wr.rf⟩
  by_cases c2 : fX11_within x2 0 5 = 0
  · exact ⟨-101, M, M, by simp [fX11_pass, c1, c2], by simp [fX12_pass, fX12_isHolder, in_m1_e, in_0_e, in_0_1, in_0_2, in_0_23, in_0_3, in_0_4, in_0_40, in_0_5, in_0_50, in_0_599, in_0_6, in_0_7, in_0_9, in_0_99, in_0_999, in_0_9999, in_0_99999, in_0_999999, in_1_100, in_1_200, in_1_6, in_1_9, in_1_999, in_10_17, in_10_200, in_48_57, in_6_17, in_e_99, in_e_9999, in_within, c1, c2], hI, Wr.rf⟩
  by_cases c3 : x1 = x2
  · exact ⟨-101, M, M, by simp [fX11_pass, c1, c2, c3], by simp [fX12_pass, fX12_isHolder, in_m1_e, in_0_e, in_0_1, in_0_2, in_0_23, in_0_3, in_0_4, in_0_40, in_0_5, in_0_50, in_0_599, in_0_6, in_0_7, in_0_9, in_0_99, in_0_999, in_0_9999, in_0_99999, in_0_999999, in_1_100, in_1_200, in_1_6, in_1_9, in_1_999, in_10_17, in_10_200, in_48_57, in_6_17, in_e_99, in_e_9999, in_within, c1, c2, c3], hI, Wr.rf⟩
  by_cases c4 : fX11_within x3 1 999 = 0
  · exact ⟨-102, M, M, by simp [fX11_pass, c1, c2, c3, c4], by simp [fX12_pass, fX12_isHolder, in_m1_e, in_0_e, in_0_1, in_0_2, in_0_23, in_0_3, in_0_4, in_0_40, in_0_5, in_0_50, in_0_599, in_0_6, in_0_7, in_0_9, in_0_99, in_0_999, in_0_9999, in_0_99999, in_0_999999, in_1_100, in_1_200, in_1_6, in_1_9, in_1_999, in_10_17, in_10_200, in_48_57, in_6_17, in_e_99, in_e_9999, in_within, c1, c2, c3, c4], hI, Wr.rf⟩
  have q1 := latest_c hZ hF hn h1 e6
  have q2 := latest_m hZ hF hn h2
  by_cases c5 : fX11_within x4 (ltd M n) 99 = 0
  · refine ⟨-102, M, M, ?_, ?_, hI, Wr.rf⟩
    · simp [fX11_pass, c1, c2, c3, c4, tg_2 hZ, tg_3 hZ, tg_4 hZ, tg_5 hZ, tg_6 hZ, tg_7 hZ, tg_8 hZ, tg_24 hZ, tg_25 hZ, tg_26 hZ, tg_27 hZ, tg_28 hZ, tg_29 hZ, tg_30 hZ, tg_31 hZ, tg_32 hZ, tg_33 hZ, tg_34 hZ, tg_35 hZ, tg_36 hZ, tg_37 hZ, tg_38 hZ, tg_39 hZ, tg_40 hZ, tg_41 hZ, tg_42 hZ, tg_43 hZ, tg_44 hZ, tg_45 hZ, tg_46 hZ, tg_47 hZ, tg_48 hZ, tg_49 hZ, tg_50 hZ, fr_2_0 hF, fr_3_0 hF, fr_3_1 hF, fr_3_2 hF, fr_3_3 hF, fr_3_4 hF, fr_2_1 hF, fr_24_0 hF, fr_24_2 hF, fr_2_2 hF, fr_27_0 hF, fr_27_1 hF, fr_27_2 hF, fr_27_8 hF, fr_2_3 hF, fr_32_0 hF, fr_32_1 hF, fr_32_3 hF, fr_32_4 hF, fr_32_5 hF, fr_32_6 hF, fr_2_4 hF, fr_39_0 hF, fr_39_1 hF, fr_39_2 hF, fr_39_3 hF, fr_39_4 hF, fr_39_5 hF, fr_39_6 hF, fr_2_5 hF, fr_47_0 hF, fr_47_1 hF, fr_47_2 hF, q1, c5]
    · unfold fX12_pass
      rw [q2]
      simp [fX12_isHolder, in_m1_e, in_0_e, in_0_1, in_0_2, in_0_23, in_0_3, in_0_4, in_0_40, in_0_5, in_0_50, in_0_599, in_0_6, in_0_7, in_0_9, in_0_99, in_0_999, in_0_9999, in_0_99999, in_0_999999, in_1_100, in_1_200, in_1_6, in_1_9, in_1_999, in_10_17, in_10_200, in_48_57, in_6_17, in_e_99, in_e_9999, in_within, c1, c2, c3, c4, tg_51 hZ, c5]
  obtain ⟨p, hp, rfl⟩ := wN (n := 5) (by decide) c1
  obtain ⟨q, hq, rfl⟩ := wN (n := 5) (by decide) c2
  have hpq : p ≠ q := fun h => c3 (by rw [h])
  have q3 := had_c hZ hF hn h1 e2 e3 e4 e5 e6 (fun k hk => (hv k hk).1) hm (show p < 6 by omega)
  have q4 := fun y => had_m hZ hF hn h2 (show p < 6 by omega) y
  by_cases c6 : x3 ≤ hd M (nI p) 99 n
  case neg =>
    refine ⟨-103, M, M, ?_, ?_, hI, Wr.rf⟩
    · simp [fX11_pass, c1, c2, c3, c4, tg_2 hZ, tg_3 hZ, tg_4 hZ, tg_5 hZ, tg_6 hZ, tg_7 hZ, tg_8 hZ, tg_24 hZ, tg_25 hZ, tg_26 hZ, tg_27 hZ, tg_28 hZ, tg_29 hZ, tg_30 hZ, tg_31 hZ, tg_32 hZ, tg_33 hZ, tg_34 hZ, tg_35 hZ, tg_36 hZ, tg_37 hZ, tg_38 hZ, tg_39 hZ, tg_40 hZ, tg_41 hZ, tg_42 hZ, tg_43 hZ, tg_44 hZ, tg_45 hZ, tg_46 hZ, tg_47 hZ, tg_48 hZ, tg_49 hZ, tg_50 hZ, fr_2_0 hF, fr_3_0 hF, fr_3_1 hF, fr_3_2 hF, fr_3_3 hF, fr_3_4 hF, fr_2_1 hF, fr_24_0 hF, fr_24_2 hF, fr_2_2 hF, fr_27_0 hF, fr_27_1 hF, fr_27_2 hF, fr_27_8 hF, fr_2_3 hF, fr_32_0 hF, fr_32_1 hF, fr_32_3 hF, fr_32_4 hF, fr_32_5 hF, fr_32_6 hF, fr_2_4 hF, fr_39_0 hF, fr_39_1 hF, fr_39_2 hF, fr_39_3 hF, fr_39_4 hF, fr_39_5 hF, fr_39_6 hF, fr_2_5 hF, fr_47_0 hF, fr_47_1 hF, fr_47_2 hF, q1, c5, q3, c6]
    · unfold fX12_pass
      rw [q2]
      simp [fX12_isHolder, in_m1_e, in_0_e, in_0_1, in_0_2, in_0_23, in_0_3, in_0_4, in_0_40, in_0_5, in_0_50, in_0_599, in_0_6, in_0_7, in_0_9, in_0_99, in_0_999, in_0_9999, in_0_99999, in_0_999999, in_1_100, in_1_200, in_1_6, in_1_9, in_1_999, in_10_17, in_10_200, in_48_57, in_6_17, in_e_99, in_e_9999, in_within, c1, c2, c3, c4, tg_51 hZ, c5, q4, c6]
  by_cases c7 : n = 24
  · subst c7
    refine ⟨-104, M, M, ?_, ?_, hI, Wr.rf⟩
    · simp [fX11_pass, fX5_addPass, c1, c2, c3, c4, tg_2 hZ, tg_3 hZ, tg_4 hZ, tg_5 hZ, tg_6 hZ, tg_7 hZ, tg_8 hZ, tg_24 hZ, tg_25 hZ, tg_26 hZ, tg_27 hZ, tg_28 hZ, tg_29 hZ, tg_30 hZ, tg_31 hZ, tg_32 hZ, tg_33 hZ, tg_34 hZ, tg_35 hZ, tg_36 hZ, tg_37 hZ, tg_38 hZ, tg_39 hZ, tg_40 hZ, tg_41 hZ, tg_42 hZ, tg_43 hZ, tg_44 hZ, tg_45 hZ, tg_46 hZ, tg_47 hZ, tg_48 hZ, tg_49 hZ, tg_50 hZ, fr_2_0 hF, fr_3_0 hF, fr_3_1 hF, fr_3_2 hF, fr_3_3 hF, fr_3_4 hF, fr_2_1 hF, fr_24_0 hF, fr_24_2 hF, fr_2_2 hF, fr_27_0 hF, fr_27_1 hF, fr_27_2 hF, fr_27_8 hF, fr_2_3 hF, fr_32_0 hF, fr_32_1 hF, fr_32_3 hF, fr_32_4 hF, fr_32_5 hF, fr_32_6 hF, fr_2_4 hF, fr_39_0 hF, fr_39_1 hF, fr_39_2 hF, fr_39_3 hF, fr_39_4 hF, fr_39_5 hF, fr_39_6 hF, fr_2_5 hF, fr_47_0 hF, fr_47_1 hF, fr_47_2 hF, q1, c5, q3, c6, h1, show ¬ nI 24 < 24 by decide]
    · unfold fX12_pass
      rw [q2]
      simp [fX12_isHolder, in_m1_e, in_0_e, in_0_1, in_0_2, in_0_23, in_0_3, in_0_4, in_0_40, in_0_5, in_0_50, in_0_599, in_0_6, in_0_7, in_0_9, in_0_99, in_0_999, in_0_9999, in_0_99999, in_0_999999, in_1_100, in_1_200, in_1_6, in_1_9, in_1_999, in_10_17, in_10_200, in_48_57, in_6_17, in_e_99, in_e_9999, in_within, c1, c2, c3, c4, tg_51 hZ, c5, q4, c6, h2, show nI 24 = 24 by decide]
  have hn24 : n < 24 := by omega
  have hlt : nI n < 24 := nI_lt hn24 (by decide)
  have hne : ¬ nI n = 24 := fun h => c7 ((nI_eq (by omega) (by decide)).mp h)
  have hix : ix (nI n) = n := ix_nI (by omega)
  have a43 : aok Z 43 100 (nI n) := aok_nI (tg_43 hZ) (by omega) (by decide)
  have a44 : aok Z 44 100 (nI n) := aok_nI (tg_44 hZ) (by omega) (by decide)
  have a45 : aok Z 45 100 (nI n) := aok_nI (tg_45 hZ) (by omega) (by decide)
  have a46 : aok Z 46 100 (nI n) := aok_nI (tg_46 hZ) (by omega) (by decide)
  have a103 : aok Z 103 100 (nI n) := aok_nI (tg_103 hZ) (by omega) (by decide)
  have a104 : aok Z 104 100 (nI n) := aok_nI (tg_104 hZ) (by omega) (by decide)
  have a105 : aok Z 105 100 (nI n) := aok_nI (tg_105 hZ) (by omega) (by decide)
  have a106 : aok Z 106 100 (nI n) := aok_nI (tg_106 hZ) (by omega) (by decide)
  obtain ⟨M1, hM1⟩ : ∃ M1, M1 = wI (wI (wI (wI (wI M 43 n (nI p)) 44 n (nI q)) 45 n x3) 46 n x4) 39 7 (nI n + 1) := ⟨_, rfl⟩
  have w1 : Wr Z FShare [] [] M M1 := by
    rw [hM1]
    exact ((((Wr.rf.sI (by simp [inF])).sI (by simp [inF])).sI (by simp [inF])).sI (by simp [inF])).sI (by simp [inF])
  have hF1 : Fix M1 := w1.fix hF (by decide)
  have h21 : rI M1 51 75 = nI n := by simpa [hM1, rI_wI] using h2
  have hk1 : ∀ k, rI M1 102 k = rI M 102 k ∧ rI M1 103 k = rI M 103 k ∧ rI M1 104 k = rI M 104 k ∧ rI M1 105 k = rI M 105 k ∧ rI M1 106 k = rI M 106 k := by
    intro k
    simp [hM1, rI_wI]
  have q5 := latest_m hZ hF1 hn h21
  have q6 := fun y => had_m hZ hF1 hn h21 (show p < 6 by omega) y
  have q7 : ltd M1 n = ltd M n := by
    unfold ltd
    rw [(hk1 _).2.2.2.2]
  rw [q7] at q5
  refine ⟨nI (n + 1), M1, wI (wI (wI (wI (wI M1 103 n (nI p)) 104 n (nI q)) 105 n x3) 106 n x4) 51 75 (nI n + 1), ?_, ?_, ⟨n + 1, by omega, ?_, ?_, ?_, ?_, ?_, ?_, ?_, ?_, ?_, ?_⟩, ?_⟩
  · simp [fX11_pass, fX5_addPass, c1, c2, c3, c4, tg_2 hZ, tg_3 hZ, tg_4 hZ, tg_5 hZ, tg_6 hZ, tg_7 hZ, tg_8 hZ, tg_24 hZ, tg_25 hZ, tg_26 hZ, tg_27 hZ, tg_28 hZ, tg_29 hZ, tg_30 hZ, tg_31 hZ, tg_32 hZ, tg_33 hZ, tg_34 hZ, tg_35 hZ, tg_36 hZ, tg_37 hZ, tg_38 hZ, tg_39 hZ, tg_40 hZ, tg_41 hZ, tg_42 hZ, tg_43 hZ, tg_44 hZ, tg_45 hZ, tg_46 hZ, tg_47 hZ, tg_48 hZ, tg_49 hZ, tg_50 hZ, fr_2_0 hF, fr_3_0 hF, fr_3_1 hF, fr_3_2 hF, fr_3_3 hF, fr_3_4 hF, fr_2_1 hF, fr_24_0 hF, fr_24_2 hF, fr_2_2 hF, fr_27_0 hF, fr_27_1 hF, fr_27_2 hF, fr_27_8 hF, fr_2_3 hF, fr_32_0 hF, fr_32_1 hF, fr_32_3 hF, fr_32_4 hF, fr_32_5 hF, fr_32_6 hF, fr_2_4 hF, fr_39_0 hF, fr_39_1 hF, fr_39_2 hF, fr_39_3 hF, fr_39_4 hF, fr_39_5 hF, fr_39_6 hF, fr_2_5 hF, fr_47_0 hF, fr_47_1 hF, fr_47_2 hF, q1, c5, q3, c6, h1, hlt, pu, rI_wI, rJ_wI, rR_wI, rI_wJ, rJ_wJ, rR_wJ, rI_wR, rJ_wR, rR_wR, if_pos a43, if_pos a44, if_pos a45, if_pos a46, hix, hM1, nI_succ]
  · unfold fX12_pass
    rw [q5]
    simp [fX12_isHolder, in_m1_e, in_0_e, in_0_1, in_0_2, in_0_23, in_0_3, in_0_4, in_0_40, in_0_5, in_0_50, in_0_599, in_0_6, in_0_7, in_0_9, in_0_99, in_0_999, in_0_9999, in_0_99999, in_0_999999, in_1_100, in_1_200, in_1_6, in_1_9, in_1_999, in_10_17, in_10_200, in_48_57, in_6_17, in_e_99, in_e_9999, in_within, c1, c2, c3, c4, tg_51 hZ, tg_52 hZ, tg_53 hZ, tg_54 hZ, tg_55 hZ, tg_56 hZ, tg_57 hZ, tg_58 hZ, tg_59 hZ, tg_60 hZ, tg_61 hZ, tg_62 hZ, tg_63 hZ, tg_64 hZ, tg_65 hZ, tg_66 hZ, tg_67 hZ, tg_68 hZ, tg_69 hZ, tg_70 hZ, tg_71 hZ, tg_72 hZ, tg_73 hZ, tg_74 hZ, tg_75 hZ, tg_76 hZ, tg_77 hZ, tg_78 hZ, tg_79 hZ, tg_80 hZ, tg_81 hZ, tg_82 hZ, tg_83 hZ, tg_84 hZ, tg_85 hZ, tg_86 hZ, tg_87 hZ, tg_88 hZ, tg_89 hZ, tg_90 hZ, tg_91 hZ, tg_92 hZ, tg_93 hZ, tg_94 hZ, tg_95 hZ, tg_96 hZ, tg_97 hZ, tg_98 hZ, tg_99 hZ, tg_100 hZ, tg_101 hZ, tg_102 hZ, tg_103 hZ, tg_104 hZ, tg_105 hZ, tg_106 hZ, tg_107 hZ, tg_108 hZ, tg_109 hZ, fr_51_0 hF1, fr_51_1 hF1, fr_51_2 hF1, fr_51_4 hF1, fr_51_5 hF1, fr_51_6 hF1, fr_51_7 hF1, fr_51_8 hF1, fr_51_9 hF1, fr_51_10 hF1, fr_51_16 hF1, fr_51_17 hF1, fr_51_18 hF1, fr_51_19 hF1, fr_51_20 hF1, fr_51_22 hF1, fr_51_23 hF1, fr_51_24 hF1, fr_51_25 hF1, fr_51_26 hF1, fr_51_27 hF1, fr_51_28 hF1, fr_51_29 hF1, fr_51_30 hF1, fr_51_31 hF1, fr_51_32 hF1, fr_51_33 hF1, fr_51_36 hF1, fr_51_37 hF1, fr_51_38 hF1, fr_51_39 hF1, fr_51_40 hF1, fr_51_41 hF1, fr_51_42 hF1, fr_51_51 hF1, fr_51_52 hF1, fr_51_54 hF1, fr_51_56 hF1, fr_51_58 hF1, fr_51_59 hF1, fr_51_60 hF1, fr_51_62 hF1, fr_51_63 hF1, fr_51_67 hF1, fr_51_68 hF1, fr_51_69 hF1, fr_51_70 hF1, fr_51_71 hF1, fr_51_72 hF1, fr_51_73 hF1, fr_51_74 hF1, fr_51_76 hF1, fr_51_77 hF1, fr_51_78 hF1, fr_51_79 hF1, fr_51_82 hF1, fr_51_83 hF1, fr_51_84 hF1, c5, q6, hd_congr hk1, c6, h21, hne, pu, rI_wI, rJ_wI, rR_wI, rI_wJ, rJ_wJ, rR_wJ, rI_wR, rJ_wR, rR_wR, if_pos a103, if_pos a104, if_pos a105, if_pos a106, hix, nI_succ]
  · simp [hM1, rI_wI, nI_succ]
  · simp [rI_wI, nI_succ]
  · intro k
    simp [hM1, rI_wI, e2]
  · intro k
    simp [hM1, rI_wI, e3]
  · intro k
    simp [hM1, rI_wI, e4]
  · intro k
    simp [hM1, rI_wI, e5]
  · intro k
    simp [hM1, rI_wI, e6]
  · intro k
    simpa [rI_wI, hk1] using hb k
  · intro k hk
    have r3 := w_rng c4
    have r4 := w_rng c5
    have m1 : (1 : Int32).toInt = 1 := by decide
    have m2 : (999 : Int32).toInt = 999 := by decide
    have m3 : (99 : Int32).toInt = 99 := by decide
    by_cases hkn : k = n
    · subst hkn
      have hl0 : 0 ≤ (ltd M k).toInt := by
        unfold ltd
        by_cases c : k = 0
        · simp [c]
        · simp only [c, if_false]
          exact (hv (k - 1) (by omega)).2.2.1
      refine ⟨⟨p, q, by omega, by omega, hpq, by simp [rI_wI], by simp [rI_wI]⟩, ?_, ?_⟩
      · simp [rI_wI]
        omega
      · simp [rI_wI]
        omega
    · simpa [rI_wI, hkn, hk1] using hv k (by omega)
  · intro j k hjk hk
    have r4 := w_rng c5
    by_cases hkn : k = n
    · subst hkn
      by_cases hjn : j = k
      · subst hjn
        omega
      · simp [rI_wI, hjn, hk1]
        have h0 : k ≠ 0 := by omega
        have h3 := hm j (k - 1) (by omega) (by omega)
        have h4 : ltd M k = rI M 106 (k - 1) := by simp [ltd, h0]
        rw [h4] at r4
        omega
    · simp [rI_wI, hkn, show j ≠ n by omega, hk1]
      exact hm j k hjk (by omega)
  · exact ((((w1.sI (by simp [inF])).sI (by simp [inF])).sI (by simp [inF])).sI (by simp [inF])).sI (by simp [inF])
