/-! an hour: takers -/
theorem sub_n (a b : Int32) : a - b = a + -b := Int32.sub_eq_add_neg a b
theorem mn_le (x y : Int32) : mnI x y = fX12_least x y := by
  unfold mnI fX12_least
  by_cases c : y < x
  · rw [if_pos c, if_pos]
    rw [i32_lt] at c
    rw [i32_le]
    omega
  · rw [if_neg c]
    by_cases d : y ≤ x
    · rw [if_pos d]
      rw [i32_lt] at c
      rw [i32_le] at d
      rw [i32_eq]
      omega
    · rw [if_neg d]
def tk2 (Z : Shp) (C D : Mem) (k : Nat) : Prop := (110 ≤ rR C 6 k ∧ tg Z (rR C 6 k) = (8, 5)) ∧ rI C (rR C 6 k) 0 = rI D 62 k ∧ rI C (rR C 6 k) 1 = rI D 63 k ∧ rI C (rR C 6 k) 2 = rI D 64 k ∧ rI C (rR C 6 k) 3 = rI D 65 k ∧ rI C (rR C 6 k) 4 = rI D 66 k ∧ (∃ s, s ≤ 4 ∧ rI D 62 k = nI s) ∧ (∃ p, p ≤ 7 ∧ rI D 63 k = nI p) ∧ (1 ≤ (rI D 64 k).toInt ∧ (rI D 64 k).toInt ≤ 200) ∧ 0 ≤ (rI D 65 k).toInt ∧ (rI D 65 k).toInt ≤ 9
theorem takes2 {Z : Shp} {C D : Mem} (hZ : OKZ Z) (hFC : Fix C) (hFD : Fix D) (hP : R1 C D) {k : Nat} (hk : k < 12) (hT : tk2 Z C D k) (y : Int32) : ∃ r, fX3_wantedBy Z C 3 (rR C 6 k) y = some r ∧ fX12_takes Z D 51 (nI k) y = some r ∧ -400 ≤ r.toInt ∧ r.toInt ≤ 200 := by
  obtain ⟨⟨q1, q2⟩, e0, e1, e2, e3, e4, ⟨s, hs, es⟩, ⟨p, hp, ep⟩, ba, br⟩ := hT
  have hix : ix (nI k) = k := ix_nI (by omega)
  have hixp : ix (nI p) = p := ix_nI (by omega)
  have a62 : aok Z 62 100 (nI k) := aok_nI (tg_62 hZ) (by omega) (by decide)
  have a63 : aok Z 63 100 (nI k) := aok_nI (tg_63 hZ) (by omega) (by decide)
  have a64 : aok Z 64 100 (nI k) := aok_nI (tg_64 hZ) (by omega) (by decide)
  have a4 : aok Z 4 110 (nI p) := aok_nI (tg_4 hZ) (by omega) (by decide)
  have a52 : aok Z 52 100 (nI p) := aok_nI (tg_52 hZ) (by omega) (by decide)
  have a53 : aok Z 53 100 (nI p) := aok_nI (tg_53 hZ) (by omega) (by decide)
  obtain ⟨f0, f1, f2, g0, g1, g2⟩ := hP p (by omega)
  have hg := tg_p hZ (show p < 8 by omega)
  have hq := fr_p hFC (show p < 8 by omega)
  have m0 : (0 : Int32).toInt = 0 := by decide
  have hne : ¬ rI D 53 p = 0 := fun h => by
    rw [h, m0] at g1
    omega
  have hcs : s = 0 ∨ s = 1 ∨ s = 2 ∨ s = 3 ∨ s = 4 := by omega
  rcases hcs with rfl | rfl | rfl | rfl | rfl
  · refine ⟨rI D 64 k, ?_, ?_, by omega, by omega⟩
    · simp [fX3_wantedBy, fX7_takes, tg_2 hZ, tg_3 hZ, tg_4 hZ, tg_5 hZ, tg_6 hZ, tg_7 hZ, tg_8 hZ, tg_24 hZ, tg_25 hZ, tg_26 hZ, tg_27 hZ, tg_28 hZ, tg_29 hZ, tg_30 hZ, tg_31 hZ, tg_32 hZ, tg_33 hZ, tg_34 hZ, tg_35 hZ, tg_36 hZ, tg_37 hZ, tg_38 hZ, tg_39 hZ, tg_40 hZ, tg_41 hZ, tg_42 hZ, tg_43 hZ, tg_44 hZ, tg_45 hZ, tg_46 hZ, tg_47 hZ, tg_48 hZ, tg_49 hZ, tg_50 hZ, fr_2_0 hFC, fr_3_0 hFC, fr_3_1 hFC, fr_3_2 hFC, fr_3_3 hFC, fr_3_4 hFC, fr_2_1 hFC, fr_24_0 hFC, fr_24_2 hFC, fr_2_2 hFC, fr_27_0 hFC, fr_27_1 hFC, fr_27_2 hFC, fr_27_8 hFC, fr_2_3 hFC, fr_32_0 hFC, fr_32_1 hFC, fr_32_3 hFC, fr_32_4 hFC, fr_32_5 hFC, fr_32_6 hFC, fr_2_4 hFC, fr_39_0 hFC, fr_39_1 hFC, fr_39_2 hFC, fr_39_3 hFC, fr_39_4 hFC, fr_39_5 hFC, fr_39_6 hFC, fr_2_5 hFC, fr_47_0 hFC, fr_47_1 hFC, fr_47_2 hFC, q2, e0, e1, e2, es, ep, if_pos a4, hixp, hq, show nI 0 = 0 by decide]
    · simp [fX12_takes, tg_51 hZ, tg_52 hZ, tg_53 hZ, tg_54 hZ, tg_55 hZ, tg_56 hZ, tg_57 hZ, tg_58 hZ, tg_59 hZ, tg_60 hZ, tg_61 hZ, tg_62 hZ, tg_63 hZ, tg_64 hZ, tg_65 hZ, tg_66 hZ, tg_67 hZ, tg_68 hZ, tg_69 hZ, tg_70 hZ, tg_71 hZ, tg_72 hZ, tg_73 hZ, tg_74 hZ, tg_75 hZ, tg_76 hZ, tg_77 hZ, tg_78 hZ, tg_79 hZ, tg_80 hZ, tg_81 hZ, tg_82 hZ, tg_83 hZ, tg_84 hZ, tg_85 hZ, tg_86 hZ, tg_87 hZ, tg_88 hZ, tg_89 hZ, tg_90 hZ, tg_91 hZ, tg_92 hZ, tg_93 hZ, tg_94 hZ, tg_95 hZ, tg_96 hZ, tg_97 hZ, tg_98 hZ, tg_99 hZ, tg_100 hZ, tg_101 hZ, tg_102 hZ, tg_103 hZ, tg_104 hZ, tg_105 hZ, tg_106 hZ, tg_107 hZ, tg_108 hZ, tg_109 hZ, fr_51_0 hFD, fr_51_1 hFD, fr_51_2 hFD, fr_51_4 hFD, fr_51_5 hFD, fr_51_6 hFD, fr_51_7 hFD, fr_51_8 hFD, fr_51_9 hFD, fr_51_10 hFD, fr_51_16 hFD, fr_51_17 hFD, fr_51_18 hFD, fr_51_19 hFD, fr_51_20 hFD, fr_51_22 hFD, fr_51_23 hFD, fr_51_24 hFD, fr_51_25 hFD, fr_51_26 hFD, fr_51_27 hFD, fr_51_28 hFD, fr_51_29 hFD, fr_51_30 hFD, fr_51_31 hFD, fr_51_32 hFD, fr_51_33 hFD, fr_51_36 hFD, fr_51_37 hFD, fr_51_38 hFD, fr_51_39 hFD, fr_51_40 hFD, fr_51_41 hFD, fr_51_42 hFD, fr_51_51 hFD, fr_51_52 hFD, fr_51_54 hFD, fr_51_56 hFD, fr_51_58 hFD, fr_51_59 hFD, fr_51_60 hFD, fr_51_62 hFD, fr_51_63 hFD, fr_51_67 hFD, fr_51_68 hFD, fr_51_69 hFD, fr_51_70 hFD, fr_51_71 hFD, fr_51_72 hFD, fr_51_73 hFD, fr_51_74 hFD, fr_51_76 hFD, fr_51_77 hFD, fr_51_78 hFD, fr_51_79 hFD, fr_51_82 hFD, fr_51_83 hFD, fr_51_84 hFD, if_pos a62, if_pos a63, if_pos a64, hix, es, show nI 0 = 0 by decide, pu]
  · by_cases c : fX11_within (y - y / 24 * 24) 6 17 = 0
    · refine ⟨0, ?_, ?_, by decide, by decide⟩
      · simp [fX3_wantedBy, fX7_takes, tg_2 hZ, tg_3 hZ, tg_4 hZ, tg_5 hZ, tg_6 hZ, tg_7 hZ, tg_8 hZ, tg_24 hZ, tg_25 hZ, tg_26 hZ, tg_27 hZ, tg_28 hZ, tg_29 hZ, tg_30 hZ, tg_31 hZ, tg_32 hZ, tg_33 hZ, tg_34 hZ, tg_35 hZ, tg_36 hZ, tg_37 hZ, tg_38 hZ, tg_39 hZ, tg_40 hZ, tg_41 hZ, tg_42 hZ, tg_43 hZ, tg_44 hZ, tg_45 hZ, tg_46 hZ, tg_47 hZ, tg_48 hZ, tg_49 hZ, tg_50 hZ, fr_2_0 hFC, fr_3_0 hFC, fr_3_1 hFC, fr_3_2 hFC, fr_3_3 hFC, fr_3_4 hFC, fr_2_1 hFC, fr_24_0 hFC, fr_24_2 hFC, fr_2_2 hFC, fr_27_0 hFC, fr_27_1 hFC, fr_27_2 hFC, fr_27_8 hFC, fr_2_3 hFC, fr_32_0 hFC, fr_32_1 hFC, fr_32_3 hFC, fr_32_4 hFC, fr_32_5 hFC, fr_32_6 hFC, fr_2_4 hFC, fr_39_0 hFC, fr_39_1 hFC, fr_39_2 hFC, fr_39_3 hFC, fr_39_4 hFC, fr_39_5 hFC, fr_39_6 hFC, fr_2_5 hFC, fr_47_0 hFC, fr_47_1 hFC, fr_47_2 hFC, q2, e0, e1, e2, es, ep, if_pos a4, hixp, hq, show nI 1 = 1 by decide, c]
      · simp only [fX12_takes, in_m1_e, in_0_e, in_0_1, in_0_2, in_0_23, in_0_3, in_0_4, in_0_40, in_0_5, in_0_50, in_0_599, in_0_6, in_0_7, in_0_9, in_0_99, in_0_999, in_0_9999, in_0_99999, in_0_999999, in_1_100, in_1_200, in_1_6, in_1_9, in_1_999, in_10_17, in_10_200, in_48_57, in_6_17, in_e_99, in_e_9999, in_within, tg_51 hZ, tg_52 hZ, tg_53 hZ, tg_54 hZ, tg_55 hZ, tg_56 hZ, tg_57 hZ, tg_58 hZ, tg_59 hZ, tg_60 hZ, tg_61 hZ, tg_62 hZ, tg_63 hZ, tg_64 hZ, tg_65 hZ, tg_66 hZ, tg_67 hZ, tg_68 hZ, tg_69 hZ, tg_70 hZ, tg_71 hZ, tg_72 hZ, tg_73 hZ, tg_74 hZ, tg_75 hZ, tg_76 hZ, tg_77 hZ, tg_78 hZ, tg_79 hZ, tg_80 hZ, tg_81 hZ, tg_82 hZ, tg_83 hZ, tg_84 hZ, tg_85 hZ, tg_86 hZ, tg_87 hZ, tg_88 hZ, tg_89 hZ, tg_90 hZ, tg_91 hZ, tg_92 hZ, tg_93 hZ, tg_94 hZ, tg_95 hZ, tg_96 hZ, tg_97 hZ, tg_98 hZ, tg_99 hZ, tg_100 hZ, tg_101 hZ, tg_102 hZ, tg_103 hZ, tg_104 hZ, tg_105 hZ, tg_106 hZ, tg_107 hZ, tg_108 hZ, tg_109 hZ, fr_51_0 hFD, fr_51_1 hFD, fr_51_2 hFD, fr_51_4 hFD, fr_51_5 hFD, fr_51_6 hFD, fr_51_7 hFD, fr_51_8 hFD, fr_51_9 hFD, fr_51_10 hFD, fr_51_16 hFD, fr_51_17 hFD, fr_51_18 hFD, fr_51_19 hFD, fr_51_20 hFD, fr_51_22 hFD, fr_51_23 hFD, fr_51_24 hFD, fr_51_25 hFD, fr_51_26 hFD, fr_51_27 hFD, fr_51_28 hFD, fr_51_29 hFD, fr_51_30 hFD, fr_51_31 hFD, fr_51_32 hFD, fr_51_33 hFD, fr_51_36 hFD, fr_51_37 hFD, fr_51_38 hFD, fr_51_39 hFD, fr_51_40 hFD, fr_51_41 hFD, fr_51_42 hFD, fr_51_51 hFD, fr_51_52 hFD, fr_51_54 hFD, fr_51_56 hFD, fr_51_58 hFD, fr_51_59 hFD, fr_51_60 hFD, fr_51_62 hFD, fr_51_63 hFD, fr_51_67 hFD, fr_51_68 hFD, fr_51_69 hFD, fr_51_70 hFD, fr_51_71 hFD, fr_51_72 hFD, fr_51_73 hFD, fr_51_74 hFD, fr_51_76 hFD, fr_51_77 hFD, fr_51_78 hFD, fr_51_79 hFD, fr_51_82 hFD, fr_51_83 hFD, fr_51_84 hFD, if_pos a62, if_pos a63, if_pos a64, hix, es, show nI 1 = 1 by decide, pu, c]
        simp
    · refine ⟨rI D 64 k, ?_, ?_, by omega, by omega⟩
      · simp [fX3_wantedBy, fX7_takes, tg_2 hZ, tg_3 hZ, tg_4 hZ, tg_5 hZ, tg_6 hZ, tg_7 hZ, tg_8 hZ, tg_24 hZ, tg_25 hZ, tg_26 hZ, tg_27 hZ, tg_28 hZ, tg_29 hZ, tg_30 hZ, tg_31 hZ, tg_32 hZ, tg_33 hZ, tg_34 hZ, tg_35 hZ, tg_36 hZ, tg_37 hZ, tg_38 hZ, tg_39 hZ, tg_40 hZ, tg_41 hZ, tg_42 hZ, tg_43 hZ, tg_44 hZ, tg_45 hZ, tg_46 hZ, tg_47 hZ, tg_48 hZ, tg_49 hZ, tg_50 hZ, fr_2_0 hFC, fr_3_0 hFC, fr_3_1 hFC, fr_3_2 hFC, fr_3_3 hFC, fr_3_4 hFC, fr_2_1 hFC, fr_24_0 hFC, fr_24_2 hFC, fr_2_2 hFC, fr_27_0 hFC, fr_27_1 hFC, fr_27_2 hFC, fr_27_8 hFC, fr_2_3 hFC, fr_32_0 hFC, fr_32_1 hFC, fr_32_3 hFC, fr_32_4 hFC, fr_32_5 hFC, fr_32_6 hFC, fr_2_4 hFC, fr_39_0 hFC, fr_39_1 hFC, fr_39_2 hFC, fr_39_3 hFC, fr_39_4 hFC, fr_39_5 hFC, fr_39_6 hFC, fr_2_5 hFC, fr_47_0 hFC, fr_47_1 hFC, fr_47_2 hFC, q2, e0, e1, e2, es, ep, if_pos a4, hixp, hq, show nI 1 = 1 by decide, c]
      · simp only [fX12_takes, in_m1_e, in_0_e, in_0_1, in_0_2, in_0_23, in_0_3, in_0_4, in_0_40, in_0_5, in_0_50, in_0_599, in_0_6, in_0_7, in_0_9, in_0_99, in_0_999, in_0_9999, in_0_99999, in_0_999999, in_1_100, in_1_200, in_1_6, in_1_9, in_1_999, in_10_17, in_10_200, in_48_57, in_6_17, in_e_99, in_e_9999, in_within, tg_51 hZ, tg_52 hZ, tg_53 hZ, tg_54 hZ, tg_55 hZ, tg_56 hZ, tg_57 hZ, tg_58 hZ, tg_59 hZ, tg_60 hZ, tg_61 hZ, tg_62 hZ, tg_63 hZ, tg_64 hZ, tg_65 hZ, tg_66 hZ, tg_67 hZ, tg_68 hZ, tg_69 hZ, tg_70 hZ, tg_71 hZ, tg_72 hZ, tg_73 hZ, tg_74 hZ, tg_75 hZ, tg_76 hZ, tg_77 hZ, tg_78 hZ, tg_79 hZ, tg_80 hZ, tg_81 hZ, tg_82 hZ, tg_83 hZ, tg_84 hZ, tg_85 hZ, tg_86 hZ, tg_87 hZ, tg_88 hZ, tg_89 hZ, tg_90 hZ, tg_91 hZ, tg_92 hZ, tg_93 hZ, tg_94 hZ, tg_95 hZ, tg_96 hZ, tg_97 hZ, tg_98 hZ, tg_99 hZ, tg_100 hZ, tg_101 hZ, tg_102 hZ, tg_103 hZ, tg_104 hZ, tg_105 hZ, tg_106 hZ, tg_107 hZ, tg_108 hZ, tg_109 hZ, fr_51_0 hFD, fr_51_1 hFD, fr_51_2 hFD, fr_51_4 hFD, fr_51_5 hFD, fr_51_6 hFD, fr_51_7 hFD, fr_51_8 hFD, fr_51_9 hFD, fr_51_10 hFD, fr_51_16 hFD, fr_51_17 hFD, fr_51_18 hFD, fr_51_19 hFD, fr_51_20 hFD, fr_51_22 hFD, fr_51_23 hFD, fr_51_24 hFD, fr_51_25 hFD, fr_51_26 hFD, fr_51_27 hFD, fr_51_28 hFD, fr_51_29 hFD, fr_51_30 hFD, fr_51_31 hFD, fr_51_32 hFD, fr_51_33 hFD, fr_51_36 hFD, fr_51_37 hFD, fr_51_38 hFD, fr_51_39 hFD, fr_51_40 hFD, fr_51_41 hFD, fr_51_42 hFD, fr_51_51 hFD, fr_51_52 hFD, fr_51_54 hFD, fr_51_56 hFD, fr_51_58 hFD, fr_51_59 hFD, fr_51_60 hFD, fr_51_62 hFD, fr_51_63 hFD, fr_51_67 hFD, fr_51_68 hFD, fr_51_69 hFD, fr_51_70 hFD, fr_51_71 hFD, fr_51_72 hFD, fr_51_73 hFD, fr_51_74 hFD, fr_51_76 hFD, fr_51_77 hFD, fr_51_78 hFD, fr_51_79 hFD, fr_51_82 hFD, fr_51_83 hFD, fr_51_84 hFD, if_pos a62, if_pos a63, if_pos a64, hix, es, show nI 1 = 1 by decide, pu, c]
        simp
  · have hm := mulI (a := rI D 64 k) (b := rI D 52 p) (by omega) (by omega) (by omega) (by omega)
    have hmb := mulB (A := 200) (B := (rI D 53 p).toInt) (show 0 ≤ (rI D 64 k).toInt by omega) ba.2 g0.1 g0.2
    have hd := divI (a := rI D 64 k * rI D 52 p) (b := rI D 53 p) (by omega) (by omega)
    refine ⟨rI D 64 k * rI D 52 p / rI D 53 p, ?_, ?_, ?_, ?_⟩
    · simp [fX3_wantedBy, fX7_takes, tg_2 hZ, tg_3 hZ, tg_4 hZ, tg_5 hZ, tg_6 hZ, tg_7 hZ, tg_8 hZ, tg_24 hZ, tg_25 hZ, tg_26 hZ, tg_27 hZ, tg_28 hZ, tg_29 hZ, tg_30 hZ, tg_31 hZ, tg_32 hZ, tg_33 hZ, tg_34 hZ, tg_35 hZ, tg_36 hZ, tg_37 hZ, tg_38 hZ, tg_39 hZ, tg_40 hZ, tg_41 hZ, tg_42 hZ, tg_43 hZ, tg_44 hZ, tg_45 hZ, tg_46 hZ, tg_47 hZ, tg_48 hZ, tg_49 hZ, tg_50 hZ, fr_2_0 hFC, fr_3_0 hFC, fr_3_1 hFC, fr_3_2 hFC, fr_3_3 hFC, fr_3_4 hFC, fr_2_1 hFC, fr_24_0 hFC, fr_24_2 hFC, fr_2_2 hFC, fr_27_0 hFC, fr_27_1 hFC, fr_27_2 hFC, fr_27_8 hFC, fr_2_3 hFC, fr_32_0 hFC, fr_32_1 hFC, fr_32_3 hFC, fr_32_4 hFC, fr_32_5 hFC, fr_32_6 hFC, fr_2_4 hFC, fr_39_0 hFC, fr_39_1 hFC, fr_39_2 hFC, fr_39_3 hFC, fr_39_4 hFC, fr_39_5 hFC, fr_39_6 hFC, fr_2_5 hFC, fr_47_0 hFC, fr_47_1 hFC, fr_47_2 hFC, q2, e0, e1, e2, es, ep, if_pos a4, hixp, hq, show nI 2 = 2 by decide, hg, f0, f1, hne]
    · simp [fX12_takes, tg_51 hZ, tg_52 hZ, tg_53 hZ, tg_54 hZ, tg_55 hZ, tg_56 hZ, tg_57 hZ, tg_58 hZ, tg_59 hZ, tg_60 hZ, tg_61 hZ, tg_62 hZ, tg_63 hZ, tg_64 hZ, tg_65 hZ, tg_66 hZ, tg_67 hZ, tg_68 hZ, tg_69 hZ, tg_70 hZ, tg_71 hZ, tg_72 hZ, tg_73 hZ, tg_74 hZ, tg_75 hZ, tg_76 hZ, tg_77 hZ, tg_78 hZ, tg_79 hZ, tg_80 hZ, tg_81 hZ, tg_82 hZ, tg_83 hZ, tg_84 hZ, tg_85 hZ, tg_86 hZ, tg_87 hZ, tg_88 hZ, tg_89 hZ, tg_90 hZ, tg_91 hZ, tg_92 hZ, tg_93 hZ, tg_94 hZ, tg_95 hZ, tg_96 hZ, tg_97 hZ, tg_98 hZ, tg_99 hZ, tg_100 hZ, tg_101 hZ, tg_102 hZ, tg_103 hZ, tg_104 hZ, tg_105 hZ, tg_106 hZ, tg_107 hZ, tg_108 hZ, tg_109 hZ, fr_51_0 hFD, fr_51_1 hFD, fr_51_2 hFD, fr_51_4 hFD, fr_51_5 hFD, fr_51_6 hFD, fr_51_7 hFD, fr_51_8 hFD, fr_51_9 hFD, fr_51_10 hFD, fr_51_16 hFD, fr_51_17 hFD, fr_51_18 hFD, fr_51_19 hFD, fr_51_20 hFD, fr_51_22 hFD, fr_51_23 hFD, fr_51_24 hFD, fr_51_25 hFD, fr_51_26 hFD, fr_51_27 hFD, fr_51_28 hFD, fr_51_29 hFD, fr_51_30 hFD, fr_51_31 hFD, fr_51_32 hFD, fr_51_33 hFD, fr_51_36 hFD, fr_51_37 hFD, fr_51_38 hFD, fr_51_39 hFD, fr_51_40 hFD, fr_51_41 hFD, fr_51_42 hFD, fr_51_51 hFD, fr_51_52 hFD, fr_51_54 hFD, fr_51_56 hFD, fr_51_58 hFD, fr_51_59 hFD, fr_51_60 hFD, fr_51_62 hFD, fr_51_63 hFD, fr_51_67 hFD, fr_51_68 hFD, fr_51_69 hFD, fr_51_70 hFD, fr_51_71 hFD, fr_51_72 hFD, fr_51_73 hFD, fr_51_74 hFD, fr_51_76 hFD, fr_51_77 hFD, fr_51_78 hFD, fr_51_79 hFD, fr_51_82 hFD, fr_51_83 hFD, fr_51_84 hFD, if_pos a62, if_pos a63, if_pos a64, hix, es, ep, show nI 2 = 2 by decide, pu, if_pos a52, if_pos a53, hixp, hne]
    · rw [hd, hm]
      have := Int.ediv_nonneg hmb.1 (show 0 ≤ (rI D 53 p).toInt by omega)
      omega
    · rw [hd, hm]
      refine Int.ediv_le_of_le_mul (by omega) ?_
      exact hmb.2
  · have hn := negI (b := rI D 64 k) (by omega)
    refine ⟨-rI D 64 k, ?_, ?_, by omega, by omega⟩
    · simp [fX3_wantedBy, fX7_takes, tg_2 hZ, tg_3 hZ, tg_4 hZ, tg_5 hZ, tg_6 hZ, tg_7 hZ, tg_8 hZ, tg_24 hZ, tg_25 hZ, tg_26 hZ, tg_27 hZ, tg_28 hZ, tg_29 hZ, tg_30 hZ, tg_31 hZ, tg_32 hZ, tg_33 hZ, tg_34 hZ, tg_35 hZ, tg_36 hZ, tg_37 hZ, tg_38 hZ, tg_39 hZ, tg_40 hZ, tg_41 hZ, tg_42 hZ, tg_43 hZ, tg_44 hZ, tg_45 hZ, tg_46 hZ, tg_47 hZ, tg_48 hZ, tg_49 hZ, tg_50 hZ, fr_2_0 hFC, fr_3_0 hFC, fr_3_1 hFC, fr_3_2 hFC, fr_3_3 hFC, fr_3_4 hFC, fr_2_1 hFC, fr_24_0 hFC, fr_24_2 hFC, fr_2_2 hFC, fr_27_0 hFC, fr_27_1 hFC, fr_27_2 hFC, fr_27_8 hFC, fr_2_3 hFC, fr_32_0 hFC, fr_32_1 hFC, fr_32_3 hFC, fr_32_4 hFC, fr_32_5 hFC, fr_32_6 hFC, fr_2_4 hFC, fr_39_0 hFC, fr_39_1 hFC, fr_39_2 hFC, fr_39_3 hFC, fr_39_4 hFC, fr_39_5 hFC, fr_39_6 hFC, fr_2_5 hFC, fr_47_0 hFC, fr_47_1 hFC, fr_47_2 hFC, q2, e0, e1, e2, es, ep, if_pos a4, hixp, hq, show nI 3 = 3 by decide]
    · simp [fX12_takes, tg_51 hZ, tg_52 hZ, tg_53 hZ, tg_54 hZ, tg_55 hZ, tg_56 hZ, tg_57 hZ, tg_58 hZ, tg_59 hZ, tg_60 hZ, tg_61 hZ, tg_62 hZ, tg_63 hZ, tg_64 hZ, tg_65 hZ, tg_66 hZ, tg_67 hZ, tg_68 hZ, tg_69 hZ, tg_70 hZ, tg_71 hZ, tg_72 hZ, tg_73 hZ, tg_74 hZ, tg_75 hZ, tg_76 hZ, tg_77 hZ, tg_78 hZ, tg_79 hZ, tg_80 hZ, tg_81 hZ, tg_82 hZ, tg_83 hZ, tg_84 hZ, tg_85 hZ, tg_86 hZ, tg_87 hZ, tg_88 hZ, tg_89 hZ, tg_90 hZ, tg_91 hZ, tg_92 hZ, tg_93 hZ, tg_94 hZ, tg_95 hZ, tg_96 hZ, tg_97 hZ, tg_98 hZ, tg_99 hZ, tg_100 hZ, tg_101 hZ, tg_102 hZ, tg_103 hZ, tg_104 hZ, tg_105 hZ, tg_106 hZ, tg_107 hZ, tg_108 hZ, tg_109 hZ, fr_51_0 hFD, fr_51_1 hFD, fr_51_2 hFD, fr_51_4 hFD, fr_51_5 hFD, fr_51_6 hFD, fr_51_7 hFD, fr_51_8 hFD, fr_51_9 hFD, fr_51_10 hFD, fr_51_16 hFD, fr_51_17 hFD, fr_51_18 hFD, fr_51_19 hFD, fr_51_20 hFD, fr_51_22 hFD, fr_51_23 hFD, fr_51_24 hFD, fr_51_25 hFD, fr_51_26 hFD, fr_51_27 hFD, fr_51_28 hFD, fr_51_29 hFD, fr_51_30 hFD, fr_51_31 hFD, fr_51_32 hFD, fr_51_33 hFD, fr_51_36 hFD, fr_51_37 hFD, fr_51_38 hFD, fr_51_39 hFD, fr_51_40 hFD, fr_51_41 hFD, fr_51_42 hFD, fr_51_51 hFD, fr_51_52 hFD, fr_51_54 hFD, fr_51_56 hFD, fr_51_58 hFD, fr_51_59 hFD, fr_51_60 hFD, fr_51_62 hFD, fr_51_63 hFD, fr_51_67 hFD, fr_51_68 hFD, fr_51_69 hFD, fr_51_70 hFD, fr_51_71 hFD, fr_51_72 hFD, fr_51_73 hFD, fr_51_74 hFD, fr_51_76 hFD, fr_51_77 hFD, fr_51_78 hFD, fr_51_79 hFD, fr_51_82 hFD, fr_51_83 hFD, fr_51_84 hFD, if_pos a62, if_pos a63, if_pos a64, hix, es, show nI 3 = 3 by decide, pu]
  · have hr : -400 ≤ ((-2 : Int32) * rI D 64 k).toInt ∧ ((-2 : Int32) * rI D 64 k).toInt ≤ 200 := by
      have m2 : (-2 : Int32).toInt = -2 := by decide
      rw [Int32.toInt_mul, m2, Int.bmod_def]
      omega
    refine ⟨-2 * rI D 64 k, ?_, ?_, hr.1, hr.2⟩
    · simp [fX3_wantedBy, fX7_takes, tg_2 hZ, tg_3 hZ, tg_4 hZ, tg_5 hZ, tg_6 hZ, tg_7 hZ, tg_8 hZ, tg_24 hZ, tg_25 hZ, tg_26 hZ, tg_27 hZ, tg_28 hZ, tg_29 hZ, tg_30 hZ, tg_31 hZ, tg_32 hZ, tg_33 hZ, tg_34 hZ, tg_35 hZ, tg_36 hZ, tg_37 hZ, tg_38 hZ, tg_39 hZ, tg_40 hZ, tg_41 hZ, tg_42 hZ, tg_43 hZ, tg_44 hZ, tg_45 hZ, tg_46 hZ, tg_47 hZ, tg_48 hZ, tg_49 hZ, tg_50 hZ, fr_2_0 hFC, fr_3_0 hFC, fr_3_1 hFC, fr_3_2 hFC, fr_3_3 hFC, fr_3_4 hFC, fr_2_1 hFC, fr_24_0 hFC, fr_24_2 hFC, fr_2_2 hFC, fr_27_0 hFC, fr_27_1 hFC, fr_27_2 hFC, fr_27_8 hFC, fr_2_3 hFC, fr_32_0 hFC, fr_32_1 hFC, fr_32_3 hFC, fr_32_4 hFC, fr_32_5 hFC, fr_32_6 hFC, fr_2_4 hFC, fr_39_0 hFC, fr_39_1 hFC, fr_39_2 hFC, fr_39_3 hFC, fr_39_4 hFC, fr_39_5 hFC, fr_39_6 hFC, fr_2_5 hFC, fr_47_0 hFC, fr_47_1 hFC, fr_47_2 hFC, q2, e0, e1, e2, es, ep, if_pos a4, hixp, hq, show nI 4 = 4 by decide]
    · simp [fX12_takes, tg_51 hZ, tg_52 hZ, tg_53 hZ, tg_54 hZ, tg_55 hZ, tg_56 hZ, tg_57 hZ, tg_58 hZ, tg_59 hZ, tg_60 hZ, tg_61 hZ, tg_62 hZ, tg_63 hZ, tg_64 hZ, tg_65 hZ, tg_66 hZ, tg_67 hZ, tg_68 hZ, tg_69 hZ, tg_70 hZ, tg_71 hZ, tg_72 hZ, tg_73 hZ, tg_74 hZ, tg_75 hZ, tg_76 hZ, tg_77 hZ, tg_78 hZ, tg_79 hZ, tg_80 hZ, tg_81 hZ, tg_82 hZ, tg_83 hZ, tg_84 hZ, tg_85 hZ, tg_86 hZ, tg_87 hZ, tg_88 hZ, tg_89 hZ, tg_90 hZ, tg_91 hZ, tg_92 hZ, tg_93 hZ, tg_94 hZ, tg_95 hZ, tg_96 hZ, tg_97 hZ, tg_98 hZ, tg_99 hZ, tg_100 hZ, tg_101 hZ, tg_102 hZ, tg_103 hZ, tg_104 hZ, tg_105 hZ, tg_106 hZ, tg_107 hZ, tg_108 hZ, tg_109 hZ, fr_51_0 hFD, fr_51_1 hFD, fr_51_2 hFD, fr_51_4 hFD, fr_51_5 hFD, fr_51_6 hFD, fr_51_7 hFD, fr_51_8 hFD, fr_51_9 hFD, fr_51_10 hFD, fr_51_16 hFD, fr_51_17 hFD, fr_51_18 hFD, fr_51_19 hFD, fr_51_20 hFD, fr_51_22 hFD, fr_51_23 hFD, fr_51_24 hFD, fr_51_25 hFD, fr_51_26 hFD, fr_51_27 hFD, fr_51_28 hFD, fr_51_29 hFD, fr_51_30 hFD, fr_51_31 hFD, fr_51_32 hFD, fr_51_33 hFD, fr_51_36 hFD, fr_51_37 hFD, fr_51_38 hFD, fr_51_39 hFD, fr_51_40 hFD, fr_51_41 hFD, fr_51_42 hFD, fr_51_51 hFD, fr_51_52 hFD, fr_51_54 hFD, fr_51_56 hFD, fr_51_58 hFD, fr_51_59 hFD, fr_51_60 hFD, fr_51_62 hFD, fr_51_63 hFD, fr_51_67 hFD, fr_51_68 hFD, fr_51_69 hFD, fr_51_70 hFD, fr_51_71 hFD, fr_51_72 hFD, fr_51_73 hFD, fr_51_74 hFD, fr_51_76 hFD, fr_51_77 hFD, fr_51_78 hFD, fr_51_79 hFD, fr_51_82 hFD, fr_51_83 hFD, fr_51_84 hFD, if_pos a62, if_pos a63, if_pos a64, hix, es, show nI 4 = 4 by decide, pu]
def R4 (Z : Shp) (n : Nat) (C D : Mem) : Prop := rI C 3 5 = nI n ∧ rI D 51 15 = nI n ∧ (∀ k, k < n → tk2 Z C D k) ∧ ∀ j k, j < k → k < n → rR C 6 j ≠ rR C 6 k
abbrev FcT : List (Nat × Option Nat) := [(9, none), (10, none), (11, none), (12, none), (13, none), (14, none), (15, none), (16, none), (3, some 9), (3, some 10)]
abbrev FmT : List (Nat × Option Nat) := [(52, none), (51, some 12), (51, some 14), (51, some 13), (66, none)]
theorem least_bd {r w : Int32} (h1 : -400 ≤ r.toInt) (h2 : r.toInt ≤ 200) (h3 : 0 ≤ w.toInt) : -400 ≤ (fX12_least r w).toInt ∧ (fX12_least r w).toInt ≤ 200 ∧ (fX12_least r w).toInt ≤ w.toInt := by
  unfold fX12_least
  by_cases c : w ≤ r
  · rw [if_pos c]
    rw [i32_le] at c
    omega
  · rw [if_neg c]
    rw [i32_le] at c
    omega
/-- one taker is served -/
theorem serve_sim {Z : Shp} {C D : Mem} (hZ : OKZ Z) (hFC : Fix C) (hFD : Fix D) {n k : Nat} (hn : n ≤ 12) (hk : k < n) (h1 : R1 C D) (h0 : R0 C D) (h4 : R4 Z n C D) {y : Int32} (hy1 : rI C 3 8 = y) (hy2 : rI D 51 11 = y) : ∃ z C1 D1, fX3_serve Z C 3 (rR C 6 k) = some C1 ∧ (Option.bind (fX12_takes Z D 51 (nI k) (rI D 51 11)) (fun v12 => (if aok Z (rR D 51 17) 100 (nI k) then (if aok Z (rR D 51 0) 100 (rI D (rR D 51 17) (ix (nI k))) then (pu ((fX12_least v12 (rI D (rR D 51 0) (ix (rI D (rR D 51 17) (ix (nI k))))))) (fun z16 => (pu (wJ D 51 13 ((rJ D 51 13) + (z16.toInt64))) (fun M17 => (if aok Z (rR M17 51 20) 100 (nI k) then (pu (wI M17 (rR M17 51 20) (ix (nI k)) ((rI M17 (rR M17 51 20) (ix (nI k))) + z16)) (fun M19 => (if aok Z (rR M19 51 17) 100 (nI k) then (Option.bind (fX12_pour Z M19 51 (rI M19 (rR M19 51 17) (ix (nI k))) (-z16)) (fun v21 => some (Sum.inl (β := Int32 × Mem ⊕ Mem) ((nI k + (1 : Int32)), v21)))) else none))) else none))))) else none) else none))) = some (Sum.inl (nI (k + 1), D1)) ∧ R1 C1 D1 ∧ R0 C1 D1 ∧ R4 Z n C1 D1 ∧ Wr Z FcT [8] [] C C1 ∧ Wr Z FmT [] [] D D1 ∧ (-400 ≤ z.toInt ∧ z.toInt ≤ 200) ∧ (∀ j, rI D1 66 j = if j = k then rI D 66 k + z else rI D 66 j) ∧ rJ D1 51 13 = rJ D 51 13 + z.toInt64 := by
  obtain ⟨n1, n2, n3, n4⟩ := h4
  have hT := n3 k hk
  obtain ⟨r, t1, t2, t3, t4⟩ := takes2 hZ hFC hFD h1 (show k < 12 by omega) hT y
  obtain ⟨⟨q1, q2⟩, e0, e1, e2, e3, e4, -, ⟨p, hp, ep⟩, -⟩ := id hT
  have hp8 : p < 8 := by omega
  have hix : ix (nI k) = k := ix_nI (by omega)
  have hixp : ix (nI p) = p := ix_nI (by omega)
  have a63 : aok Z 63 100 (nI k) := aok_nI (tg_63 hZ) (by omega) (by decide)
  have a66 : aok Z 66 100 (nI k) := aok_nI (tg_66 hZ) (by omega) (by decide)
  have a4 : aok Z 4 110 (nI p) := aok_nI (tg_4 hZ) (by omega) (by decide)
  have a52 : aok Z 52 100 (nI p) := aok_nI (tg_52 hZ) (by omega) (by decide)
  obtain ⟨f0, f1, f2, g0, g1, g2⟩ := h1 p hp8
  obtain ⟨z1, z2⟩ := id h0
  obtain ⟨T, eT⟩ : ∃ T, T = rR C 6 k := ⟨_, rfl⟩
  rw [← eT] at t1 q1 q2 e0 e1 e2 e3 e4 ⊢
  obtain ⟨z, ez⟩ : ∃ z, z = fX12_least r (rI D 52 p) := ⟨_, rfl⟩
  have hzb := least_bd (r := r) (w := rI D 52 p) t3 t4 g0.1
  rw [← ez] at hzb
  have hneg := negI (b := z) (by omega)
  have hs := addI (a := rI D 52 p) (b := -z) (by omega) (by omega)
  have hb := pw_bd (w := rI D 52 p) (f := rI D 53 p) (v := -z) (by omega) (by omega)
  have hTp : T ≠ 9 + p := by omega
  have hsp := spill_c (C := wI (wI C (9 + p) 0 (rI D 52 p + -z)) T 4 (rI D 66 k + z)) (w := rI D 52 p) (v := -z) (f := rI D 53 p) hZ hp8 (by simp [rI_wI, hTp.symm]) (by simp [rI_wI, hTp.symm, f1]) (by omega) (by omega)
  obtain ⟨W, eW⟩ : ∃ W, W = pw (rI D 52 p) (rI D 53 p) (-z) := ⟨_, rfl⟩
  obtain ⟨V, eV⟩ : ∃ V, V = po (rI D 52 p) (rI D 53 p) (-z) := ⟨_, rfl⟩
  rw [← eW, ← eV] at hsp
  rw [← eW] at hb
  obtain ⟨C1, eC⟩ : ∃ C1, C1 = wJ (wI (wI (wI C (9 + p) 0 (rI D 52 p + -z)) T 4 (rI D 66 k + z)) (9 + p) 0 W) 3 10 (rJ D 51 14 + V.toInt64) := ⟨_, rfl⟩
  obtain ⟨D1, eD⟩ : ∃ D1, D1 = wJ (wI (wI (wJ D 51 13 (rJ D 51 13 + z.toInt64)) 66 k (rI D 66 k + z)) 52 p W) 51 14 (rJ D 51 14 + V.toInt64) := ⟨_, rfl⟩
  have rC : ∀ a j, rI C1 a j = if a = 9 + p ∧ j = 0 then W else if a = T ∧ j = 4 then rI D 66 k + z else rI C a j := by
    intro a j
    rw [eC, rI_wJ, rI_wI]
    by_cases c : a = 9 + p ∧ j = 0
    · rw [if_pos c, if_pos c]
    · rw [if_neg c, if_neg c, rI_wI, rI_wI, if_neg c]
  have rD : ∀ a j, rI D1 a j = if a = 52 ∧ j = p then W else if a = 66 ∧ j = k then rI D 66 k + z else rI D a j := by
    intro a j
    rw [eD, rI_wJ, rI_wI, rI_wI, rI_wJ]
  have rRC : ∀ a j, rR C1 a j = rR C a j := by
    intro a j
    rw [eC, rR_wJ, rR_wI, rR_wI, rR_wI]
  have qT : (tg Z T).1 ∈ [8] := by rw [q2]; simp
  refine ⟨z, C1, D1, ?_, ?_, ?_, ?_, ⟨?_, ?_, fun j hj => ?_, fun i j => ?_⟩, ?_, ?_, ⟨hzb.1, hzb.2.1⟩, fun j => ?_, ?_⟩
  · simp [fX3_serve, tg_3 hZ, q2, fr_3_0 hFC, e1, ep, if_pos a4, hixp, fr_p hFC hp8, tg_p hZ hp8, hy1, t1, pu, f0, mn_le, ← ez, sub_n, rI_wI, rJ_wI, rR_wI, rI_wJ, rJ_wJ, rR_wJ, rI_wR, rJ_wR, rR_wR, hTp, e4, hsp, z2, eC]
  · have hpm := pour_m (D := wI (wJ D 51 13 (rJ D 51 13 + z.toInt64)) 66 k (rI D 66 k + z)) (p := p) hZ ((hFD.wJ _ _ _).wI _ _ _) hp8 (-z)
    rw [hy2, t2, Option.bind_some, fr_51_17 hFD, if_pos a63, fr_51_0 hFD, hix, ep, if_pos a52, hixp]
    simp only [pu, ← ez, rR_wJ, rR_wI, fr_51_20 hFD, fr_51_17 hFD, if_pos a66, if_pos a63, rI_wJ, rI_wI]
    rw [if_neg (by omega), ep, hpm, Option.bind_some]
    simp only [rI_wI, rI_wJ, rJ_wI, rJ_wJ]
    rw [if_neg (by omega), if_neg (by omega), if_neg (by omega), eD, eW, eV, nI_1]
  · intro j hj
    obtain ⟨y1, y2, y3, y4, y5, y6⟩ := h1 j hj
    have k1 : rI C1 (9 + j) 1 = rI C (9 + j) 1 := by rw [rC, if_neg (by omega), if_neg (by omega)]
    have k2 : rI C1 (9 + j) 2 = rI C (9 + j) 2 := by rw [rC, if_neg (by omega), if_neg (by omega)]
    have l1 : rI D1 53 j = rI D 53 j := by rw [rD, if_neg (by omega), if_neg (by omega)]
    have l2 : rI D1 54 j = rI D 54 j := by rw [rD, if_neg (by omega), if_neg (by omega)]
    rw [k1, k2, l1, l2]
    by_cases c : j = p
    · subst c
      have k0 : rI C1 (9 + j) 0 = W := by rw [rC, if_pos ⟨rfl, rfl⟩]
      have l0 : rI D1 52 j = W := by rw [rD, if_pos ⟨rfl, rfl⟩]
      rw [k0, l0]
      exact ⟨rfl, y2, y3, hb, y5, y6⟩
    · have k0 : rI C1 (9 + j) 0 = rI C (9 + j) 0 := by rw [rC, if_neg (by omega), if_neg (by omega)]
      have l0 : rI D1 52 j = rI D 52 j := by rw [rD, if_neg (by omega), if_neg (by omega)]
      rw [k0, l0]
      exact ⟨y1, y2, y3, y4, y5, y6⟩
  · refine ⟨?_, ?_⟩
    · rw [eC, rJ_wJ, if_neg (by omega), rJ_wI, rJ_wI, rJ_wI, eD, rJ_wJ, if_neg (by omega), rJ_wI, rJ_wI, rJ_wJ, if_neg (by omega), z1]
    · rw [eC, rJ_wJ, if_pos ⟨rfl, rfl⟩, eD, rJ_wJ, if_pos ⟨rfl, rfl⟩]
  · rw [rC, if_neg (by omega), if_neg (by omega), n1]
  · rw [rD, if_neg (by omega), if_neg (by omega), n2]
  · obtain ⟨⟨u1, u2⟩, v0, v1, v2, v3, v4, v5⟩ := n3 j hj
    have hne : j ≠ k → rR C 6 j ≠ T := by
      intro h
      rw [eT]
      rcases Nat.lt_or_ge j k with h2 | h2
      · exact n4 j k h2 hk
      · exact (n4 k j (by omega) hj).symm
    have k0 : rI C1 (rR C 6 j) 0 = rI C (rR C 6 j) 0 := by rw [rC, if_neg (by omega), if_neg (by omega)]
    have k1 : rI C1 (rR C 6 j) 1 = rI C (rR C 6 j) 1 := by rw [rC, if_neg (by omega), if_neg (by omega)]
    have k2 : rI C1 (rR C 6 j) 2 = rI C (rR C 6 j) 2 := by rw [rC, if_neg (by omega), if_neg (by omega)]
    have k3 : rI C1 (rR C 6 j) 3 = rI C (rR C 6 j) 3 := by rw [rC, if_neg (by omega), if_neg (by omega)]
    have l0 : rI D1 62 j = rI D 62 j := by rw [rD, if_neg (by omega), if_neg (by omega)]
    have l1 : rI D1 63 j = rI D 63 j := by rw [rD, if_neg (by omega), if_neg (by omega)]
    have l2 : rI D1 64 j = rI D 64 j := by rw [rD, if_neg (by omega), if_neg (by omega)]
    have l3 : rI D1 65 j = rI D 65 j := by rw [rD, if_neg (by omega), if_neg (by omega)]
    have k4 : rI C1 (rR C 6 j) 4 = rI D1 66 j := by
      by_cases c : j = k
      · subst c
        have g1 : rI C1 (rR C 6 j) 4 = rI D 66 j + z := by rw [rC, if_neg (by omega), if_pos ⟨eT.symm, rfl⟩]
        have g2 : rI D1 66 j = rI D 66 j + z := by rw [rD, if_neg (by omega), if_pos ⟨rfl, rfl⟩]
        rw [g1, g2]
      · have g1 : rI C1 (rR C 6 j) 4 = rI C (rR C 6 j) 4 := by rw [rC, if_neg (by omega), if_neg (fun h => hne c h.1)]
        have g2 : rI D1 66 j = rI D 66 j := by rw [rD, if_neg (by omega), if_neg (fun h => c h.2)]
        rw [g1, g2]
        exact v4
    unfold tk2
    rw [rRC, k0, k1, k2, k3, k4, l0, l1, l2, l3]
    exact ⟨⟨u1, u2⟩, v0, v1, v2, v3, rfl, v5⟩
  · rw [rRC, rRC]
    exact n4 i j
  · rw [eC]
    exact (((Wr.rf.sI (Or.inl (mem_pw hp8))).sD q1 qT).sI (Or.inl (mem_pw hp8))).sJ (by simp [inF])
  · rw [eD]
    exact (((Wr.rf.sJ (by simp [inF])).sI (by simp [inF])).sI (by simp [inF])).sJ (by simp [inF])
  · rw [rD, if_neg (by omega)]
    by_cases c : j = k
    · rw [if_pos ⟨rfl, c⟩, if_pos c]
    · rw [if_neg (fun h => c h.2), if_neg c]
  · rw [eD, rJ_wJ, if_neg (by omega), rJ_wI, rJ_wI, rJ_wJ, if_pos ⟨rfl, rfl⟩]
