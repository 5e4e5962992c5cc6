/-! boats -/
def btOk (Z : Shp) (M : Mem) (k : Nat) : Prop := (110 ≤ rR M 8 k ∧ tg Z (rR M 8 k) = (2, 10)) ∧ rI M (rR M 8 k) 0 = rI M 68 k ∧ rI M (rR M 8 k) 1 = rI M 69 k ∧ rI M (rR M 8 k) 2 = rI M 70 k ∧ rI M (rR M 8 k) 3 = rI M 71 k ∧ rI M (rR M 8 k) 4 = rI M 72 k ∧ rI M (rR M 8 k) 5 = 5 * (abI (rI M 68 k - rI M 67 k) + 1) ∧ rI M (rR M 8 k) 6 = rI M 73 k ∧ rI M (rR M 8 k) 7 = rI M 74 k ∧ rI M (rR M 8 k) 8 = rI M 75 k ∧ rI M (rR M 8 k) 9 = rI M 100 k ∧
  (∃ f g q, f ≤ 7 ∧ g ≤ 7 ∧ q ≤ 7 ∧ f ≠ g ∧ rI M 67 k = nI f ∧ rI M 68 k = nI g ∧ rI M 73 k = nI q ∧ (q = g ↔ rI M 74 k = -1)) ∧ (0 ≤ (rI M 69 k).toInt ∧ (rI M 69 k).toInt ≤ 40) ∧ (1 ≤ (rI M 70 k).toInt ∧ (rI M 70 k).toInt ≤ 9) ∧ (∃ g, g ≤ 3 ∧ rI M 71 k = nI g) ∧ (∃ c, c ≤ 3 ∧ rI M 72 k = nI c) ∧ (rI M 100 k = 0 ∨ rI M 100 k = 1)
def IBoat (Z : Shp) (M : Mem) : Prop := ∃ n, n ≤ 12 ∧ rI M 3 6 = nI n ∧ rI M 51 21 = nI n ∧ (∀ k, k < n → btOk Z M k) ∧ (∀ j k, j < k → k < n → rR M 8 j ≠ rR M 8 k) ∧ ∀ k, n ≤ k → rI M 75 k = 0 ∧ rI M 100 k = 0
abbrev FBoat : List (Nat × Option Nat) := [(3, some 6), (51, some 21), (67, none), (68, none), (69, none), (70, none), (71, none), (72, none), (73, none), (74, none), (75, none), (100, none)]
theorem IBoat.keep {Z Z1 : Shp} {L : List (Nat × Option Nat)} {ts LR : List Nat} {M M1 : Mem} (h : IBoat Z M) (hE : Ext Z Z1) (w : Wr Z1 L ts LR M M1) (hd : dis L FBoat = true) (hL : L.all (fun p => decide (p.1 < 110)) = true) (ht : 2 ∉ ts) (hR : LR.contains 8 = false) : IBoat Z1 M1 := by
  obtain ⟨n, hn, h1, h2, h3, h4, h5⟩ := h
  have r8 := fun k => w.rowR (a := 8) (by omega) hR k
  have r67 := fun k => w.row hd (a := 67) (by simp) (by omega) k
  have r68 := fun k => w.row hd (a := 68) (by simp) (by omega) k
  have r69 := fun k => w.row hd (a := 69) (by simp) (by omega) k
  have r70 := fun k => w.row hd (a := 70) (by simp) (by omega) k
  have r71 := fun k => w.row hd (a := 71) (by simp) (by omega) k
  have r72 := fun k => w.row hd (a := 72) (by simp) (by omega) k
  have r73 := fun k => w.row hd (a := 73) (by simp) (by omega) k
  have r74 := fun k => w.row hd (a := 74) (by simp) (by omega) k
  have r75 := fun k => w.row hd (a := 75) (by simp) (by omega) k
  have r100 := fun k => w.row hd (a := 100) (by simp) (by omega) k
  refine ⟨n, hn, ?_, ?_, ?_, ?_, ?_⟩
  · rw [w.at hd (a := 3) (k := 6) (by simp) (by omega)]
    exact h1
  · rw [w.at hd (a := 51) (k := 21) (by simp) (by omega)]
    exact h2
  · intro k hk
    obtain ⟨⟨q1, q2⟩, q3⟩ := h3 k hk
    have q4 := hE _ _ _ (by omega) q2
    have q5 := fun j => w.dyn hL q1 (by rw [q4]; exact ht) j
    unfold btOk
    simp only [r8, r67, r68, r69, r70, r71, r72, r73, r74, r75, r100, q5]
    exact ⟨⟨q1, q4⟩, q3⟩
  · intro j k
    rw [r8, r8]
    exact h4 j k
  · intro k
    rw [r75, r100]
    exact h5 k
theorem bn_c {Z : Shp} {M : Mem} (hZ : OKZ Z) (hF : Fix M) {n k : Nat} (hn : n ≤ 12) (hk : k < n) (h1 : rI M 3 6 = nI n) (c : ¬ fX11_within (nI k) 0 (nI n - 1) = 0) : fX3_boatNumbered Z M 3 (nI k) = some (rR M 8 k) := by
  have hix : ix (nI k) = k := ix_nI (by omega)
  have ha : aok Z 8 113 (nI k) := aok_nI (tg_8 hZ) (by omega) (by decide)
  simp [fX3_boatNumbered, tg_2 hZ, tg_3 hZ, tg_4 hZ, tg_5 hZ, tg_6 hZ, tg_7 hZ, tg_8 hZ, tg_24 hZ, tg_25 hZ, tg_26 hZ, tg_27 hZ, tg_28 hZ, tg_29 hZ, tg_30 hZ, tg_31 hZ, tg_32 hZ, tg_33 hZ, tg_34 hZ, tg_35 hZ, tg_36 hZ, tg_37 hZ, tg_38 hZ, tg_39 hZ, tg_40 hZ, tg_41 hZ, tg_42 hZ, tg_43 hZ, tg_44 hZ, tg_45 hZ, tg_46 hZ, tg_47 hZ, tg_48 hZ, tg_49 hZ, tg_50 hZ, fr_2_0 hF, fr_3_0 hF, fr_3_1 hF, fr_3_2 hF, fr_3_3 hF, fr_3_4 hF, fr_2_1 hF, fr_24_0 hF, fr_24_2 hF, fr_2_2 hF, fr_27_0 hF, fr_27_1 hF, fr_27_2 hF, fr_27_8 hF, fr_2_3 hF, fr_32_0 hF, fr_32_1 hF, fr_32_3 hF, fr_32_4 hF, fr_32_5 hF, fr_32_6 hF, fr_2_4 hF, fr_39_0 hF, fr_39_1 hF, fr_39_2 hF, fr_39_3 hF, fr_39_4 hF, fr_39_5 hF, fr_39_6 hF, fr_2_5 hF, fr_47_0 hF, fr_47_1 hF, fr_47_2 hF, h1, c, if_pos ha, hix]
theorem miles_m {Z : Shp} {M : Mem} (hZ : OKZ Z) (hF : Fix M) {k : Nat} (hk : k < 12) : fX12_milesOf Z M 51 (nI k) = some (5 * (abI (rI M 68 k - rI M 67 k) + 1)) := by
  have hix : ix (nI k) = k := ix_nI (by omega)
  have a67 : aok Z 67 100 (nI k) := aok_nI (tg_67 hZ) (by omega) (by decide)
  have a68 : aok Z 68 100 (nI k) := aok_nI (tg_68 hZ) (by omega) (by decide)
  unfold fX12_milesOf abI
  simp only [tg_51 hZ, tg_52 hZ, tg_53 hZ, tg_54 hZ, tg_55 hZ, tg_56 hZ, tg_57 hZ, tg_58 hZ, tg_59 hZ, tg_60 hZ, tg_61 hZ, tg_62 hZ, tg_63 hZ, tg_64 hZ, tg_65 hZ, tg_66 hZ, tg_67 hZ, tg_68 hZ, tg_69 hZ, tg_70 hZ, tg_71 hZ, tg_72 hZ, tg_73 hZ, tg_74 hZ, tg_75 hZ, tg_76 hZ, tg_77 hZ, tg_78 hZ, tg_79 hZ, tg_80 hZ, tg_81 hZ, tg_82 hZ, tg_83 hZ, tg_84 hZ, tg_85 hZ, tg_86 hZ, tg_87 hZ, tg_88 hZ, tg_89 hZ, tg_90 hZ, tg_91 hZ, tg_92 hZ, tg_93 hZ, tg_94 hZ, tg_95 hZ, tg_96 hZ, tg_97 hZ, tg_98 hZ, tg_99 hZ, tg_100 hZ, tg_101 hZ, tg_102 hZ, tg_103 hZ, tg_104 hZ, tg_105 hZ, tg_106 hZ, tg_107 hZ, tg_108 hZ, tg_109 hZ, fr_51_0 hF, fr_51_1 hF, fr_51_2 hF, fr_51_4 hF, fr_51_5 hF, fr_51_6 hF, fr_51_7 hF, fr_51_8 hF, fr_51_9 hF, fr_51_10 hF, fr_51_16 hF, fr_51_17 hF, fr_51_18 hF, fr_51_19 hF, fr_51_20 hF, fr_51_22 hF, fr_51_23 hF, fr_51_24 hF, fr_51_25 hF, fr_51_26 hF, fr_51_27 hF, fr_51_28 hF, fr_51_29 hF, fr_51_30 hF, fr_51_31 hF, fr_51_32 hF, fr_51_33 hF, fr_51_36 hF, fr_51_37 hF, fr_51_38 hF, fr_51_39 hF, fr_51_40 hF, fr_51_41 hF, fr_51_42 hF, fr_51_51 hF, fr_51_52 hF, fr_51_54 hF, fr_51_56 hF, fr_51_58 hF, fr_51_59 hF, fr_51_60 hF, fr_51_62 hF, fr_51_63 hF, fr_51_67 hF, fr_51_68 hF, fr_51_69 hF, fr_51_70 hF, fr_51_71 hF, fr_51_72 hF, fr_51_73 hF, fr_51_74 hF, fr_51_76 hF, fr_51_77 hF, fr_51_78 hF, fr_51_79 hF, fr_51_82 hF, fr_51_83 hF, fr_51_84 hF, if_pos a67, if_pos a68, hix, pu, if_true]
  obtain ⟨z, hz⟩ : ∃ z, z = rI M 68 k - rI M 67 k := ⟨_, rfl⟩
  rw [← hz]
  by_cases c : 0 ≤ z
  · rw [if_pos c, if_pos c]
  · rw [if_neg c, if_neg c, show (0 : Int32) - z = -z by rw [Int32.sub_eq_add_neg, Int32.zero_add]]
theorem at_c {Z : Shp} {M : Mem} (hZ : OKZ Z) (hF : Fix M) {k : Nat} (hk : k < 12) (hB : btOk Z M k) {t : Nat} (ht : t ≤ 4) : ∃ r, fX1_tell Z M (rR M 8 k) (nI t) = some r ∧ fX12_atOf Z M 51 (nI k) (nI t) = some r := by
  obtain ⟨⟨q1, q2⟩, e0, e1, e2, e3, e4, e5, e6, e7, e8, e9, ⟨f, g, q, b1, b2, b3, b4, b5, b6, b7, b8⟩, -⟩ := hB
  have hix : ix (nI k) = k := ix_nI (by omega)
  have a73 : aok Z 73 100 (nI k) := aok_nI (tg_73 hZ) (by omega) (by decide)
  have a74 : aok Z 74 100 (nI k) := aok_nI (tg_74 hZ) (by omega) (by decide)
  have a75 : aok Z 75 100 (nI k) := aok_nI (tg_75 hZ) (by omega) (by decide)
  have ht' : t = 0 ∨ t = 1 ∨ t = 2 ∨ t = 3 ∨ t = 4 := by omega
  rcases ht' with rfl | rfl | rfl | rfl | rfl
  · exact ⟨rI M 73 k, by simp [fX1_tell, show nI 0 = 0 by decide, q2, e6], by simp [fX12_atOf, show nI 0 = 0 by decide, tg_51 hZ, tg_52 hZ, tg_53 hZ, tg_54 hZ, tg_55 hZ, tg_56 hZ, tg_57 hZ, tg_58 hZ, tg_59 hZ, tg_60 hZ, tg_61 hZ, tg_62 hZ, tg_63 hZ, tg_64 hZ, tg_65 hZ, tg_66 hZ, tg_67 hZ, tg_68 hZ, tg_69 hZ, tg_70 hZ, tg_71 hZ, tg_72 hZ, tg_73 hZ, tg_74 hZ, tg_75 hZ, tg_76 hZ, tg_77 hZ, tg_78 hZ, tg_79 hZ, tg_80 hZ, tg_81 hZ, tg_82 hZ, tg_83 hZ, tg_84 hZ, tg_85 hZ, tg_86 hZ, tg_87 hZ, tg_88 hZ, tg_89 hZ, tg_90 hZ, tg_91 hZ, tg_92 hZ, tg_93 hZ, tg_94 hZ, tg_95 hZ, tg_96 hZ, tg_97 hZ, tg_98 hZ, tg_99 hZ, tg_100 hZ, tg_101 hZ, tg_102 hZ, tg_103 hZ, tg_104 hZ, tg_105 hZ, tg_106 hZ, tg_107 hZ, tg_108 hZ, tg_109 hZ, fr_51_0 hF, fr_51_1 hF, fr_51_2 hF, fr_51_4 hF, fr_51_5 hF, fr_51_6 hF, fr_51_7 hF, fr_51_8 hF, fr_51_9 hF, fr_51_10 hF, fr_51_16 hF, fr_51_17 hF, fr_51_18 hF, fr_51_19 hF, fr_51_20 hF, fr_51_22 hF, fr_51_23 hF, fr_51_24 hF, fr_51_25 hF, fr_51_26 hF, fr_51_27 hF, fr_51_28 hF, fr_51_29 hF, fr_51_30 hF, fr_51_31 hF, fr_51_32 hF, fr_51_33 hF, fr_51_36 hF, fr_51_37 hF, fr_51_38 hF, fr_51_39 hF, fr_51_40 hF, fr_51_41 hF, fr_51_42 hF, fr_51_51 hF, fr_51_52 hF, fr_51_54 hF, fr_51_56 hF, fr_51_58 hF, fr_51_59 hF, fr_51_60 hF, fr_51_62 hF, fr_51_63 hF, fr_51_67 hF, fr_51_68 hF, fr_51_69 hF, fr_51_70 hF, fr_51_71 hF, fr_51_72 hF, fr_51_73 hF, fr_51_74 hF, fr_51_76 hF, fr_51_77 hF, fr_51_78 hF, fr_51_79 hF, fr_51_82 hF, fr_51_83 hF, fr_51_84 hF, if_pos a73, hix]⟩
  · exact ⟨rI M 74 k, by simp [fX1_tell, show nI 1 = 1 by decide, q2, e7], by simp [fX12_atOf, show nI 1 = 1 by decide, tg_51 hZ, tg_52 hZ, tg_53 hZ, tg_54 hZ, tg_55 hZ, tg_56 hZ, tg_57 hZ, tg_58 hZ, tg_59 hZ, tg_60 hZ, tg_61 hZ, tg_62 hZ, tg_63 hZ, tg_64 hZ, tg_65 hZ, tg_66 hZ, tg_67 hZ, tg_68 hZ, tg_69 hZ, tg_70 hZ, tg_71 hZ, tg_72 hZ, tg_73 hZ, tg_74 hZ, tg_75 hZ, tg_76 hZ, tg_77 hZ, tg_78 hZ, tg_79 hZ, tg_80 hZ, tg_81 hZ, tg_82 hZ, tg_83 hZ, tg_84 hZ, tg_85 hZ, tg_86 hZ, tg_87 hZ, tg_88 hZ, tg_89 hZ, tg_90 hZ, tg_91 hZ, tg_92 hZ, tg_93 hZ, tg_94 hZ, tg_95 hZ, tg_96 hZ, tg_97 hZ, tg_98 hZ, tg_99 hZ, tg_100 hZ, tg_101 hZ, tg_102 hZ, tg_103 hZ, tg_104 hZ, tg_105 hZ, tg_106 hZ, tg_107 hZ, tg_108 hZ, tg_109 hZ, fr_51_0 hF, fr_51_1 hF, fr_51_2 hF, fr_51_4 hF, fr_51_5 hF, fr_51_6 hF, fr_51_7 hF, fr_51_8 hF, fr_51_9 hF, fr_51_10 hF, fr_51_16 hF, fr_51_17 hF, fr_51_18 hF, fr_51_19 hF, fr_51_20 hF, fr_51_22 hF, fr_51_23 hF, fr_51_24 hF, fr_51_25 hF, fr_51_26 hF, fr_51_27 hF, fr_51_28 hF, fr_51_29 hF, fr_51_30 hF, fr_51_31 hF, fr_51_32 hF, fr_51_33 hF, fr_51_36 hF, fr_51_37 hF, fr_51_38 hF, fr_51_39 hF, fr_51_40 hF, fr_51_41 hF, fr_51_42 hF, fr_51_51 hF, fr_51_52 hF, fr_51_54 hF, fr_51_56 hF, fr_51_58 hF, fr_51_59 hF, fr_51_60 hF, fr_51_62 hF, fr_51_63 hF, fr_51_67 hF, fr_51_68 hF, fr_51_69 hF, fr_51_70 hF, fr_51_71 hF, fr_51_72 hF, fr_51_73 hF, fr_51_74 hF, fr_51_76 hF, fr_51_77 hF, fr_51_78 hF, fr_51_79 hF, fr_51_82 hF, fr_51_83 hF, fr_51_84 hF, if_pos a74, hix]⟩
  · by_cases c : q = g
    · have c2 := b8.mp c
      exact ⟨1, by simp [fX1_tell, fX1_isThere, show nI 2 = 2 by decide, q2, e6, e0, b6, b7, c], by simp [fX12_atOf, show nI 2 = 2 by decide, tg_51 hZ, tg_52 hZ, tg_53 hZ, tg_54 hZ, tg_55 hZ, tg_56 hZ, tg_57 hZ, tg_58 hZ, tg_59 hZ, tg_60 hZ, tg_61 hZ, tg_62 hZ, tg_63 hZ, tg_64 hZ, tg_65 hZ, tg_66 hZ, tg_67 hZ, tg_68 hZ, tg_69 hZ, tg_70 hZ, tg_71 hZ, tg_72 hZ, tg_73 hZ, tg_74 hZ, tg_75 hZ, tg_76 hZ, tg_77 hZ, tg_78 hZ, tg_79 hZ, tg_80 hZ, tg_81 hZ, tg_82 hZ, tg_83 hZ, tg_84 hZ, tg_85 hZ, tg_86 hZ, tg_87 hZ, tg_88 hZ, tg_89 hZ, tg_90 hZ, tg_91 hZ, tg_92 hZ, tg_93 hZ, tg_94 hZ, tg_95 hZ, tg_96 hZ, tg_97 hZ, tg_98 hZ, tg_99 hZ, tg_100 hZ, tg_101 hZ, tg_102 hZ, tg_103 hZ, tg_104 hZ, tg_105 hZ, tg_106 hZ, tg_107 hZ, tg_108 hZ, tg_109 hZ, fr_51_0 hF, fr_51_1 hF, fr_51_2 hF, fr_51_4 hF, fr_51_5 hF, fr_51_6 hF, fr_51_7 hF, fr_51_8 hF, fr_51_9 hF, fr_51_10 hF, fr_51_16 hF, fr_51_17 hF, fr_51_18 hF, fr_51_19 hF, fr_51_20 hF, fr_51_22 hF, fr_51_23 hF, fr_51_24 hF, fr_51_25 hF, fr_51_26 hF, fr_51_27 hF, fr_51_28 hF, fr_51_29 hF, fr_51_30 hF, fr_51_31 hF, fr_51_32 hF, fr_51_33 hF, fr_51_36 hF, fr_51_37 hF, fr_51_38 hF, fr_51_39 hF, fr_51_40 hF, fr_51_41 hF, fr_51_42 hF, fr_51_51 hF, fr_51_52 hF, fr_51_54 hF, fr_51_56 hF, fr_51_58 hF, fr_51_59 hF, fr_51_60 hF, fr_51_62 hF, fr_51_63 hF, fr_51_67 hF, fr_51_68 hF, fr_51_69 hF, fr_51_70 hF, fr_51_71 hF, fr_51_72 hF, fr_51_73 hF, fr_51_74 hF, fr_51_76 hF, fr_51_77 hF, fr_51_78 hF, fr_51_79 hF, fr_51_82 hF, fr_51_83 hF, fr_51_84 hF, if_pos a74, hix, c2]⟩
    · have c2 := mt b8.mpr c
      have c3 : ¬ nI q = nI g := fun h => c ((nI_eq (by omega) (by omega)).mp h)
      exact ⟨0, by simp [fX1_tell, fX1_isThere, show nI 2 = 2 by decide, q2, e6, e0, b6, b7, c3], by simp [fX12_atOf, show nI 2 = 2 by decide, tg_51 hZ, tg_52 hZ, tg_53 hZ, tg_54 hZ, tg_55 hZ, tg_56 hZ, tg_57 hZ, tg_58 hZ, tg_59 hZ, tg_60 hZ, tg_61 hZ, tg_62 hZ, tg_63 hZ, tg_64 hZ, tg_65 hZ, tg_66 hZ, tg_67 hZ, tg_68 hZ, tg_69 hZ, tg_70 hZ, tg_71 hZ, tg_72 hZ, tg_73 hZ, tg_74 hZ, tg_75 hZ, tg_76 hZ, tg_77 hZ, tg_78 hZ, tg_79 hZ, tg_80 hZ, tg_81 hZ, tg_82 hZ, tg_83 hZ, tg_84 hZ, tg_85 hZ, tg_86 hZ, tg_87 hZ, tg_88 hZ, tg_89 hZ, tg_90 hZ, tg_91 hZ, tg_92 hZ, tg_93 hZ, tg_94 hZ, tg_95 hZ, tg_96 hZ, tg_97 hZ, tg_98 hZ, tg_99 hZ, tg_100 hZ, tg_101 hZ, tg_102 hZ, tg_103 hZ, tg_104 hZ, tg_105 hZ, tg_106 hZ, tg_107 hZ, tg_108 hZ, tg_109 hZ, fr_51_0 hF, fr_51_1 hF, fr_51_2 hF, fr_51_4 hF, fr_51_5 hF, fr_51_6 hF, fr_51_7 hF, fr_51_8 hF, fr_51_9 hF, fr_51_10 hF, fr_51_16 hF, fr_51_17 hF, fr_51_18 hF, fr_51_19 hF, fr_51_20 hF, fr_51_22 hF, fr_51_23 hF, fr_51_24 hF, fr_51_25 hF, fr_51_26 hF, fr_51_27 hF, fr_51_28 hF, fr_51_29 hF, fr_51_30 hF, fr_51_31 hF, fr_51_32 hF, fr_51_33 hF, fr_51_36 hF, fr_51_37 hF, fr_51_38 hF, fr_51_39 hF, fr_51_40 hF, fr_51_41 hF, fr_51_42 hF, fr_51_51 hF, fr_51_52 hF, fr_51_54 hF, fr_51_56 hF, fr_51_58 hF, fr_51_59 hF, fr_51_60 hF, fr_51_62 hF, fr_51_63 hF, fr_51_67 hF, fr_51_68 hF, fr_51_69 hF, fr_51_70 hF, fr_51_71 hF, fr_51_72 hF, fr_51_73 hF, fr_51_74 hF, fr_51_76 hF, fr_51_77 hF, fr_51_78 hF, fr_51_79 hF, fr_51_82 hF, fr_51_83 hF, fr_51_84 hF, if_pos a74, hix, c2]⟩
  · exact ⟨rI M 75 k, by simp [fX1_tell, show nI 3 = 3 by decide, q2, e8], by simp [fX12_atOf, show nI 3 = 3 by decide, tg_51 hZ, tg_52 hZ, tg_53 hZ, tg_54 hZ, tg_55 hZ, tg_56 hZ, tg_57 hZ, tg_58 hZ, tg_59 hZ, tg_60 hZ, tg_61 hZ, tg_62 hZ, tg_63 hZ, tg_64 hZ, tg_65 hZ, tg_66 hZ, tg_67 hZ, tg_68 hZ, tg_69 hZ, tg_70 hZ, tg_71 hZ, tg_72 hZ, tg_73 hZ, tg_74 hZ, tg_75 hZ, tg_76 hZ, tg_77 hZ, tg_78 hZ, tg_79 hZ, tg_80 hZ, tg_81 hZ, tg_82 hZ, tg_83 hZ, tg_84 hZ, tg_85 hZ, tg_86 hZ, tg_87 hZ, tg_88 hZ, tg_89 hZ, tg_90 hZ, tg_91 hZ, tg_92 hZ, tg_93 hZ, tg_94 hZ, tg_95 hZ, tg_96 hZ, tg_97 hZ, tg_98 hZ, tg_99 hZ, tg_100 hZ, tg_101 hZ, tg_102 hZ, tg_103 hZ, tg_104 hZ, tg_105 hZ, tg_106 hZ, tg_107 hZ, tg_108 hZ, tg_109 hZ, fr_51_0 hF, fr_51_1 hF, fr_51_2 hF, fr_51_4 hF, fr_51_5 hF, fr_51_6 hF, fr_51_7 hF, fr_51_8 hF, fr_51_9 hF, fr_51_10 hF, fr_51_16 hF, fr_51_17 hF, fr_51_18 hF, fr_51_19 hF, fr_51_20 hF, fr_51_22 hF, fr_51_23 hF, fr_51_24 hF, fr_51_25 hF, fr_51_26 hF, fr_51_27 hF, fr_51_28 hF, fr_51_29 hF, fr_51_30 hF, fr_51_31 hF, fr_51_32 hF, fr_51_33 hF, fr_51_36 hF, fr_51_37 hF, fr_51_38 hF, fr_51_39 hF, fr_51_40 hF, fr_51_41 hF, fr_51_42 hF, fr_51_51 hF, fr_51_52 hF, fr_51_54 hF, fr_51_56 hF, fr_51_58 hF, fr_51_59 hF, fr_51_60 hF, fr_51_62 hF, fr_51_63 hF, fr_51_67 hF, fr_51_68 hF, fr_51_69 hF, fr_51_70 hF, fr_51_71 hF, fr_51_72 hF, fr_51_73 hF, fr_51_74 hF, fr_51_76 hF, fr_51_77 hF, fr_51_78 hF, fr_51_79 hF, fr_51_82 hF, fr_51_83 hF, fr_51_84 hF, if_pos a75, hix]⟩
  · exact ⟨5 * (abI (rI M 68 k - rI M 67 k) + 1), by simp [fX1_tell, show nI 4 = 4 by decide, q2, e5], by simp [fX12_atOf, show nI 4 = 4 by decide, tg_51 hZ, tg_52 hZ, tg_53 hZ, tg_54 hZ, tg_55 hZ, tg_56 hZ, tg_57 hZ, tg_58 hZ, tg_59 hZ, tg_60 hZ, tg_61 hZ, tg_62 hZ, tg_63 hZ, tg_64 hZ, tg_65 hZ, tg_66 hZ, tg_67 hZ, tg_68 hZ, tg_69 hZ, tg_70 hZ, tg_71 hZ, tg_72 hZ, tg_73 hZ, tg_74 hZ, tg_75 hZ, tg_76 hZ, tg_77 hZ, tg_78 hZ, tg_79 hZ, tg_80 hZ, tg_81 hZ, tg_82 hZ, tg_83 hZ, tg_84 hZ, tg_85 hZ, tg_86 hZ, tg_87 hZ, tg_88 hZ, tg_89 hZ, tg_90 hZ, tg_91 hZ, tg_92 hZ, tg_93 hZ, tg_94 hZ, tg_95 hZ, tg_96 hZ, tg_97 hZ, tg_98 hZ, tg_99 hZ, tg_100 hZ, tg_101 hZ, tg_102 hZ, tg_103 hZ, tg_104 hZ, tg_105 hZ, tg_106 hZ, tg_107 hZ, tg_108 hZ, tg_109 hZ, fr_51_0 hF, fr_51_1 hF, fr_51_2 hF, fr_51_4 hF, fr_51_5 hF, fr_51_6 hF, fr_51_7 hF, fr_51_8 hF, fr_51_9 hF, fr_51_10 hF, fr_51_16 hF, fr_51_17 hF, fr_51_18 hF, fr_51_19 hF, fr_51_20 hF, fr_51_22 hF, fr_51_23 hF, fr_51_24 hF, fr_51_25 hF, fr_51_26 hF, fr_51_27 hF, fr_51_28 hF, fr_51_29 hF, fr_51_30 hF, fr_51_31 hF, fr_51_32 hF, fr_51_33 hF, fr_51_36 hF, fr_51_37 hF, fr_51_38 hF, fr_51_39 hF, fr_51_40 hF, fr_51_41 hF, fr_51_42 hF, fr_51_51 hF, fr_51_52 hF, fr_51_54 hF, fr_51_56 hF, fr_51_58 hF, fr_51_59 hF, fr_51_60 hF, fr_51_62 hF, fr_51_63 hF, fr_51_67 hF, fr_51_68 hF, fr_51_69 hF, fr_51_70 hF, fr_51_71 hF, fr_51_72 hF, fr_51_73 hF, fr_51_74 hF, fr_51_76 hF, fr_51_77 hF, fr_51_78 hF, fr_51_79 hF, fr_51_82 hF, fr_51_83 hF, fr_51_84 hF, miles_m hZ hF hk]⟩
theorem op_at {Z : Shp} {M : Mem} (hZ : OKZ Z) (hF : Fix M) (hI : IBoat Z M) (x1 x2 : Int32) : ∃ r, fX11_at Z M 2 x1 x2 = some r ∧ fX12_at Z M 51 x1 x2 = some r := by
  obtain ⟨n, hn, h1, h2, h3, h4, h5⟩ := hI
  by_cases c1 : fX11_within x1 0 (nI n - 1) = 0
  · refine ⟨-101, ?_, ?_⟩
    · simp [fX11_at, fX3_boatNumbered, tg_2 hZ, tg_3 hZ, tg_4 hZ, tg_5 hZ, tg_6 hZ, tg_7 hZ, tg_8 hZ, tg_24 hZ, tg_25 hZ, tg_26 hZ, tg_27 hZ, tg_28 hZ, tg_29 hZ, tg_30 hZ, tg_31 hZ, tg_32 hZ, tg_33 hZ, tg_34 hZ, tg_35 hZ, tg_36 hZ, tg_37 hZ, tg_38 hZ, tg_39 hZ, tg_40 hZ, tg_41 hZ, tg_42 hZ, tg_43 hZ, tg_44 hZ, tg_45 hZ, tg_46 hZ, tg_47 hZ, tg_48 hZ, tg_49 hZ, tg_50 hZ, fr_2_0 hF, fr_3_0 hF, fr_3_1 hF, fr_3_2 hF, fr_3_3 hF, fr_3_4 hF, fr_2_1 hF, fr_24_0 hF, fr_24_2 hF, fr_2_2 hF, fr_27_0 hF, fr_27_1 hF, fr_27_2 hF, fr_27_8 hF, fr_2_3 hF, fr_32_0 hF, fr_32_1 hF, fr_32_3 hF, fr_32_4 hF, fr_32_5 hF, fr_32_6 hF, fr_2_4 hF, fr_39_0 hF, fr_39_1 hF, fr_39_2 hF, fr_39_3 hF, fr_39_4 hF, fr_39_5 hF, fr_39_6 hF, fr_2_5 hF, fr_47_0 hF, fr_47_1 hF, fr_47_2 hF, h1, c1]
    · simp [fX12_at, fX12_isBoat, in_m1_e, in_0_e, in_0_1, in_0_2, in_0_23, in_0_3, in_0_4, in_0_40, in_0_5, in_0_50, in_0_599, in_0_6, in_0_7, in_0_9, in_0_99, in_0_999, in_0_9999, in_0_99999, in_0_999999, in_1_100, in_1_200, in_1_6, in_1_9, in_1_999, in_10_17, in_10_200, in_48_57, in_6_17, in_e_99, in_e_9999, in_within, tg_51 hZ, tg_52 hZ, tg_53 hZ, tg_54 hZ, tg_55 hZ, tg_56 hZ, tg_57 hZ, tg_58 hZ, tg_59 hZ, tg_60 hZ, tg_61 hZ, tg_62 hZ, tg_63 hZ, tg_64 hZ, tg_65 hZ, tg_66 hZ, tg_67 hZ, tg_68 hZ, tg_69 hZ, tg_70 hZ, tg_71 hZ, tg_72 hZ, tg_73 hZ, tg_74 hZ, tg_75 hZ, tg_76 hZ, tg_77 hZ, tg_78 hZ, tg_79 hZ, tg_80 hZ, tg_81 hZ, tg_82 hZ, tg_83 hZ, tg_84 hZ, tg_85 hZ, tg_86 hZ, tg_87 hZ, tg_88 hZ, tg_89 hZ, tg_90 hZ, tg_91 hZ, tg_92 hZ, tg_93 hZ, tg_94 hZ, tg_95 hZ, tg_96 hZ, tg_97 hZ, tg_98 hZ, tg_99 hZ, tg_100 hZ, tg_101 hZ, tg_102 hZ, tg_103 hZ, tg_104 hZ, tg_105 hZ, tg_106 hZ, tg_107 hZ, tg_108 hZ, tg_109 hZ, fr_51_0 hF, fr_51_1 hF, fr_51_2 hF, fr_51_4 hF, fr_51_5 hF, fr_51_6 hF, fr_51_7 hF, fr_51_8 hF, fr_51_9 hF, fr_51_10 hF, fr_51_16 hF, fr_51_17 hF, fr_51_18 hF, fr_51_19 hF, fr_51_20 hF, fr_51_22 hF, fr_51_23 hF, fr_51_24 hF, fr_51_25 hF, fr_51_26 hF, fr_51_27 hF, fr_51_28 hF, fr_51_29 hF, fr_51_30 hF, fr_51_31 hF, fr_51_32 hF, fr_51_33 hF, fr_51_36 hF, fr_51_37 hF, fr_51_38 hF, fr_51_39 hF, fr_51_40 hF, fr_51_41 hF, fr_51_42 hF, fr_51_51 hF, fr_51_52 hF, fr_51_54 hF, fr_51_56 hF, fr_51_58 hF, fr_51_59 hF, fr_51_60 hF, fr_51_62 hF, fr_51_63 hF, fr_51_67 hF, fr_51_68 hF, fr_51_69 hF, fr_51_70 hF, fr_51_71 hF, fr_51_72 hF, fr_51_73 hF, fr_51_74 hF, fr_51_76 hF, fr_51_77 hF, fr_51_78 hF, fr_51_79 hF, fr_51_82 hF, fr_51_83 hF, fr_51_84 hF, h2, c1]
  obtain ⟨k, hk, rfl⟩ := wT (by omega) c1
  have hB := h3 k hk
  have n0 : ¬ rR M 8 k = 0 := by
    have := hB.1.1
    omega
  have tc := bn_c hZ hF hn hk h1 c1
  by_cases c2 : fX11_within x2 0 4 = 0
  · have r2 := w_n c2
    have t0 : ¬ x2 = 0 := fun h => by subst h; exact r2 (by decide)
    have t1 : ¬ x2 = 1 := fun h => by subst h; exact r2 (by decide)
    have t2 : ¬ x2 = 2 := fun h => by subst h; exact r2 (by decide)
    have t3 : ¬ x2 = 3 := fun h => by subst h; exact r2 (by decide)
    have t4 : ¬ x2 = 4 := fun h => by subst h; exact r2 (by decide)
    refine ⟨-102, ?_, ?_⟩
    · simp [fX11_at, tg_2 hZ, tg_3 hZ, tg_4 hZ, tg_5 hZ, tg_6 hZ, tg_7 hZ, tg_8 hZ, tg_24 hZ, tg_25 hZ, tg_26 hZ, tg_27 hZ, tg_28 hZ, tg_29 hZ, tg_30 hZ, tg_31 hZ, tg_32 hZ, tg_33 hZ, tg_34 hZ, tg_35 hZ, tg_36 hZ, tg_37 hZ, tg_38 hZ, tg_39 hZ, tg_40 hZ, tg_41 hZ, tg_42 hZ, tg_43 hZ, tg_44 hZ, tg_45 hZ, tg_46 hZ, tg_47 hZ, tg_48 hZ, tg_49 hZ, tg_50 hZ, fr_2_0 hF, fr_3_0 hF, fr_3_1 hF, fr_3_2 hF, fr_3_3 hF, fr_3_4 hF, fr_2_1 hF, fr_24_0 hF, fr_24_2 hF, fr_2_2 hF, fr_27_0 hF, fr_27_1 hF, fr_27_2 hF, fr_27_8 hF, fr_2_3 hF, fr_32_0 hF, fr_32_1 hF, fr_32_3 hF, fr_32_4 hF, fr_32_5 hF, fr_32_6 hF, fr_2_4 hF, fr_39_0 hF, fr_39_1 hF, fr_39_2 hF, fr_39_3 hF, fr_39_4 hF, fr_39_5 hF, fr_39_6 hF, fr_2_5 hF, fr_47_0 hF, fr_47_1 hF, fr_47_2 hF, tc, n0, c2]
    · simp [fX12_at, fX12_isBoat, fX12_atOf, in_m1_e, in_0_e, in_0_1, in_0_2, in_0_23, in_0_3, in_0_4, in_0_40, in_0_5, in_0_50, in_0_599, in_0_6, in_0_7, in_0_9, in_0_99, in_0_999, in_0_9999, in_0_99999, in_0_999999, in_1_100, in_1_200, in_1_6, in_1_9, in_1_999, in_10_17, in_10_200, in_48_57, in_6_17, in_e_99, in_e_9999, in_within, tg_51 hZ, tg_52 hZ, tg_53 hZ, tg_54 hZ, tg_55 hZ, tg_56 hZ, tg_57 hZ, tg_58 hZ, tg_59 hZ, tg_60 hZ, tg_61 hZ, tg_62 hZ, tg_63 hZ, tg_64 hZ, tg_65 hZ, tg_66 hZ, tg_67 hZ, tg_68 hZ, tg_69 hZ, tg_70 hZ, tg_71 hZ, tg_72 hZ, tg_73 hZ, tg_74 hZ, tg_75 hZ, tg_76 hZ, tg_77 hZ, tg_78 hZ, tg_79 hZ, tg_80 hZ, tg_81 hZ, tg_82 hZ, tg_83 hZ, tg_84 hZ, tg_85 hZ, tg_86 hZ, tg_87 hZ, tg_88 hZ, tg_89 hZ, tg_90 hZ, tg_91 hZ, tg_92 hZ, tg_93 hZ, tg_94 hZ, tg_95 hZ, tg_96 hZ, tg_97 hZ, tg_98 hZ, tg_99 hZ, tg_100 hZ, tg_101 hZ, tg_102 hZ, tg_103 hZ, tg_104 hZ, tg_105 hZ, tg_106 hZ, tg_107 hZ, tg_108 hZ, tg_109 hZ, fr_51_0 hF, fr_51_1 hF, fr_51_2 hF, fr_51_4 hF, fr_51_5 hF, fr_51_6 hF, fr_51_7 hF, fr_51_8 hF, fr_51_9 hF, fr_51_10 hF, fr_51_16 hF, fr_51_17 hF, fr_51_18 hF, fr_51_19 hF, fr_51_20 hF, fr_51_22 hF, fr_51_23 hF, fr_51_24 hF, fr_51_25 hF, fr_51_26 hF, fr_51_27 hF, fr_51_28 hF, fr_51_29 hF, fr_51_30 hF, fr_51_31 hF, fr_51_32 hF, fr_51_33 hF, fr_51_36 hF, fr_51_37 hF, fr_51_38 hF, fr_51_39 hF, fr_51_40 hF, fr_51_41 hF, fr_51_42 hF, fr_51_51 hF, fr_51_52 hF, fr_51_54 hF, fr_51_56 hF, fr_51_58 hF, fr_51_59 hF, fr_51_60 hF, fr_51_62 hF, fr_51_63 hF, fr_51_67 hF, fr_51_68 hF, fr_51_69 hF, fr_51_70 hF, fr_51_71 hF, fr_51_72 hF, fr_51_73 hF, fr_51_74 hF, fr_51_76 hF, fr_51_77 hF, fr_51_78 hF, fr_51_79 hF, fr_51_82 hF, fr_51_83 hF, fr_51_84 hF, h2, c1, t0, t1, t2, t3, t4]
  obtain ⟨t, ht, rfl⟩ := wN (n := 4) (by decide) c2
  obtain ⟨r, q1, q2⟩ := at_c hZ hF (by omega) hB ht
  refine ⟨r, ?_, ?_⟩
  · simp [fX11_at, tg_2 hZ, tg_3 hZ, tg_4 hZ, tg_5 hZ, tg_6 hZ, tg_7 hZ, tg_8 hZ, tg_24 hZ, tg_25 hZ, tg_26 hZ, tg_27 hZ, tg_28 hZ, tg_29 hZ, tg_30 hZ, tg_31 hZ, tg_32 hZ, tg_33 hZ, tg_34 hZ, tg_35 hZ, tg_36 hZ, tg_37 hZ, tg_38 hZ, tg_39 hZ, tg_40 hZ, tg_41 hZ, tg_42 hZ, tg_43 hZ, tg_44 hZ, tg_45 hZ, tg_46 hZ, tg_47 hZ, tg_48 hZ, tg_49 hZ, tg_50 hZ, fr_2_0 hF, fr_3_0 hF, fr_3_1 hF, fr_3_2 hF, fr_3_3 hF, fr_3_4 hF, fr_2_1 hF, fr_24_0 hF, fr_24_2 hF, fr_2_2 hF, fr_27_0 hF, fr_27_1 hF, fr_27_2 hF, fr_27_8 hF, fr_2_3 hF, fr_32_0 hF, fr_32_1 hF, fr_32_3 hF, fr_32_4 hF, fr_32_5 hF, fr_32_6 hF, fr_2_4 hF, fr_39_0 hF, fr_39_1 hF, fr_39_2 hF, fr_39_3 hF, fr_39_4 hF, fr_39_5 hF, fr_39_6 hF, fr_2_5 hF, fr_47_0 hF, fr_47_1 hF, fr_47_2 hF, tc, n0, c2, hB.1.2, q1]
  · simp [fX12_at, fX12_isBoat, in_m1_e, in_0_e, in_0_1, in_0_2, in_0_23, in_0_3, in_0_4, in_0_40, in_0_5, in_0_50, in_0_599, in_0_6, in_0_7, in_0_9, in_0_99, in_0_999, in_0_9999, in_0_99999, in_0_999999, in_1_100, in_1_200, in_1_6, in_1_9, in_1_999, in_10_17, in_10_200, in_48_57, in_6_17, in_e_99, in_e_9999, in_within, tg_51 hZ, tg_52 hZ, tg_53 hZ, tg_54 hZ, tg_55 hZ, tg_56 hZ, tg_57 hZ, tg_58 hZ, tg_59 hZ, tg_60 hZ, tg_61 hZ, tg_62 hZ, tg_63 hZ, tg_64 hZ, tg_65 hZ, tg_66 hZ, tg_67 hZ, tg_68 hZ, tg_69 hZ, tg_70 hZ, tg_71 hZ, tg_72 hZ, tg_73 hZ, tg_74 hZ, tg_75 hZ, tg_76 hZ, tg_77 hZ, tg_78 hZ, tg_79 hZ, tg_80 hZ, tg_81 hZ, tg_82 hZ, tg_83 hZ, tg_84 hZ, tg_85 hZ, tg_86 hZ, tg_87 hZ, tg_88 hZ, tg_89 hZ, tg_90 hZ, tg_91 hZ, tg_92 hZ, tg_93 hZ, tg_94 hZ, tg_95 hZ, tg_96 hZ, tg_97 hZ, tg_98 hZ, tg_99 hZ, tg_100 hZ, tg_101 hZ, tg_102 hZ, tg_103 hZ, tg_104 hZ, tg_105 hZ, tg_106 hZ, tg_107 hZ, tg_108 hZ, tg_109 hZ, fr_51_0 hF, fr_51_1 hF, fr_51_2 hF, fr_51_4 hF, fr_51_5 hF, fr_51_6 hF, fr_51_7 hF, fr_51_8 hF, fr_51_9 hF, fr_51_10 hF, fr_51_16 hF, fr_51_17 hF, fr_51_18 hF, fr_51_19 hF, fr_51_20 hF, fr_51_22 hF, fr_51_23 hF, fr_51_24 hF, fr_51_25 hF, fr_51_26 hF, fr_51_27 hF, fr_51_28 hF, fr_51_29 hF, fr_51_30 hF, fr_51_31 hF, fr_51_32 hF, fr_51_33 hF, fr_51_36 hF, fr_51_37 hF, fr_51_38 hF, fr_51_39 hF, fr_51_40 hF, fr_51_41 hF, fr_51_42 hF, fr_51_51 hF, fr_51_52 hF, fr_51_54 hF, fr_51_56 hF, fr_51_58 hF, fr_51_59 hF, fr_51_60 hF, fr_51_62 hF, fr_51_63 hF, fr_51_67 hF, fr_51_68 hF, fr_51_69 hF, fr_51_70 hF, fr_51_71 hF, fr_51_72 hF, fr_51_73 hF, fr_51_74 hF, fr_51_76 hF, fr_51_77 hF, fr_51_78 hF, fr_51_79 hF, fr_51_82 hF, fr_51_83 hF, fr_51_84 hF, h2, c1, q2]
theorem add_toInt {a b : Int32} (h1 : 0 ≤ a.toInt) (h2 : a.toInt ≤ 1000000) (h3 : 0 ≤ b.toInt) (h4 : b.toInt ≤ 1000000) : (a + b).toInt = a.toInt + b.toInt := by
  rw [Int32.toInt_add, Int.bmod_def]
  omega
theorem op_boat {Z : Shp} {M : Mem} (hZ : OKZ Z) (hF : Fix M) (hI : IBoat Z M) {h : Nat} (hh : h ≤ 600) (hh1 : rI M 3 8 = nI h) (hh2 : rI M 51 11 = nI h) (x1 x2 x3 x4 x5 x6 : Int32) : ∃ r Z1 M1 M2, fX11_boat Z M 2 x1 x2 x3 x4 x5 x6 = some (r, Z1, M1) ∧ fX12_boat Z1 M1 51 x1 x2 x3 x4 x5 x6 = some (r, M2) ∧ Ext Z Z1 ∧ IBoat Z1 M2 ∧ Wr Z1 FBoat [2] [8] M M2 := by
  obtain ⟨n, hn, h1, h2, h3, h4, h5⟩ := id hI
  by_cases c1 : fX11_within x1 0 7 = 0
  · exact ⟨-101, Z, M, M, by simp [fX11_boat, tg_2 hZ, tg_3 hZ, tg_4 hZ, tg_5 hZ, tg_6 hZ, tg_7 hZ, tg_8 hZ, tg_24 hZ, tg_25 hZ, tg_26 hZ, tg_27 hZ, tg_28 hZ, tg_29 hZ, tg_30 hZ, tg_31 hZ, tg_32 hZ, tg_33 hZ, tg_34 hZ, tg_35 hZ, tg_36 hZ, tg_37 hZ, tg_38 hZ, tg_39 hZ, tg_40 hZ, tg_41 hZ, tg_42 hZ, tg_43 hZ, tg_44 hZ, tg_45 hZ, tg_46 hZ, tg_47 hZ, tg_48 hZ, tg_49 hZ, tg_50 hZ, fr_2_0 hF, fr_3_0 hF, fr_3_1 hF, fr_3_2 hF, fr_3_3 hF, fr_3_4 hF, fr_2_1 hF, fr_24_0 hF, fr_24_2 hF, fr_2_2 hF, fr_27_0 hF, fr_27_1 hF, fr_27_2 hF, fr_27_8 hF, fr_2_3 hF, fr_32_0 hF, fr_32_1 hF, fr_32_3 hF, fr_32_4 hF, fr_32_5 hF, fr_32_6 hF, fr_2_4 hF, fr_39_0 hF, fr_39_1 hF, fr_39_2 hF, fr_39_3 hF, fr_39_4 hF, fr_39_5 hF, fr_39_6 hF, fr_2_5 hF, fr_47_0 hF, fr_47_1 hF, fr_47_2 hF, pn_n c1], by simp [fX12_boat, fX12_isPound, in_m1_e, in_0_e, in_0_1, in_0_2, in_0_23, in_0_3, in_0_4, in_0_40, in_0_5, in_0_50, in_0_599, in_0_6, in_0_7, in_0_9, in_0_99, in_0_999, in_0_9999, in_0_99999, in_0_999999, in_1_100, in_1_200, in_1_6, in_1_9, in_1_999, in_10_17, in_10_200, in_48_57, in_6_17, in_e_99, in_e_9999, in_within, c1], Ext_rf Z, hI, Wr.rf⟩
  obtain ⟨f, hf, rfl⟩ := wN (n := 7) (by decide) c1
  have pc1 := pn_c hZ hF hf c1
  by_cases c2 : fX11_within x2 0 7 = 0
  · exact ⟨-101, Z, M, M, by simp [fX11_boat, tg_2 hZ, tg_3 hZ, tg_4 hZ, tg_5 hZ, tg_6 hZ, tg_7 hZ, tg_8 hZ, tg_24 hZ, tg_25 hZ, tg_26 hZ, tg_27 hZ, tg_28 hZ, tg_29 hZ, tg_30 hZ, tg_31 hZ, tg_32 hZ, tg_33 hZ, tg_34 hZ, tg_35 hZ, tg_36 hZ, tg_37 hZ, tg_38 hZ, tg_39 hZ, tg_40 hZ, tg_41 hZ, tg_42 hZ, tg_43 hZ, tg_44 hZ, tg_45 hZ, tg_46 hZ, tg_47 hZ, tg_48 hZ, tg_49 hZ, tg_50 hZ, fr_2_0 hF, fr_3_0 hF, fr_3_1 hF, fr_3_2 hF, fr_3_3 hF, fr_3_4 hF, fr_2_1 hF, fr_24_0 hF, fr_24_2 hF, fr_2_2 hF, fr_27_0 hF, fr_27_1 hF, fr_27_2 hF, fr_27_8 hF, fr_2_3 hF, fr_32_0 hF, fr_32_1 hF, fr_32_3 hF, fr_32_4 hF, fr_32_5 hF, fr_32_6 hF, fr_2_4 hF, fr_39_0 hF, fr_39_1 hF, fr_39_2 hF, fr_39_3 hF, fr_39_4 hF, fr_39_5 hF, fr_39_6 hF, fr_2_5 hF, fr_47_0 hF, fr_47_1 hF, fr_47_2 hF, pc1, pn_n c2], by simp [fX12_boat, fX12_isPound, in_m1_e, in_0_e, in_0_1, in_0_2, in_0_23, in_0_3, in_0_4, in_0_40, in_0_5, in_0_50, in_0_599, in_0_6, in_0_7, in_0_9, in_0_99, in_0_999, in_0_9999, in_0_99999, in_0_999999, in_1_100, in_1_200, in_1_6, in_1_9, in_1_999, in_10_17, in_10_200, in_48_57, in_6_17, in_e_99, in_e_9999, in_within, c1, c2], Ext_rf Z, hI, Wr.rf⟩
  obtain ⟨g, hg, rfl⟩ := wN (n := 7) (by decide) c2
  have pc2 := pn_c hZ hF hg c2
  by_cases c3 : nI f = nI g
  · exact ⟨-101, Z, M, M, by simp only [fX11_boat, tg_2 hZ, tg_3 hZ, tg_4 hZ, tg_5 hZ, tg_6 hZ, tg_7 hZ, tg_8 hZ, tg_24 hZ, tg_25 hZ, tg_26 hZ, tg_27 hZ, tg_28 hZ, tg_29 hZ, tg_30 hZ, tg_31 hZ, tg_32 hZ, tg_33 hZ, tg_34 hZ, tg_35 hZ, tg_36 hZ, tg_37 hZ, tg_38 hZ, tg_39 hZ, tg_40 hZ, tg_41 hZ, tg_42 hZ, tg_43 hZ, tg_44 hZ, tg_45 hZ, tg_46 hZ, tg_47 hZ, tg_48 hZ, tg_49 hZ, tg_50 hZ, fr_2_0 hF, fr_3_0 hF, fr_3_1 hF, fr_3_2 hF, fr_3_3 hF, fr_3_4 hF, fr_2_1 hF, fr_24_0 hF, fr_24_2 hF, fr_2_2 hF, fr_27_0 hF, fr_27_1 hF, fr_27_2 hF, fr_27_8 hF, fr_2_3 hF, fr_32_0 hF, fr_32_1 hF, fr_32_3 hF, fr_32_4 hF, fr_32_5 hF, fr_32_6 hF, fr_2_4 hF, fr_39_0 hF, fr_39_1 hF, fr_39_2 hF, fr_39_3 hF, fr_39_4 hF, fr_39_5 hF, fr_39_6 hF, fr_2_5 hF, fr_47_0 hF, fr_47_1 hF, fr_47_2 hF, pc1, pc2, c3]; simp [pc2], by simp [fX12_boat, fX12_isPound, in_m1_e, in_0_e, in_0_1, in_0_2, in_0_23, in_0_3, in_0_4, in_0_40, in_0_5, in_0_50, in_0_599, in_0_6, in_0_7, in_0_9, in_0_99, in_0_999, in_0_9999, in_0_99999, in_0_999999, in_1_100, in_1_200, in_1_6, in_1_9, in_1_999, in_10_17, in_10_200, in_48_57, in_6_17, in_e_99, in_e_9999, in_within, c1, c2, c3], Ext_rf Z, hI, Wr.rf⟩
  have hfg : f ≠ g := fun e => c3 (by rw [e])
  by_cases c4 : fX11_within x3 0 40 = 0
  · exact ⟨-102, Z, M, M, by simp [fX11_boat, tg_2 hZ, tg_3 hZ, tg_4 hZ, tg_5 hZ, tg_6 hZ, tg_7 hZ, tg_8 hZ, tg_24 hZ, tg_25 hZ, tg_26 hZ, tg_27 hZ, tg_28 hZ, tg_29 hZ, tg_30 hZ, tg_31 hZ, tg_32 hZ, tg_33 hZ, tg_34 hZ, tg_35 hZ, tg_36 hZ, tg_37 hZ, tg_38 hZ, tg_39 hZ, tg_40 hZ, tg_41 hZ, tg_42 hZ, tg_43 hZ, tg_44 hZ, tg_45 hZ, tg_46 hZ, tg_47 hZ, tg_48 hZ, tg_49 hZ, tg_50 hZ, fr_2_0 hF, fr_3_0 hF, fr_3_1 hF, fr_3_2 hF, fr_3_3 hF, fr_3_4 hF, fr_2_1 hF, fr_24_0 hF, fr_24_2 hF, fr_2_2 hF, fr_27_0 hF, fr_27_1 hF, fr_27_2 hF, fr_27_8 hF, fr_2_3 hF, fr_32_0 hF, fr_32_1 hF, fr_32_3 hF, fr_32_4 hF, fr_32_5 hF, fr_32_6 hF, fr_2_4 hF, fr_39_0 hF, fr_39_1 hF, fr_39_2 hF, fr_39_3 hF, fr_39_4 hF, fr_39_5 hF, fr_39_6 hF, fr_2_5 hF, fr_47_0 hF, fr_47_1 hF, fr_47_2 hF, pc1, pc2, c3, c4], by simp [fX12_boat, fX12_isPound, in_m1_e, in_0_e, in_0_1, in_0_2, in_0_23, in_0_3, in_0_4, in_0_40, in_0_5, in_0_50, in_0_599, in_0_6, in_0_7, in_0_9, in_0_99, in_0_999, in_0_9999, in_0_99999, in_0_999999, in_1_100, in_1_200, in_1_6, in_1_9, in_1_999, in_10_17, in_10_200, in_48_57, in_6_17, in_e_99, in_e_9999, in_within, c1, c2, c3, c4], Ext_rf Z, hI, Wr.rf⟩
  by_cases c5 : fX11_within x4 1 9 = 0
  · exact ⟨-102, Z, M, M, by simp [fX11_boat, tg_2 hZ, tg_3 hZ, tg_4 hZ, tg_5 hZ, tg_6 hZ, tg_7 hZ, tg_8 hZ, tg_24 hZ, tg_25 hZ, tg_26 hZ, tg_27 hZ, tg_28 hZ, tg_29 hZ, tg_30 hZ, tg_31 hZ, tg_32 hZ, tg_33 hZ, tg_34 hZ, tg_35 hZ, tg_36 hZ, tg_37 hZ, tg_38 hZ, tg_39 hZ, tg_40 hZ, tg_41 hZ, tg_42 hZ, tg_43 hZ, tg_44 hZ, tg_45 hZ, tg_46 hZ, tg_47 hZ, tg_48 hZ, tg_49 hZ, tg_50 hZ, fr_2_0 hF, fr_3_0 hF, fr_3_1 hF, fr_3_2 hF, fr_3_3 hF, fr_3_4 hF, fr_2_1 hF, fr_24_0 hF, fr_24_2 hF, fr_2_2 hF, fr_27_0 hF, fr_27_1 hF, fr_27_2 hF, fr_27_8 hF, fr_2_3 hF, fr_32_0 hF, fr_32_1 hF, fr_32_3 hF, fr_32_4 hF, fr_32_5 hF, fr_32_6 hF, fr_2_4 hF, fr_39_0 hF, fr_39_1 hF, fr_39_2 hF, fr_39_3 hF, fr_39_4 hF, fr_39_5 hF, fr_39_6 hF, fr_2_5 hF, fr_47_0 hF, fr_47_1 hF, fr_47_2 hF, pc1, pc2, c3, c4, c5], by simp [fX12_boat, fX12_isPound, in_m1_e, in_0_e, in_0_1, in_0_2, in_0_23, in_0_3, in_0_4, in_0_40, in_0_5, in_0_50, in_0_599, in_0_6, in_0_7, in_0_9, in_0_99, in_0_999, in_0_9999, in_0_99999, in_0_999999, in_1_100, in_1_200, in_1_6, in_1_9, in_1_999, in_10_17, in_10_200, in_48_57, in_6_17, in_e_99, in_e_9999, in_within, c1, c2, c3, c4, c5], Ext_rf Z, hI, Wr.rf⟩
  by_cases c6 : fX11_within x5 0 3 = 0
  · exact ⟨-102, Z, M, M, by simp [fX11_boat, tg_2 hZ, tg_3 hZ, tg_4 hZ, tg_5 hZ, tg_6 hZ, tg_7 hZ, tg_8 hZ, tg_24 hZ, tg_25 hZ, tg_26 hZ, tg_27 hZ, tg_28 hZ, tg_29 hZ, tg_30 hZ, tg_31 hZ, tg_32 hZ, tg_33 hZ, tg_34 hZ, tg_35 hZ, tg_36 hZ, tg_37 hZ, tg_38 hZ, tg_39 hZ, tg_40 hZ, tg_41 hZ, tg_42 hZ, tg_43 hZ, tg_44 hZ, tg_45 hZ, tg_46 hZ, tg_47 hZ, tg_48 hZ, tg_49 hZ, tg_50 hZ, fr_2_0 hF, fr_3_0 hF, fr_3_1 hF, fr_3_2 hF, fr_3_3 hF, fr_3_4 hF, fr_2_1 hF, fr_24_0 hF, fr_24_2 hF, fr_2_2 hF, fr_27_0 hF, fr_27_1 hF, fr_27_2 hF, fr_27_8 hF, fr_2_3 hF, fr_32_0 hF, fr_32_1 hF, fr_32_3 hF, fr_32_4 hF, fr_32_5 hF, fr_32_6 hF, fr_2_4 hF, fr_39_0 hF, fr_39_1 hF, fr_39_2 hF, fr_39_3 hF, fr_39_4 hF, fr_39_5 hF, fr_39_6 hF, fr_2_5 hF, fr_47_0 hF, fr_47_1 hF, fr_47_2 hF, pc1, pc2, c3, c4, c5, c6], by simp [fX12_boat, fX12_isPound, in_m1_e, in_0_e, in_0_1, in_0_2, in_0_23, in_0_3, in_0_4, in_0_40, in_0_5, in_0_50, in_0_599, in_0_6, in_0_7, in_0_9, in_0_99, in_0_999, in_0_9999, in_0_99999, in_0_999999, in_1_100, in_1_200, in_1_6, in_1_9, in_1_999, in_10_17, in_10_200, in_48_57, in_6_17, in_e_99, in_e_9999, in_within, c1, c2, c3, c4, c5, c6], Ext_rf Z, hI, Wr.rf⟩
  by_cases c7 : fX11_within x6 0 3 = 0
  · exact ⟨-102, Z, M, M, by simp [fX11_boat, tg_2 hZ, tg_3 hZ, tg_4 hZ, tg_5 hZ, tg_6 hZ, tg_7 hZ, tg_8 hZ, tg_24 hZ, tg_25 hZ, tg_26 hZ, tg_27 hZ, tg_28 hZ, tg_29 hZ, tg_30 hZ, tg_31 hZ, tg_32 hZ, tg_33 hZ, tg_34 hZ, tg_35 hZ, tg_36 hZ, tg_37 hZ, tg_38 hZ, tg_39 hZ, tg_40 hZ, tg_41 hZ, tg_42 hZ, tg_43 hZ, tg_44 hZ, tg_45 hZ, tg_46 hZ, tg_47 hZ, tg_48 hZ, tg_49 hZ, tg_50 hZ, fr_2_0 hF, fr_3_0 hF, fr_3_1 hF, fr_3_2 hF, fr_3_3 hF, fr_3_4 hF, fr_2_1 hF, fr_24_0 hF, fr_24_2 hF, fr_2_2 hF, fr_27_0 hF, fr_27_1 hF, fr_27_2 hF, fr_27_8 hF, fr_2_3 hF, fr_32_0 hF, fr_32_1 hF, fr_32_3 hF, fr_32_4 hF, fr_32_5 hF, fr_32_6 hF, fr_2_4 hF, fr_39_0 hF, fr_39_1 hF, fr_39_2 hF, fr_39_3 hF, fr_39_4 hF, fr_39_5 hF, fr_39_6 hF, fr_2_5 hF, fr_47_0 hF, fr_47_1 hF, fr_47_2 hF, pc1, pc2, c3, c4, c5, c6, c7], by simp [fX12_boat, fX12_isPound, in_m1_e, in_0_e, in_0_1, in_0_2, in_0_23, in_0_3, in_0_4, in_0_40, in_0_5, in_0_50, in_0_599, in_0_6, in_0_7, in_0_9, in_0_99, in_0_999, in_0_9999, in_0_99999, in_0_999999, in_1_100, in_1_200, in_1_6, in_1_9, in_1_999, in_10_17, in_10_200, in_48_57, in_6_17, in_e_99, in_e_9999, in_within, c1, c2, c3, c4, c5, c6, c7], Ext_rf Z, hI, Wr.rf⟩
  obtain ⟨gd, hgd, rfl⟩ := wN (n := 3) (by decide) c6
  obtain ⟨cr, hcr, rfl⟩ := wN (n := 3) (by decide) c7
  by_cases c8 : n = 12
  · subst c8
    refine ⟨-104, Z, M, M, ?_, ?_, Ext_rf Z, hI, Wr.rf⟩
    · simp [fX11_boat, tg_2 hZ, tg_3 hZ, tg_4 hZ, tg_5 hZ, tg_6 hZ, tg_7 hZ, tg_8 hZ, tg_24 hZ, tg_25 hZ, tg_26 hZ, tg_27 hZ, tg_28 hZ, tg_29 hZ, tg_30 hZ, tg_31 hZ, tg_32 hZ, tg_33 hZ, tg_34 hZ, tg_35 hZ, tg_36 hZ, tg_37 hZ, tg_38 hZ, tg_39 hZ, tg_40 hZ, tg_41 hZ, tg_42 hZ, tg_43 hZ, tg_44 hZ, tg_45 hZ, tg_46 hZ, tg_47 hZ, tg_48 hZ, tg_49 hZ, tg_50 hZ, fr_2_0 hF, fr_3_0 hF, fr_3_1 hF, fr_3_2 hF, fr_3_3 hF, fr_3_4 hF, fr_2_1 hF, fr_24_0 hF, fr_24_2 hF, fr_2_2 hF, fr_27_0 hF, fr_27_1 hF, fr_27_2 hF, fr_27_8 hF, fr_2_3 hF, fr_32_0 hF, fr_32_1 hF, fr_32_3 hF, fr_32_4 hF, fr_32_5 hF, fr_32_6 hF, fr_2_4 hF, fr_39_0 hF, fr_39_1 hF, fr_39_2 hF, fr_39_3 hF, fr_39_4 hF, fr_39_5 hF, fr_39_6 hF, fr_2_5 hF, fr_47_0 hF, fr_47_1 hF, fr_47_2 hF, pc1, pc2, c3, c4, c5, c6, c7, h1, show ¬ nI 12 < 12 by decide]
    · simp [fX12_boat, fX12_isPound, in_m1_e, in_0_e, in_0_1, in_0_2, in_0_23, in_0_3, in_0_4, in_0_40, in_0_5, in_0_50, in_0_599, in_0_6, in_0_7, in_0_9, in_0_99, in_0_999, in_0_9999, in_0_99999, in_0_999999, in_1_100, in_1_200, in_1_6, in_1_9, in_1_999, in_10_17, in_10_200, in_48_57, in_6_17, in_e_99, in_e_9999, in_within, c1, c2, c3, c4, c5, c6, c7, tg_51 hZ, tg_52 hZ, tg_53 hZ, tg_54 hZ, tg_55 hZ, tg_56 hZ, tg_57 hZ, tg_58 hZ, tg_59 hZ, tg_60 hZ, tg_61 hZ, tg_62 hZ, tg_63 hZ, tg_64 hZ, tg_65 hZ, tg_66 hZ, tg_67 hZ, tg_68 hZ, tg_69 hZ, tg_70 hZ, tg_71 hZ, tg_72 hZ, tg_73 hZ, tg_74 hZ, tg_75 hZ, tg_76 hZ, tg_77 hZ, tg_78 hZ, tg_79 hZ, tg_80 hZ, tg_81 hZ, tg_82 hZ, tg_83 hZ, tg_84 hZ, tg_85 hZ, tg_86 hZ, tg_87 hZ, tg_88 hZ, tg_89 hZ, tg_90 hZ, tg_91 hZ, tg_92 hZ, tg_93 hZ, tg_94 hZ, tg_95 hZ, tg_96 hZ, tg_97 hZ, tg_98 hZ, tg_99 hZ, tg_100 hZ, tg_101 hZ, tg_102 hZ, tg_103 hZ, tg_104 hZ, tg_105 hZ, tg_106 hZ, tg_107 hZ, tg_108 hZ, tg_109 hZ, fr_51_0 hF, fr_51_1 hF, fr_51_2 hF, fr_51_4 hF, fr_51_5 hF, fr_51_6 hF, fr_51_7 hF, fr_51_8 hF, fr_51_9 hF, fr_51_10 hF, fr_51_16 hF, fr_51_17 hF, fr_51_18 hF, fr_51_19 hF, fr_51_20 hF, fr_51_22 hF, fr_51_23 hF, fr_51_24 hF, fr_51_25 hF, fr_51_26 hF, fr_51_27 hF, fr_51_28 hF, fr_51_29 hF, fr_51_30 hF, fr_51_31 hF, fr_51_32 hF, fr_51_33 hF, fr_51_36 hF, fr_51_37 hF, fr_51_38 hF, fr_51_39 hF, fr_51_40 hF, fr_51_41 hF, fr_51_42 hF, fr_51_51 hF, fr_51_52 hF, fr_51_54 hF, fr_51_56 hF, fr_51_58 hF, fr_51_59 hF, fr_51_60 hF, fr_51_62 hF, fr_51_63 hF, fr_51_67 hF, fr_51_68 hF, fr_51_69 hF, fr_51_70 hF, fr_51_71 hF, fr_51_72 hF, fr_51_73 hF, fr_51_74 hF, fr_51_76 hF, fr_51_77 hF, fr_51_78 hF, fr_51_79 hF, fr_51_82 hF, fr_51_83 hF, fr_51_84 hF, h2, show nI 12 = 12 by decide]
  have hn12 : n < 12 := by omega
  have hlt : nI n < 12 := nI_lt hn12 (by decide)
  have hne : ¬ nI n = 12 := fun h => c8 ((nI_eq (by omega) (by decide)).mp h)
  have hl := len_ok hZ
  obtain ⟨a, ea⟩ : ∃ a, a = Z.length + 2 := ⟨_, rfl⟩
  have ha : 110 ≤ a := by omega
  obtain ⟨Z1, eZ⟩ : ∃ Z1, Z1 = Z ++ [(2, 10)] := ⟨_, rfl⟩
  have hE : Ext Z Z1 := by rw [eZ]; exact Ext_app _ _
  have hZ1 : OKZ Z1 := Ext_tr hZ hE
  have ta : tg Z1 a = (2, 10) := by rw [eZ, ea]; exact tg_app_new _ _ _
  obtain ⟨N, eN⟩ : ∃ N, N = wI (wI (wI (wI (wI (wI (wI (wI (wI (nw M a) a 0 (nI g)) a 1 x3) a 2 x4) a 3 (nI gd)) a 4 (nI cr)) a 5 (5 * (abI (nI g - nI f) + 1))) a 6 (nI f)) a 6 (nI f)) a 7 (nI h + x4) := ⟨_, rfl⟩
  have wN' : Wr Z1 FBoat [2] [8] M N := by
    rw [eN]
    have q : (tg Z1 a).1 ∈ [2] := by rw [ta]; simp
    exact (((((((((Wr.rf.nw ha q).sD ha q).sD ha q).sD ha q).sD ha q).sD ha q).sD ha q).sD ha q).sD ha q).sD ha q
  obtain ⟨M1, eM⟩ : ∃ M1, M1 = wI (wR N 8 n a) 3 6 (nI n + 1) := ⟨_, rfl⟩
  have w1 : Wr Z1 FBoat [2] [8] M M1 := by
    rw [eM]
    exact (wN'.sR (by simp)).sI (by simp [inF])
  have hF1 : Fix M1 := w1.fix hF (by decide)
  have hix : ix (nI n) = n := ix_nI (by omega)
  have a67 : aok Z1 67 100 (nI n) := aok_nI (tg_67 hZ1) (by omega) (by decide)
  have a68 : aok Z1 68 100 (nI n) := aok_nI (tg_68 hZ1) (by omega) (by decide)
  have a69 : aok Z1 69 100 (nI n) := aok_nI (tg_69 hZ1) (by omega) (by decide)
  have a70 : aok Z1 70 100 (nI n) := aok_nI (tg_70 hZ1) (by omega) (by decide)
  have a71 : aok Z1 71 100 (nI n) := aok_nI (tg_71 hZ1) (by omega) (by decide)
  have a72 : aok Z1 72 100 (nI n) := aok_nI (tg_72 hZ1) (by omega) (by decide)
  have a73 : aok Z1 73 100 (nI n) := aok_nI (tg_73 hZ1) (by omega) (by decide)
  have a74 : aok Z1 74 100 (nI n) := aok_nI (tg_74 hZ1) (by omega) (by decide)
  have a8 : aok Z1 8 113 (nI n) := aok_nI (tg_8 hZ1) (by omega) (by decide)
  have hM1I : ∀ b k, b ≠ a → b ≠ 3 → rI M1 b k = rI M b k := by
    intro b k hb hb3
    simp [eM, eN, rI_wI, rI_wR, rI_nw, hb, hb3]
  have hM18 : ∀ k, rR M1 8 k = if k = n then a else rR M 8 k := by
    intro k
    simp [eM, eN, rR_wI, rR_wR, rR_nw, show ¬ 8 = a by omega]
  have h21 : rI M1 51 21 = nI n := by rw [hM1I 51 21 (by omega) (by omega)]; exact h2
  have hh21 : rI M1 51 11 = nI h := by rw [hM1I 51 11 (by omega) (by omega)]; exact hh2
  obtain ⟨M2, eM2⟩ : ∃ M2, M2 = wI (wI (wI (wI (wI (wI (wI (wI (wI M1 67 n (nI f)) 68 n (nI g)) 69 n x3) 70 n x4) 71 n (nI gd)) 72 n (nI cr)) 73 n (nI f)) 74 n (nI h + x4)) 51 21 (nI n + 1) := ⟨_, rfl⟩
  refine ⟨nI n, Z1, M1, M2, ?_, ?_, hE, ?_, ?_⟩
  · simp [fX11_boat, fX1_init, fX3_addBoat, fX1_comeInto, tg_2 hZ, tg_3 hZ, tg_4 hZ, tg_5 hZ, tg_6 hZ, tg_7 hZ, tg_8 hZ, tg_24 hZ, tg_25 hZ, tg_26 hZ, tg_27 hZ, tg_28 hZ, tg_29 hZ, tg_30 hZ, tg_31 hZ, tg_32 hZ, tg_33 hZ, tg_34 hZ, tg_35 hZ, tg_36 hZ, tg_37 hZ, tg_38 hZ, tg_39 hZ, tg_40 hZ, tg_41 hZ, tg_42 hZ, tg_43 hZ, tg_44 hZ, tg_45 hZ, tg_46 hZ, tg_47 hZ, tg_48 hZ, tg_49 hZ, tg_50 hZ, fr_2_0 hF, fr_3_0 hF, fr_3_1 hF, fr_3_2 hF, fr_3_3 hF, fr_3_4 hF, fr_2_1 hF, fr_24_0 hF, fr_24_2 hF, fr_2_2 hF, fr_27_0 hF, fr_27_1 hF, fr_27_2 hF, fr_27_8 hF, fr_2_3 hF, fr_32_0 hF, fr_32_1 hF, fr_32_3 hF, fr_32_4 hF, fr_32_5 hF, fr_32_6 hF, fr_2_4 hF, fr_39_0 hF, fr_39_1 hF, fr_39_2 hF, fr_39_3 hF, fr_39_4 hF, fr_39_5 hF, fr_39_6 hF, fr_2_5 hF, fr_47_0 hF, fr_47_1 hF, fr_47_2 hF, pc1, pc2, c3, c4, c5, c6, c7, h1, hlt, pu, pu2, ← ea, ← eZ, ta, rI_wI, rJ_wI, rR_wI, rI_wJ, rJ_wJ, rR_wJ, rI_wR, rJ_wR, rR_wR, rI_nw, rR_nw, show ¬ 3 = a by omega, show ¬ 8 = a by omega, tg_3 hZ1, hh1, if_pos a8, hix, eM, eN]
  · simp [fX12_boat, fX12_isPound, in_m1_e, in_0_e, in_0_1, in_0_2, in_0_23, in_0_3, in_0_4, in_0_40, in_0_5, in_0_50, in_0_599, in_0_6, in_0_7, in_0_9, in_0_99, in_0_999, in_0_9999, in_0_99999, in_0_999999, in_1_100, in_1_200, in_1_6, in_1_9, in_1_999, in_10_17, in_10_200, in_48_57, in_6_17, in_e_99, in_e_9999, in_within, c1, c2, c3, c4, c5, c6, c7, tg_51 hZ, tg_52 hZ, tg_53 hZ, tg_54 hZ, tg_55 hZ, tg_56 hZ, tg_57 hZ, tg_58 hZ, tg_59 hZ, tg_60 hZ, tg_61 hZ, tg_62 hZ, tg_63 hZ, tg_64 hZ, tg_65 hZ, tg_66 hZ, tg_67 hZ, tg_68 hZ, tg_69 hZ, tg_70 hZ, tg_71 hZ, tg_72 hZ, tg_73 hZ, tg_74 hZ, tg_75 hZ, tg_76 hZ, tg_77 hZ, tg_78 hZ, tg_79 hZ, tg_80 hZ, tg_81 hZ, tg_82 hZ, tg_83 hZ, tg_84 hZ, tg_85 hZ, tg_86 hZ, tg_87 hZ, tg_88 hZ, tg_89 hZ, tg_90 hZ, tg_91 hZ, tg_92 hZ, tg_93 hZ, tg_94 hZ, tg_95 hZ, tg_96 hZ, tg_97 hZ, tg_98 hZ, tg_99 hZ, tg_100 hZ, tg_101 hZ, tg_102 hZ, tg_103 hZ, tg_104 hZ, tg_105 hZ, tg_106 hZ, tg_107 hZ, tg_108 hZ, tg_109 hZ, fr_51_0 hF1, fr_51_1 hF1, fr_51_2 hF1, fr_51_4 hF1, fr_51_5 hF1, fr_51_6 hF1, fr_51_7 hF1, fr_51_8 hF1, fr_51_9 hF1, fr_51_10 hF1, fr_51_16 hF1, fr_51_17 hF1, fr_51_18 hF1, fr_51_19 hF1, fr_51_20 hF1, fr_51_22 hF1, fr_51_23 hF1, fr_51_24 hF1, fr_51_25 hF1, fr_51_26 hF1, fr_51_27 hF1, fr_51_28 hF1, fr_51_29 hF1, fr_51_30 hF1, fr_51_31 hF1, fr_51_32 hF1, fr_51_33 hF1, fr_51_36 hF1, fr_51_37 hF1, fr_51_38 hF1, fr_51_39 hF1, fr_51_40 hF1, fr_51_41 hF1, fr_51_42 hF1, fr_51_51 hF1, fr_51_52 hF1, fr_51_54 hF1, fr_51_56 hF1, fr_51_58 hF1, fr_51_59 hF1, fr_51_60 hF1, fr_51_62 hF1, fr_51_63 hF1, fr_51_67 hF1, fr_51_68 hF1, fr_51_69 hF1, fr_51_70 hF1, fr_51_71 hF1, fr_51_72 hF1, fr_51_73 hF1, fr_51_74 hF1, fr_51_76 hF1, fr_51_77 hF1, fr_51_78 hF1, fr_51_79 hF1, fr_51_82 hF1, fr_51_83 hF1, fr_51_84 hF1, tg_51 hZ1, h21, hh21, hne, if_pos a67, if_pos a68, if_pos a69, if_pos a70, if_pos a71, if_pos a72, if_pos a73, if_pos a74, pu, rI_wI, rJ_wI, rR_wI, rI_wJ, rJ_wJ, rR_wJ, rI_wR, rJ_wR, rR_wR, hix, eM2]
  · have hr2 : ∀ b k, rR M2 b k = rR M1 b k := by
      intro b k
      simp [eM2, rR_wI]
    have hold : ∀ k, k < n → rR M 8 k < a := by
      intro k hk
      rw [ea]
      exact tg_lt (h3 k hk).1.2 (by omega)
    have v67 : ∀ k, rI M2 67 k = if k = n then nI f else rI M 67 k := by
      intro k
      simp [eM2, rI_wI, hM1I 67 k (by omega) (by omega)]
    have v68 : ∀ k, rI M2 68 k = if k = n then nI g else rI M 68 k := by
      intro k
      simp [eM2, rI_wI, hM1I 68 k (by omega) (by omega)]
    have v69 : ∀ k, rI M2 69 k = if k = n then x3 else rI M 69 k := by
      intro k
      simp [eM2, rI_wI, hM1I 69 k (by omega) (by omega)]
    have v70 : ∀ k, rI M2 70 k = if k = n then x4 else rI M 70 k := by
      intro k
      simp [eM2, rI_wI, hM1I 70 k (by omega) (by omega)]
    have v71 : ∀ k, rI M2 71 k = if k = n then nI gd else rI M 71 k := by
      intro k
      simp [eM2, rI_wI, hM1I 71 k (by omega) (by omega)]
    have v72 : ∀ k, rI M2 72 k = if k = n then nI cr else rI M 72 k := by
      intro k
      simp [eM2, rI_wI, hM1I 72 k (by omega) (by omega)]
    have v73 : ∀ k, rI M2 73 k = if k = n then nI f else rI M 73 k := by
      intro k
      simp [eM2, rI_wI, hM1I 73 k (by omega) (by omega)]
    have v74 : ∀ k, rI M2 74 k = if k = n then nI h + x4 else rI M 74 k := by
      intro k
      simp [eM2, rI_wI, hM1I 74 k (by omega) (by omega)]
    have v75 : ∀ k, rI M2 75 k = rI M 75 k := by
      intro k
      simp [eM2, rI_wI, hM1I 75 k (by omega) (by omega)]
    have v100 : ∀ k, rI M2 100 k = rI M 100 k := by
      intro k
      simp [eM2, rI_wI, hM1I 100 k (by omega) (by omega)]
    have va : ∀ k, rI M2 a k = rI N a k := by
      intro k
      simp [eM2, eM, rI_wI, rI_wR, show ¬ a = 67 by omega, show ¬ a = 68 by omega, show ¬ a = 69 by omega, show ¬ a = 70 by omega, show ¬ a = 71 by omega, show ¬ a = 72 by omega, show ¬ a = 73 by omega, show ¬ a = 74 by omega, show ¬ a = 51 by omega, show ¬ a = 3 by omega]
    have r4 := w_rng c4
    have r5 := w_rng c5
    have m0 : (0 : Int32).toInt = 0 := by decide
    have m1 : (1 : Int32).toInt = 1 := by decide
    have m9 : (9 : Int32).toInt = 9 := by decide
    have m40 : (40 : Int32).toInt = 40 := by decide
    have mm : (-1 : Int32).toInt = -1 := by decide
    refine ⟨n + 1, by omega, ?_, ?_, ?_, ?_, ?_⟩
    · simp [eM2, eM, rI_wI, nI_succ]
    · simp [eM2, rI_wI, nI_succ]
    · intro k hk
      unfold btOk
      rw [hr2, hM18, v67, v68, v69, v70, v71, v72, v73, v74, v75, v100]
      by_cases hkn : k = n
      · subst hkn
        have hrd : ¬ nI h + x4 = -1 := by
          rw [i32_eq, add_toInt (by rw [nI_toInt (by omega)]; omega) (by rw [nI_toInt (by omega)]; omega) (by omega) (by omega), nI_toInt (by omega)]
          omega
        have h50 := h5 k (Nat.le_refl k)
        simp only [if_true, va]
        refine ⟨⟨ha, ta⟩, by simp [eN, rI_wI], by simp [eN, rI_wI], by simp [eN, rI_wI], by simp [eN, rI_wI], by simp [eN, rI_wI], by simp [eN, rI_wI], by simp [eN, rI_wI], by simp [eN, rI_wI], by simp [eN, rI_wI, rI_nw, h50.1], by simp [eN, rI_wI, rI_nw, h50.2], ⟨f, g, f, hf, hg, hf, hfg, rfl, rfl, rfl, ⟨fun e => absurd e hfg, fun e => absurd e hrd⟩⟩, by omega, by omega, ⟨gd, hgd, rfl⟩, ⟨cr, hcr, rfl⟩, Or.inl h50.2⟩
      · have hkl : k < n := by omega
        obtain ⟨⟨q1, q2⟩, q3⟩ := h3 k hkl
        have q5 : ∀ j, rI M2 (rR M 8 k) j = rI M (rR M 8 k) j := by
          intro j
          have := hold k hkl
          obtain ⟨b, hb⟩ : ∃ b, b = rR M 8 k := ⟨_, rfl⟩
          rw [← hb] at this q1 ⊢
          simp [eM2, rI_wI, hM1I b j (by omega) (by omega), show ¬ b = 67 by omega, show ¬ b = 68 by omega, show ¬ b = 69 by omega, show ¬ b = 70 by omega, show ¬ b = 71 by omega, show ¬ b = 72 by omega, show ¬ b = 73 by omega, show ¬ b = 74 by omega, show ¬ b = 51 by omega]
        simp only [hkn, if_false, q5]
        exact ⟨⟨q1, hE _ _ _ (by omega) q2⟩, q3⟩
    · intro j k hjk hk
      rw [hr2, hr2, hM18, hM18]
      have hjn : ¬ j = n := by omega
      by_cases hkn : k = n
      · rw [if_neg hjn, if_pos hkn]
        have := hold j (by omega)
        omega
      · rw [if_neg hjn, if_neg hkn]
        exact h4 j k hjk (by omega)
    · intro k hk
      rw [v75, v100]
      exact h5 k (by omega)
  · rw [eM2]
    exact ((((((((w1.sI (by simp [inF])).sI (by simp [inF])).sI (by simp [inF])).sI (by simp [inF])).sI (by simp [inF])).sI (by simp [inF])).sI (by simp [inF])).sI (by simp [inF])).sI (by simp [inF])
