/-! bestPence -/
def tnM (M : Mem) (i : Nat) : Int32 := rI M 69 i * (5 * (abI (rI M 68 i - rI M 67 i) + 1))
def tpS (M : Mem) (x : Int32) : Nat → Int32
  | 0 => 0
  | i + 1 => if x * tnM M i ≤ rI M 51 80 * tnM M i / 10 then tpS M x i + x * tnM M i else tpS M x i
theorem kept_c {Z : Shp} {M : Mem} (hZ : OKZ Z) (hF : Fix M) {n : Nat} (hn : n ≤ 12) (h1 : rI M 3 6 = nI n) (h3 : ∀ k, k < n → btOk Z M k) (hR : rI M 39 8 = rI M 51 80) (x : Int32) : fX11_tollsKept Z M 2 x = some (tpS M x n) := by
  unfold fX11_tollsKept
  refine loop_for (fun i => (tpS M x i, nI i)) n rfl (fun i hi => ?_) (by simp [tg_2 hZ, tg_3 hZ, tg_4 hZ, tg_5 hZ, tg_6 hZ, tg_7 hZ, tg_8 hZ, tg_24 hZ, tg_25 hZ, tg_26 hZ, tg_27 hZ, tg_28 hZ, tg_29 hZ, tg_30 hZ, tg_31 hZ, tg_32 hZ, tg_33 hZ, tg_34 hZ, tg_35 hZ, tg_36 hZ, tg_37 hZ, tg_38 hZ, tg_39 hZ, tg_40 hZ, tg_41 hZ, tg_42 hZ, tg_43 hZ, tg_44 hZ, tg_45 hZ, tg_46 hZ, tg_47 hZ, tg_48 hZ, tg_49 hZ, tg_50 hZ, fr_2_0 hF, fr_3_0 hF, fr_3_1 hF, fr_3_2 hF, fr_3_3 hF, fr_3_4 hF, fr_2_1 hF, fr_24_0 hF, fr_24_2 hF, fr_2_2 hF, fr_27_0 hF, fr_27_1 hF, fr_27_2 hF, fr_27_8 hF, fr_2_3 hF, fr_32_0 hF, fr_32_1 hF, fr_32_3 hF, fr_32_4 hF, fr_32_5 hF, fr_32_6 hF, fr_2_4 hF, fr_39_0 hF, fr_39_1 hF, fr_39_2 hF, fr_39_3 hF, fr_39_4 hF, fr_39_5 hF, fr_39_6 hF, fr_2_5 hF, fr_47_0 hF, fr_47_1 hF, fr_47_2 hF, h1])
  have hle := nle hi (by omega)
  have hix : ix (nI i) = i := ix_nI (by omega)
  have a8 : aok Z 8 113 (nI i) := aok_nI (tg_8 hZ) (by omega) (by decide)
  obtain ⟨⟨g1, g2⟩, e0, e1, e2, e3, e4, e5, -⟩ := h3 i hi
  by_cases c : x * tnM M i ≤ rI M 51 80 * tnM M i / 10
  · have c' := c
    unfold tnM at c'
    simp [tg_2 hZ, tg_3 hZ, tg_4 hZ, tg_5 hZ, tg_6 hZ, tg_7 hZ, tg_8 hZ, tg_24 hZ, tg_25 hZ, tg_26 hZ, tg_27 hZ, tg_28 hZ, tg_29 hZ, tg_30 hZ, tg_31 hZ, tg_32 hZ, tg_33 hZ, tg_34 hZ, tg_35 hZ, tg_36 hZ, tg_37 hZ, tg_38 hZ, tg_39 hZ, tg_40 hZ, tg_41 hZ, tg_42 hZ, tg_43 hZ, tg_44 hZ, tg_45 hZ, tg_46 hZ, tg_47 hZ, tg_48 hZ, tg_49 hZ, tg_50 hZ, fr_2_0 hF, fr_3_0 hF, fr_3_1 hF, fr_3_2 hF, fr_3_3 hF, fr_3_4 hF, fr_2_1 hF, fr_24_0 hF, fr_24_2 hF, fr_2_2 hF, fr_27_0 hF, fr_27_1 hF, fr_27_2 hF, fr_27_8 hF, fr_2_3 hF, fr_32_0 hF, fr_32_1 hF, fr_32_3 hF, fr_32_4 hF, fr_32_5 hF, fr_32_6 hF, fr_2_4 hF, fr_39_0 hF, fr_39_1 hF, fr_39_2 hF, fr_39_3 hF, fr_39_4 hF, fr_39_5 hF, fr_39_6 hF, fr_2_5 hF, fr_47_0 hF, fr_47_1 hF, fr_47_2 hF, h1, hle, if_pos a8, hix, fX5_goesOver, fX1_tonMiles, g2, e1, e5, hR, c', c, pu, tpS, nI_succ]
    rfl
  · have c' := c
    unfold tnM at c'
    simp [tg_2 hZ, tg_3 hZ, tg_4 hZ, tg_5 hZ, tg_6 hZ, tg_7 hZ, tg_8 hZ, tg_24 hZ, tg_25 hZ, tg_26 hZ, tg_27 hZ, tg_28 hZ, tg_29 hZ, tg_30 hZ, tg_31 hZ, tg_32 hZ, tg_33 hZ, tg_34 hZ, tg_35 hZ, tg_36 hZ, tg_37 hZ, tg_38 hZ, tg_39 hZ, tg_40 hZ, tg_41 hZ, tg_42 hZ, tg_43 hZ, tg_44 hZ, tg_45 hZ, tg_46 hZ, tg_47 hZ, tg_48 hZ, tg_49 hZ, tg_50 hZ, fr_2_0 hF, fr_3_0 hF, fr_3_1 hF, fr_3_2 hF, fr_3_3 hF, fr_3_4 hF, fr_2_1 hF, fr_24_0 hF, fr_24_2 hF, fr_2_2 hF, fr_27_0 hF, fr_27_1 hF, fr_27_2 hF, fr_27_8 hF, fr_2_3 hF, fr_32_0 hF, fr_32_1 hF, fr_32_3 hF, fr_32_4 hF, fr_32_5 hF, fr_32_6 hF, fr_2_4 hF, fr_39_0 hF, fr_39_1 hF, fr_39_2 hF, fr_39_3 hF, fr_39_4 hF, fr_39_5 hF, fr_39_6 hF, fr_2_5 hF, fr_47_0 hF, fr_47_1 hF, fr_47_2 hF, h1, hle, if_pos a8, hix, fX5_goesOver, fX1_tonMiles, g2, e1, e5, hR, c', c, pu, tpS, nI_succ]
theorem tp_0 (M : Mem) : ∀ k, tpS M 0 k = 0 := by
  intro k
  induction k with
  | zero => rfl
  | succ k ih =>
    rw [tpS, ih]
    simp
def bpS (M : Mem) (n : Nat) : Nat → Int32 × Int32
  | 0 => (0, 0)
  | k + 1 => if tpS M (nI k) n ≤ (bpS M n k).2 then bpS M n k else (nI k, tpS M (nI k) n)
theorem op_bestPence {Z : Shp} {M : Mem} (hZ : OKZ Z) (hF : Fix M) (hI : IBoat Z M) (hR : rI M 39 8 = rI M 51 80) (x1 : Int32) : ∃ r, fX11_bestPence Z M 2 x1 = some r ∧ fX12_bestPence Z M 51 x1 = some r := by
  obtain ⟨n, hn, h1, h2, h3, h4, h5⟩ := hI
  by_cases c1 : fX11_within x1 0 1 = 0
  · exact ⟨-102, by simp [fX11_bestPence, c1], by simp [fX12_bestPence, in_m1_e, in_0_e, in_0_1, in_0_2, in_0_23, in_0_3, in_0_4, in_0_40, in_0_5, in_0_50, in_0_599, in_0_6, in_0_7, in_0_9, in_0_99, in_0_999, in_0_9999, in_0_99999, in_0_999999, in_1_100, in_1_200, in_1_6, in_1_9, in_1_999, in_10_17, in_10_200, in_48_57, in_6_17, in_e_99, in_e_9999, in_within, c1]⟩
  refine ⟨if x1 = 0 then (bpS M n 100).1 else (bpS M n 100).2, ?_, ?_⟩
  · unfold fX11_bestPence
    rw [if_neg c1]
    have b1 : bpS M n 1 = (0, 0) := by
      rw [bpS, show nI 0 = 0 by decide, tp_0]
      rfl
    refine loop_for (fun k => ((bpS M n (k + 1)).1, (bpS M n (k + 1)).2, nI (k + 1))) 99 (by rw [b1]; rfl) (fun k hk => ?_) ?_
    · have hlt : ¬ (99 : Int32) < nI (k + 1) := by
        rw [i32_lt, nI_toInt (by omega), show (99 : Int32).toInt = 99 by decide]
        omega
      simp only [if_neg hlt, if_pos (tg_2 hZ), kept_c hZ hF hn h1 h3 hR, Option.bind_some]
      rw [bpS.eq_2 M n (k + 1), nI_succ (k + 1)]
      by_cases c : tpS M (nI (k + 1)) n ≤ (bpS M n (k + 1)).2
      · simp only [if_pos c]
      · simp only [if_neg c]
    · simp only [if_pos (show (99 : Int32) < nI (99 + 1) by decide)]
      by_cases c : x1 = 0
      · simp only [if_pos c]
      · simp only [if_neg c]
  · unfold fX12_bestPence
    rw [in_0_1, if_neg c1]
    refine loop_for (fun k => ((bpS M n k).1, (bpS M n k).2, nI k)) 100 rfl (fun k hk => ?_) ?_
    · have hle := nle hk (by omega)
      rw [show nI 100 = 100 by decide] at hle
      simp only [if_neg hle]
      refine bindL (loop_for (s0 := ((0 : Int32), (0 : Int32))) (fun i => (tpS M (nI k) i, nI i)) n (r := tpS M (nI k) n) rfl (fun i hi => ?_) (by simp [tg_51 hZ, h2])) ?_
      · have hle2 := nle hi (by omega)
        have hix : ix (nI i) = i := ix_nI (by omega)
        have a69 : aok Z 69 100 (nI i) := aok_nI (tg_69 hZ) (by omega) (by decide)
        have hmi := miles_m hZ hF (show i < 12 by omega)
        by_cases c : nI k * tnM M i ≤ rI M 51 80 * tnM M i / 10
        · have c' := c
          unfold tnM at c'
          simp [tg_51 hZ, tg_52 hZ, tg_53 hZ, tg_54 hZ, tg_55 hZ, tg_56 hZ, tg_57 hZ, tg_58 hZ, tg_59 hZ, tg_60 hZ, tg_61 hZ, tg_62 hZ, tg_63 hZ, tg_64 hZ, tg_65 hZ, tg_66 hZ, tg_67 hZ, tg_68 hZ, tg_69 hZ, tg_70 hZ, tg_71 hZ, tg_72 hZ, tg_73 hZ, tg_74 hZ, tg_75 hZ, tg_76 hZ, tg_77 hZ, tg_78 hZ, tg_79 hZ, tg_80 hZ, tg_81 hZ, tg_82 hZ, tg_83 hZ, tg_84 hZ, tg_85 hZ, tg_86 hZ, tg_87 hZ, tg_88 hZ, tg_89 hZ, tg_90 hZ, tg_91 hZ, tg_92 hZ, tg_93 hZ, tg_94 hZ, tg_95 hZ, tg_96 hZ, tg_97 hZ, tg_98 hZ, tg_99 hZ, tg_100 hZ, tg_101 hZ, tg_102 hZ, tg_103 hZ, tg_104 hZ, tg_105 hZ, tg_106 hZ, tg_107 hZ, tg_108 hZ, tg_109 hZ, fr_51_0 hF, fr_51_1 hF, fr_51_2 hF, fr_51_4 hF, fr_51_5 hF, fr_51_6 hF, fr_51_7 hF, fr_51_8 hF, fr_51_9 hF, fr_51_10 hF, fr_51_16 hF, fr_51_17 hF, fr_51_18 hF, fr_51_19 hF, fr_51_20 hF, fr_51_22 hF, fr_51_23 hF, fr_51_24 hF, fr_51_25 hF, fr_51_26 hF, fr_51_27 hF, fr_51_28 hF, fr_51_29 hF, fr_51_30 hF, fr_51_31 hF, fr_51_32 hF, fr_51_33 hF, fr_51_36 hF, fr_51_37 hF, fr_51_38 hF, fr_51_39 hF, fr_51_40 hF, fr_51_41 hF, fr_51_42 hF, fr_51_51 hF, fr_51_52 hF, fr_51_54 hF, fr_51_56 hF, fr_51_58 hF, fr_51_59 hF, fr_51_60 hF, fr_51_62 hF, fr_51_63 hF, fr_51_67 hF, fr_51_68 hF, fr_51_69 hF, fr_51_70 hF, fr_51_71 hF, fr_51_72 hF, fr_51_73 hF, fr_51_74 hF, fr_51_76 hF, fr_51_77 hF, fr_51_78 hF, fr_51_79 hF, fr_51_82 hF, fr_51_83 hF, fr_51_84 hF, h2, hle2, fX12_goesOver, if_pos a69, hix, hmi, pu, c', c, tpS, nI_succ]
          simp [tnM, Int32.mul_assoc]
        · have c' := c
          unfold tnM at c'
          simp [tg_51 hZ, tg_52 hZ, tg_53 hZ, tg_54 hZ, tg_55 hZ, tg_56 hZ, tg_57 hZ, tg_58 hZ, tg_59 hZ, tg_60 hZ, tg_61 hZ, tg_62 hZ, tg_63 hZ, tg_64 hZ, tg_65 hZ, tg_66 hZ, tg_67 hZ, tg_68 hZ, tg_69 hZ, tg_70 hZ, tg_71 hZ, tg_72 hZ, tg_73 hZ, tg_74 hZ, tg_75 hZ, tg_76 hZ, tg_77 hZ, tg_78 hZ, tg_79 hZ, tg_80 hZ, tg_81 hZ, tg_82 hZ, tg_83 hZ, tg_84 hZ, tg_85 hZ, tg_86 hZ, tg_87 hZ, tg_88 hZ, tg_89 hZ, tg_90 hZ, tg_91 hZ, tg_92 hZ, tg_93 hZ, tg_94 hZ, tg_95 hZ, tg_96 hZ, tg_97 hZ, tg_98 hZ, tg_99 hZ, tg_100 hZ, tg_101 hZ, tg_102 hZ, tg_103 hZ, tg_104 hZ, tg_105 hZ, tg_106 hZ, tg_107 hZ, tg_108 hZ, tg_109 hZ, fr_51_0 hF, fr_51_1 hF, fr_51_2 hF, fr_51_4 hF, fr_51_5 hF, fr_51_6 hF, fr_51_7 hF, fr_51_8 hF, fr_51_9 hF, fr_51_10 hF, fr_51_16 hF, fr_51_17 hF, fr_51_18 hF, fr_51_19 hF, fr_51_20 hF, fr_51_22 hF, fr_51_23 hF, fr_51_24 hF, fr_51_25 hF, fr_51_26 hF, fr_51_27 hF, fr_51_28 hF, fr_51_29 hF, fr_51_30 hF, fr_51_31 hF, fr_51_32 hF, fr_51_33 hF, fr_51_36 hF, fr_51_37 hF, fr_51_38 hF, fr_51_39 hF, fr_51_40 hF, fr_51_41 hF, fr_51_42 hF, fr_51_51 hF, fr_51_52 hF, fr_51_54 hF, fr_51_56 hF, fr_51_58 hF, fr_51_59 hF, fr_51_60 hF, fr_51_62 hF, fr_51_63 hF, fr_51_67 hF, fr_51_68 hF, fr_51_69 hF, fr_51_70 hF, fr_51_71 hF, fr_51_72 hF, fr_51_73 hF, fr_51_74 hF, fr_51_76 hF, fr_51_77 hF, fr_51_78 hF, fr_51_79 hF, fr_51_82 hF, fr_51_83 hF, fr_51_84 hF, h2, hle2, fX12_goesOver, if_pos a69, hix, hmi, pu, c', c, tpS, nI_succ]
      · rw [bpS, nI_succ]
        by_cases c : tpS M (nI k) n ≤ (bpS M n k).2
        · simp only [if_pos c, Option.bind_some]
        · simp only [if_neg c, Option.bind_some]
    · simp only [if_pos (show (100 : Int32) ≤ nI 100 by decide)]
      by_cases c : x1 = 0
      · simp only [if_pos c]
      · simp only [if_neg c]
