/-! force, bill -/
theorem in_v_99 (x a : Int32) : fX12_in x.toInt64 a.toInt64 (99 : Int64) = fX11_within x a 99 := in_w rfl (by decide)
theorem op_force {Z : Shp} {M : Mem} (hZ : OKZ Z) (hF : Fix M) (hT : ITexts Z M) (x1 x2 x3 : Int32) : ∃ r M1 M2, fX11_force Z M 2 x1 x2 x3 = some (r, M1) ∧ fX12_force Z M1 51 x1 x2 x3 = some (r, M2) ∧ ITexts Z M2 ∧ Wr Z [(81, none), (82, none)] [9] [] M M2 := by
  obtain ⟨t, ht, t1, t2, t3, t4⟩ := id hT
  by_cases c1 : fX11_within x1 0 (nI t - 1) = 0
  · exact ⟨-101, M, M, by simp [fX11_force, fX2_textNumbered, tg_2 hZ, tg_3 hZ, tg_4 hZ, tg_5 hZ, tg_6 hZ, tg_7 hZ, tg_8 hZ, tg_24 hZ, tg_25 hZ, tg_26 hZ, tg_27 hZ, tg_28 hZ, tg_29 hZ, tg_30 hZ, tg_31 hZ, tg_32 hZ, tg_33 hZ, tg_34 hZ, tg_35 hZ, tg_36 hZ, tg_37 hZ, tg_38 hZ, tg_39 hZ, tg_40 hZ, tg_41 hZ, tg_42 hZ, tg_43 hZ, tg_44 hZ, tg_45 hZ, tg_46 hZ, tg_47 hZ, tg_48 hZ, tg_49 hZ, tg_50 hZ, fr_2_0 hF, fr_3_0 hF, fr_3_1 hF, fr_3_2 hF, fr_3_3 hF, fr_3_4 hF, fr_2_1 hF, fr_24_0 hF, fr_24_2 hF, fr_2_2 hF, fr_27_0 hF, fr_27_1 hF, fr_27_2 hF, fr_27_8 hF, fr_2_3 hF, fr_32_0 hF, fr_32_1 hF, fr_32_3 hF, fr_32_4 hF, fr_32_5 hF, fr_32_6 hF, fr_2_4 hF, fr_39_0 hF, fr_39_1 hF, fr_39_2 hF, fr_39_3 hF, fr_39_4 hF, fr_39_5 hF, fr_39_6 hF, fr_2_5 hF, fr_47_0 hF, fr_47_1 hF, fr_47_2 hF, t1, c1], by simp [fX12_force, tg_51 hZ, t2, in_m1_e, in_0_e, in_0_1, in_0_2, in_0_23, in_0_3, in_0_4, in_0_40, in_0_5, in_0_50, in_0_599, in_0_6, in_0_7, in_0_9, in_0_99, in_0_999, in_0_9999, in_0_99999, in_0_999999, in_1_100, in_1_200, in_1_6, in_1_9, in_1_999, in_10_17, in_10_200, in_48_57, in_6_17, in_e_99, in_e_9999, in_within, c1], hT, Wr.rf⟩
  obtain ⟨x, hx, rfl⟩ := wT (by omega) c1
  have hix : ix (nI x) = x := ix_nI (by omega)
  have a26 : aok Z 26 114 (nI x) := aok_nI (tg_26 hZ) (by omega) (by decide)
  have a81 : aok Z 81 100 (nI x) := aok_nI (tg_81 hZ) (by omega) (by decide)
  have a82 : aok Z 82 100 (nI x) := aok_nI (tg_82 hZ) (by omega) (by decide)
  have hxo := t3 x hx
  have u1 := hxo.1.1
  have u2 := hxo.1.2
  have h0 : ¬ rR M 26 x = 0 := by omega
  have htn : fX2_textNumbered Z M 24 (nI x) = some (rR M 26 x) := by simp [fX2_textNumbered, tg_24 hZ, t1, c1, fr_24_2 hF, if_pos a26, hix]
  by_cases c2 : fX11_within x2 0 99 = 0
  · exact ⟨-102, M, M, by simp [fX11_force, tg_2 hZ, tg_3 hZ, tg_4 hZ, tg_5 hZ, tg_6 hZ, tg_7 hZ, tg_8 hZ, tg_24 hZ, tg_25 hZ, tg_26 hZ, tg_27 hZ, tg_28 hZ, tg_29 hZ, tg_30 hZ, tg_31 hZ, tg_32 hZ, tg_33 hZ, tg_34 hZ, tg_35 hZ, tg_36 hZ, tg_37 hZ, tg_38 hZ, tg_39 hZ, tg_40 hZ, tg_41 hZ, tg_42 hZ, tg_43 hZ, tg_44 hZ, tg_45 hZ, tg_46 hZ, tg_47 hZ, tg_48 hZ, tg_49 hZ, tg_50 hZ, fr_2_0 hF, fr_3_0 hF, fr_3_1 hF, fr_3_2 hF, fr_3_3 hF, fr_3_4 hF, fr_2_1 hF, fr_24_0 hF, fr_24_2 hF, fr_2_2 hF, fr_27_0 hF, fr_27_1 hF, fr_27_2 hF, fr_27_8 hF, fr_2_3 hF, fr_32_0 hF, fr_32_1 hF, fr_32_3 hF, fr_32_4 hF, fr_32_5 hF, fr_32_6 hF, fr_2_4 hF, fr_39_0 hF, fr_39_1 hF, fr_39_2 hF, fr_39_3 hF, fr_39_4 hF, fr_39_5 hF, fr_39_6 hF, fr_2_5 hF, fr_47_0 hF, fr_47_1 hF, fr_47_2 hF, htn, h0, c2], by simp [fX12_force, fX12_isDay, tg_51 hZ, t2, in_m1_e, in_0_e, in_0_1, in_0_2, in_0_23, in_0_3, in_0_4, in_0_40, in_0_5, in_0_50, in_0_599, in_0_6, in_0_7, in_0_9, in_0_99, in_0_999, in_0_9999, in_0_99999, in_0_999999, in_1_100, in_1_200, in_1_6, in_1_9, in_1_999, in_10_17, in_10_200, in_48_57, in_6_17, in_e_99, in_e_9999, in_within, c1, c2], hT, Wr.rf⟩
  by_cases c3 : fX11_within x3 x2 99 = 0
  · exact ⟨-102, M, M, by simp [fX11_force, tg_2 hZ, tg_3 hZ, tg_4 hZ, tg_5 hZ, tg_6 hZ, tg_7 hZ, tg_8 hZ, tg_24 hZ, tg_25 hZ, tg_26 hZ, tg_27 hZ, tg_28 hZ, tg_29 hZ, tg_30 hZ, tg_31 hZ, tg_32 hZ, tg_33 hZ, tg_34 hZ, tg_35 hZ, tg_36 hZ, tg_37 hZ, tg_38 hZ, tg_39 hZ, tg_40 hZ, tg_41 hZ, tg_42 hZ, tg_43 hZ, tg_44 hZ, tg_45 hZ, tg_46 hZ, tg_47 hZ, tg_48 hZ, tg_49 hZ, tg_50 hZ, fr_2_0 hF, fr_3_0 hF, fr_3_1 hF, fr_3_2 hF, fr_3_3 hF, fr_3_4 hF, fr_2_1 hF, fr_24_0 hF, fr_24_2 hF, fr_2_2 hF, fr_27_0 hF, fr_27_1 hF, fr_27_2 hF, fr_27_8 hF, fr_2_3 hF, fr_32_0 hF, fr_32_1 hF, fr_32_3 hF, fr_32_4 hF, fr_32_5 hF, fr_32_6 hF, fr_2_4 hF, fr_39_0 hF, fr_39_1 hF, fr_39_2 hF, fr_39_3 hF, fr_39_4 hF, fr_39_5 hF, fr_39_6 hF, fr_2_5 hF, fr_47_0 hF, fr_47_1 hF, fr_47_2 hF, htn, h0, c2, c3], by simp [fX12_force, fX12_isDay, tg_51 hZ, t2, in_m1_e, in_0_e, in_0_1, in_0_2, in_0_23, in_0_3, in_0_4, in_0_40, in_0_5, in_0_50, in_0_599, in_0_6, in_0_7, in_0_9, in_0_99, in_0_999, in_0_9999, in_0_99999, in_0_999999, in_1_100, in_1_200, in_1_6, in_1_9, in_1_999, in_10_17, in_10_200, in_48_57, in_6_17, in_e_99, in_e_9999, in_within, in_v_99, c1, c2, c3], hT, Wr.rf⟩
  obtain ⟨T, eT⟩ : ∃ T, T = rR M 26 x := ⟨_, rfl⟩
  rw [← eT] at u1 u2 h0 htn
  obtain ⟨M1, e1⟩ : ∃ M1, M1 = wI (wI M T 4 x2) T 5 x3 := ⟨_, rfl⟩
  obtain ⟨M2, e2⟩ : ∃ M2, M2 = wI (wI M1 81 x x2) 82 x x3 := ⟨_, rfl⟩
  have q : (tg Z T).1 ∈ [9] := by rw [u2]; simp
  have w1 : Wr Z [(81, none), (82, none)] [9] [] M M1 := by
    rw [e1]
    exact (Wr.rf.sD u1 q).sD u1 q
  have w2 : Wr Z [(81, none), (82, none)] [9] [] M M2 := by
    rw [e2]
    exact (w1.sI (by simp [inF])).sI (by simp [inF])
  have hF1 : Fix M1 := w1.fix hF (by decide)
  have s2 : rI M1 51 35 = nI t := by simp [e1, rI_wI, show ¬ 51 = T by omega, t2]
  have rR2 : ∀ a k, rR M2 a k = rR M a k := by
    intro a k
    simp [e2, e1, rR_wI]
  have rI2 : ∀ a k, a ≠ T → a ≠ 81 → a ≠ 82 → rI M2 a k = rI M a k := by
    intro a k h1 h2 h3
    simp [e2, e1, rI_wI, h1, h2, h3]
  refine ⟨1, M1, M2, ?_, ?_, ?_, w2⟩
  · simp [fX11_force, tg_2 hZ, tg_3 hZ, tg_4 hZ, tg_5 hZ, tg_6 hZ, tg_7 hZ, tg_8 hZ, tg_24 hZ, tg_25 hZ, tg_26 hZ, tg_27 hZ, tg_28 hZ, tg_29 hZ, tg_30 hZ, tg_31 hZ, tg_32 hZ, tg_33 hZ, tg_34 hZ, tg_35 hZ, tg_36 hZ, tg_37 hZ, tg_38 hZ, tg_39 hZ, tg_40 hZ, tg_41 hZ, tg_42 hZ, tg_43 hZ, tg_44 hZ, tg_45 hZ, tg_46 hZ, tg_47 hZ, tg_48 hZ, tg_49 hZ, tg_50 hZ, fr_2_0 hF, fr_3_0 hF, fr_3_1 hF, fr_3_2 hF, fr_3_3 hF, fr_3_4 hF, fr_2_1 hF, fr_24_0 hF, fr_24_2 hF, fr_2_2 hF, fr_27_0 hF, fr_27_1 hF, fr_27_2 hF, fr_27_8 hF, fr_2_3 hF, fr_32_0 hF, fr_32_1 hF, fr_32_3 hF, fr_32_4 hF, fr_32_5 hF, fr_32_6 hF, fr_2_4 hF, fr_39_0 hF, fr_39_1 hF, fr_39_2 hF, fr_39_3 hF, fr_39_4 hF, fr_39_5 hF, fr_39_6 hF, fr_2_5 hF, fr_47_0 hF, fr_47_1 hF, fr_47_2 hF, htn, h0, c2, c3, u2, pu, e1]
  · simp [fX12_force, fX12_isDay, tg_51 hZ, s2, in_m1_e, in_0_e, in_0_1, in_0_2, in_0_23, in_0_3, in_0_4, in_0_40, in_0_5, in_0_50, in_0_599, in_0_6, in_0_7, in_0_9, in_0_99, in_0_999, in_0_9999, in_0_99999, in_0_999999, in_1_100, in_1_200, in_1_6, in_1_9, in_1_999, in_10_17, in_10_200, in_48_57, in_6_17, in_e_99, in_e_9999, in_within, in_v_99, c1, c2, c3, fr_51_38 hF1, fr_51_39 hF1, if_pos a81, if_pos a82, hix, pu, rR_wI, e2]
  · refine ⟨t, ht, ?_, ?_, fun j hj => ?_, fun j k => ?_⟩
    · rw [rI2 24 3 (by omega) (by omega) (by omega), t1]
    · rw [rI2 51 35 (by omega) (by omega) (by omega), t2]
    · have hjo := t3 j hj
      have hjo2 := hjo
      obtain ⟨⟨v1, v2⟩, f1, f2, f3, f4, f5, n, q', R, s1, ⟨s3, s4⟩, s5⟩ := hjo
      have hA : rR M (rR M 26 j) 0 ≠ T := fun h => by
        rw [h, u2] at s4
        cases s4
      by_cases e : j = x
      · subst e
        unfold txOk
        rw [rR2, ← eT, rR2]
        rw [← eT] at v1 v2 f1 f2 s3 s4 s5 hA
        have k1 : rI M2 T 1 = rI M T 1 := by simp [e2, e1, rI_wI, show ¬ T = 81 by omega, show ¬ T = 82 by omega]
        have k2 : rI M2 T 2 = rI M T 2 := by simp [e2, e1, rI_wI, show ¬ T = 81 by omega, show ¬ T = 82 by omega]
        have k3 : rI M2 T 3 = rI M T 3 := by simp [e2, e1, rI_wI, show ¬ T = 81 by omega, show ¬ T = 82 by omega]
        have k4 : rI M2 T 4 = x2 := by simp [e2, e1, rI_wI, show ¬ T = 81 by omega, show ¬ T = 82 by omega]
        have k5 : rI M2 T 5 = x3 := by simp [e2, e1, rI_wI, show ¬ T = 81 by omega, show ¬ T = 82 by omega]
        have k6 : rI M2 81 j = x2 := by simp [e2, e1, rI_wI]
        have k7 : rI M2 82 j = x3 := by simp [e2, e1, rI_wI]
        have kA : rI M2 (rR M T 0) = rI M (rR M T 0) := funext fun k => rI2 _ k hA (by omega) (by omega)
        rw [k1, k2, k3, k4, k5, k6, k7, kA, rI2 79 j (by omega) (by omega) (by omega), rI2 80 j (by omega) (by omega) (by omega), rI2 83 j (by omega) (by omega) (by omega)]
        refine ⟨⟨v1, v2⟩, f1, f2, rfl, rfl, f5, n, q', R, s1, ⟨s3, s4⟩, s5.1, s5.2.1, s5.2.2.1, s5.2.2.2.1, s5.2.2.2.2.1, TS_eq R (fun k _ => ⟨rI2 84 _ (by omega) (by omega) (by omega), rI2 85 _ (by omega) (by omega) (by omega)⟩) s5.2.2.2.2.2.1, s5.2.2.2.2.2.2⟩
      · have hT' : rR M 26 j ≠ T := by
          rw [eT]
          rcases Nat.lt_or_ge j x with h | h
          · exact t4 j x h hx
          · exact (t4 x j (by omega) hj).symm
        refine hjo2.keep (Ext_rf Z) (rR2 _ _) (rI2 79 j (by omega) (by omega) (by omega)) (rI2 80 j (by omega) (by omega) (by omega)) (by simp [e2, e1, rI_wI, e, show ¬ 81 = T by omega]) (by simp [e2, e1, rI_wI, e, show ¬ 82 = T by omega]) (rI2 83 j (by omega) (by omega) (by omega)) (fun k _ => rI2 84 _ (by omega) (by omega) (by omega)) (fun k _ => rI2 85 _ (by omega) (by omega) (by omega)) (fun k => rI2 _ k hT' (by omega) (by omega)) (fun k => rR2 _ _) (fun k => rI2 _ k hA (by omega) (by omega))
    · rw [rR2, rR2]
      exact t4 j k
abbrev FBill : List (Nat × Option Nat) := [(40, none), (89, none), (99, none), (100, none)]
theorem miles_bd {f g : Nat} (hf : f ≤ 7) (hg : g ≤ 7) : 0 ≤ ((5 : Int32) * (abI (nI g - nI f) + 1)).toInt ∧ ((5 : Int32) * (abI (nI g - nI f) + 1)).toInt ≤ 40 := by
  have key : ∀ f, f < 8 → ∀ g, g < 8 → 0 ≤ ((5 : Int32) * (abI (nI g - nI f) + 1)).toInt ∧ ((5 : Int32) * (abI (nI g - nI f) + 1)).toInt ≤ 40 := by decide +kernel
  exact key f (by omega) g (by omega)
theorem op_bill {Z : Shp} {M : Mem} (hZ : OKZ Z) (hF : Fix M) (hT : ITexts Z M) (hB : IBoat Z M) (hO : IOwed M) (x1 x2 : Int32) : ∃ r M1 M2, fX11_bill Z M 2 x1 x2 = some (r, M1) ∧ fX12_bill Z M1 51 x1 x2 = some (r, M2) ∧ IBoat Z M2 ∧ IOwed M2 ∧ Wr Z FBill [2] [] M M2 := by
  obtain ⟨t, ht, t1, t2, t3, -⟩ := hT
  obtain ⟨n, hn, b1, b2, b3, b4, b5⟩ := id hB
  obtain ⟨o1, o2⟩ := id hO
  by_cases c3 : fX11_within x1 0 (nI n - 1) = 0
  · exact ⟨-101, M, M, by simp [fX11_bill, fX3_boatNumbered, tg_2 hZ, tg_3 hZ, tg_4 hZ, tg_5 hZ, tg_6 hZ, tg_7 hZ, tg_8 hZ, tg_24 hZ, tg_25 hZ, tg_26 hZ, tg_27 hZ, tg_28 hZ, tg_29 hZ, tg_30 hZ, tg_31 hZ, tg_32 hZ, tg_33 hZ, tg_34 hZ, tg_35 hZ, tg_36 hZ, tg_37 hZ, tg_38 hZ, tg_39 hZ, tg_40 hZ, tg_41 hZ, tg_42 hZ, tg_43 hZ, tg_44 hZ, tg_45 hZ, tg_46 hZ, tg_47 hZ, tg_48 hZ, tg_49 hZ, tg_50 hZ, fr_2_0 hF, fr_3_0 hF, fr_3_1 hF, fr_3_2 hF, fr_3_3 hF, fr_3_4 hF, fr_2_1 hF, fr_24_0 hF, fr_24_2 hF, fr_2_2 hF, fr_27_0 hF, fr_27_1 hF, fr_27_2 hF, fr_27_8 hF, fr_2_3 hF, fr_32_0 hF, fr_32_1 hF, fr_32_3 hF, fr_32_4 hF, fr_32_5 hF, fr_32_6 hF, fr_2_4 hF, fr_39_0 hF, fr_39_1 hF, fr_39_2 hF, fr_39_3 hF, fr_39_4 hF, fr_39_5 hF, fr_39_6 hF, fr_2_5 hF, fr_47_0 hF, fr_47_1 hF, fr_47_2 hF, b1, c3], by simp [fX12_bill, fX12_isBoat, tg_51 hZ, b2, in_m1_e, in_0_e, in_0_1, in_0_2, in_0_23, in_0_3, in_0_4, in_0_40, in_0_5, in_0_50, in_0_599, in_0_6, in_0_7, in_0_9, in_0_99, in_0_999, in_0_9999, in_0_99999, in_0_999999, in_1_100, in_1_200, in_1_6, in_1_9, in_1_999, in_10_17, in_10_200, in_48_57, in_6_17, in_e_99, in_e_9999, in_within, c3], hB, hO, Wr.rf⟩
  obtain ⟨b, hb, rfl⟩ := wT (by omega) c3
  have hbn := bn_c hZ hF hn hb b1 c3
  have hBb := b3 b hb
  have h0 : ¬ rR M 8 b = 0 := by
    have := hBb.1.1
    omega
  by_cases c2 : fX11_within x2 0 99 = 0
  · exact ⟨-102, M, M, by simp [fX11_bill, c2, tg_2 hZ, tg_3 hZ, tg_4 hZ, tg_5 hZ, tg_6 hZ, tg_7 hZ, tg_8 hZ, tg_24 hZ, tg_25 hZ, tg_26 hZ, tg_27 hZ, tg_28 hZ, tg_29 hZ, tg_30 hZ, tg_31 hZ, tg_32 hZ, tg_33 hZ, tg_34 hZ, tg_35 hZ, tg_36 hZ, tg_37 hZ, tg_38 hZ, tg_39 hZ, tg_40 hZ, tg_41 hZ, tg_42 hZ, tg_43 hZ, tg_44 hZ, tg_45 hZ, tg_46 hZ, tg_47 hZ, tg_48 hZ, tg_49 hZ, tg_50 hZ, fr_2_0 hF, fr_3_0 hF, fr_3_1 hF, fr_3_2 hF, fr_3_3 hF, fr_3_4 hF, fr_2_1 hF, fr_24_0 hF, fr_24_2 hF, fr_2_2 hF, fr_27_0 hF, fr_27_1 hF, fr_27_2 hF, fr_27_8 hF, fr_2_3 hF, fr_32_0 hF, fr_32_1 hF, fr_32_3 hF, fr_32_4 hF, fr_32_5 hF, fr_32_6 hF, fr_2_4 hF, fr_39_0 hF, fr_39_1 hF, fr_39_2 hF, fr_39_3 hF, fr_39_4 hF, fr_39_5 hF, fr_39_6 hF, fr_2_5 hF, fr_47_0 hF, fr_47_1 hF, fr_47_2 hF, hbn, h0], by simp [fX12_bill, fX12_isBoat, fX12_isDay, tg_51 hZ, b2, in_m1_e, in_0_e, in_0_1, in_0_2, in_0_23, in_0_3, in_0_4, in_0_40, in_0_5, in_0_50, in_0_599, in_0_6, in_0_7, in_0_9, in_0_99, in_0_999, in_0_9999, in_0_99999, in_0_999999, in_1_100, in_1_200, in_1_6, in_1_9, in_1_999, in_10_17, in_10_200, in_48_57, in_6_17, in_e_99, in_e_9999, in_within, c2, c3], hB, hO, Wr.rf⟩
  have hix : ix (nI b) = b := ix_nI (by omega)
  have a69 : aok Z 69 100 (nI b) := aok_nI (tg_69 hZ) (by omega) (by decide)
  have a72 : aok Z 72 100 (nI b) := aok_nI (tg_72 hZ) (by omega) (by decide)
  have a100 : aok Z 100 101 (nI b) := aok_nI (tg_100 hZ) (by omega) (by decide)
  obtain ⟨⟨u1, u2⟩, e0, e1, e2, e3, e4, e5, e6, e7, e8, e9, ⟨f, g, q, f1, f2, f3, f4, f5, f6, f7, f8⟩, l1, l2, l3, ⟨c, lc, l4⟩, l5⟩ := id hBb
  by_cases c4 : rI M 100 b = 0
  case neg =>
    exact ⟨-103, M, M, by simp [fX11_bill, c2, tg_2 hZ, tg_3 hZ, tg_4 hZ, tg_5 hZ, tg_6 hZ, tg_7 hZ, tg_8 hZ, tg_24 hZ, tg_25 hZ, tg_26 hZ, tg_27 hZ, tg_28 hZ, tg_29 hZ, tg_30 hZ, tg_31 hZ, tg_32 hZ, tg_33 hZ, tg_34 hZ, tg_35 hZ, tg_36 hZ, tg_37 hZ, tg_38 hZ, tg_39 hZ, tg_40 hZ, tg_41 hZ, tg_42 hZ, tg_43 hZ, tg_44 hZ, tg_45 hZ, tg_46 hZ, tg_47 hZ, tg_48 hZ, tg_49 hZ, tg_50 hZ, fr_2_0 hF, fr_3_0 hF, fr_3_1 hF, fr_3_2 hF, fr_3_3 hF, fr_3_4 hF, fr_2_1 hF, fr_24_0 hF, fr_24_2 hF, fr_2_2 hF, fr_27_0 hF, fr_27_1 hF, fr_27_2 hF, fr_27_8 hF, fr_2_3 hF, fr_32_0 hF, fr_32_1 hF, fr_32_3 hF, fr_32_4 hF, fr_32_5 hF, fr_32_6 hF, fr_2_4 hF, fr_39_0 hF, fr_39_1 hF, fr_39_2 hF, fr_39_3 hF, fr_39_4 hF, fr_39_5 hF, fr_39_6 hF, fr_2_5 hF, fr_47_0 hF, fr_47_1 hF, fr_47_2 hF, hbn, h0, u2, e9, c4], by simp [fX12_bill, fX12_isBoat, fX12_isDay, tg_51 hZ, tg_52 hZ, tg_53 hZ, tg_54 hZ, tg_55 hZ, tg_56 hZ, tg_57 hZ, tg_58 hZ, tg_59 hZ, tg_60 hZ, tg_61 hZ, tg_62 hZ, tg_63 hZ, tg_64 hZ, tg_65 hZ, tg_66 hZ, tg_67 hZ, tg_68 hZ, tg_69 hZ, tg_70 hZ, tg_71 hZ, tg_72 hZ, tg_73 hZ, tg_74 hZ, tg_75 hZ, tg_76 hZ, tg_77 hZ, tg_78 hZ, tg_79 hZ, tg_80 hZ, tg_81 hZ, tg_82 hZ, tg_83 hZ, tg_84 hZ, tg_85 hZ, tg_86 hZ, tg_87 hZ, tg_88 hZ, tg_89 hZ, tg_90 hZ, tg_91 hZ, tg_92 hZ, tg_93 hZ, tg_94 hZ, tg_95 hZ, tg_96 hZ, tg_97 hZ, tg_98 hZ, tg_99 hZ, tg_100 hZ, tg_101 hZ, tg_102 hZ, tg_103 hZ, tg_104 hZ, tg_105 hZ, tg_106 hZ, tg_107 hZ, tg_108 hZ, tg_109 hZ, fr_51_0 hF, fr_51_1 hF, fr_51_2 hF, fr_51_4 hF, fr_51_5 hF, fr_51_6 hF, fr_51_7 hF, fr_51_8 hF, fr_51_9 hF, fr_51_10 hF, fr_51_16 hF, fr_51_17 hF, fr_51_18 hF, fr_51_19 hF, fr_51_20 hF, fr_51_22 hF, fr_51_23 hF, fr_51_24 hF, fr_51_25 hF, fr_51_26 hF, fr_51_27 hF, fr_51_28 hF, fr_51_29 hF, fr_51_30 hF, fr_51_31 hF, fr_51_32 hF, fr_51_33 hF, fr_51_36 hF, fr_51_37 hF, fr_51_38 hF, fr_51_39 hF, fr_51_40 hF, fr_51_41 hF, fr_51_42 hF, fr_51_51 hF, fr_51_52 hF, fr_51_54 hF, fr_51_56 hF, fr_51_58 hF, fr_51_59 hF, fr_51_60 hF, fr_51_62 hF, fr_51_63 hF, fr_51_67 hF, fr_51_68 hF, fr_51_69 hF, fr_51_70 hF, fr_51_71 hF, fr_51_72 hF, fr_51_73 hF, fr_51_74 hF, fr_51_76 hF, fr_51_77 hF, fr_51_78 hF, fr_51_79 hF, fr_51_82 hF, fr_51_83 hF, fr_51_84 hF, b2, in_m1_e, in_0_e, in_0_1, in_0_2, in_0_23, in_0_3, in_0_4, in_0_40, in_0_5, in_0_50, in_0_599, in_0_6, in_0_7, in_0_9, in_0_99, in_0_999, in_0_9999, in_0_99999, in_0_999999, in_1_100, in_1_200, in_1_6, in_1_9, in_1_999, in_10_17, in_10_200, in_48_57, in_6_17, in_e_99, in_e_9999, in_within, c2, c3, if_pos a100, hix, c4], hB, hO, Wr.rf⟩
  have a40 : aok Z 40 100 (nI c) := aok_nI (tg_40 hZ) (by omega) (by decide)
  have a99 : aok Z 99 100 (nI c) := aok_nI (tg_99 hZ) (by omega) (by decide)
  have hixc : ix (nI c) = c := ix_nI (by omega)
  obtain ⟨s0, es0⟩ : ∃ s0, s0 = sayV M (lstI (spB Z M 0 (rR M 8 b) x2) t) := ⟨_, rfl⟩
  obtain ⟨s1, es1⟩ : ∃ s1, s1 = sayV M (lstI (spB Z M 1 (rR M 8 b) x2) t) := ⟨_, rfl⟩
  have hs0 := says_c (w := 0) (y := x2) hZ hF ht (show b < 12 by omega) t1 t3 hBb
  have hs1 := says_c (w := 1) (y := x2) hZ hF ht (show b < 12 by omega) t1 t3 hBb
  rw [← es0] at hs0
  rw [← es1] at hs1
  obtain ⟨z, ez⟩ : ∃ z, z = rI M 99 c + s0 * (rI M 69 b * (5 * (abI (rI M 68 b - rI M 67 b) + 1))) := ⟨_, rfl⟩
  have hzb : 0 ≤ z.toInt := by
    have m1 := miles_bd f1 f2
    rw [← f5, ← f6] at m1
    have m2 := say_bd (f := spB Z M 0 (rR M 8 b) x2) ht t3
    rw [← es0] at m2
    have m3 := o2 c
    have m4 := mulI (a := rI M 69 b) (b := 5 * (abI (rI M 68 b - rI M 67 b) + 1)) (by omega) (by omega) (by omega) (by omega)
    have m5 := mulB (A := 40) (B := 40) l1.1 l1.2 m1.1 m1.2
    have m6 := mulI (a := s0) (b := rI M 69 b * (5 * (abI (rI M 68 b - rI M 67 b) + 1))) (by omega) (by omega) (by omega) (by omega)
    have m7 := mulB (A := 9999) (B := 1600) m2.1 m2.2 (show 0 ≤ (rI M 69 b * (5 * (abI (rI M 68 b - rI M 67 b) + 1))).toInt by omega) (by omega)
    rw [ez, addI (by omega) (by omega)]
    omega
  have mrd : ∀ M0, Wr Z [(40, none), (89, none)] [2] [] M M0 → ∃ M3, Wr Z [(40, none), (89, none)] [2] [] M M3 ∧ Wr Z F89 [] [] M0 M3 ∧ fX12_bill Z M0 51 (nI b) x2 = (if z ≤ s1 then some (z, wI (wI M3 100 b 1) 99 c z) else some ((-1 : Int32), M3)) := by
    intro M0 w0
    have hd : dis [(40, none), (89, none)] [(51, none), (67, none), (68, none), (69, none), (72, none), (99, none), (100, none)] = true := by decide
    obtain ⟨M3, g1, g2, g3⟩ := says_m (w := 0) (y := x2) hZ hF ht (show b < 12 by omega) t2 t3 hBb (L := [(40, none), (89, none)]) (ts := [2]) (by simp) (by decide) w0
    obtain ⟨M4, k1, k2, k3⟩ := says_m (w := 1) (y := x2) hZ hF ht (show b < 12 by omega) t2 t3 hBb (L := [(40, none), (89, none)]) (ts := [2]) (by simp) (by decide) g2
    rw [← es0] at g1
    rw [← es1] at k1
    have hF0 : Fix M0 := w0.fix hF (by decide)
    have hF3 : Fix M3 := g2.fix hF (by decide)
    have hF4 : Fix M4 := k2.fix hF (by decide)
    refine ⟨M4, k2, g3.tr k3, ?_⟩
    have v21 : rI M0 51 21 = nI n := by rw [w0.row hd (a := 51) (by simp) (by omega), b2]
    have v100 : rI M0 100 b = 0 := by rw [w0.row hd (a := 100) (by simp) (by omega), c4]
    have v72 : rI M0 72 b = nI c := by rw [w0.row hd (a := 72) (by simp) (by omega), l4]
    have v99 : rI M0 99 c = rI M 99 c := w0.row hd (a := 99) (by simp) (by omega) c
    have v72' : rI M4 72 b = nI c := by rw [k2.row hd (a := 72) (by simp) (by omega), l4]
    have v67 := g2.row hd (a := 67) (by simp) (by omega) b
    have v68 := g2.row hd (a := 68) (by simp) (by omega) b
    have v69 := g2.row hd (a := 69) (by simp) (by omega) b
    have etl : fX12_tollOf Z M0 51 (nI b) x2 = some (s0 * (rI M 69 b * (5 * (abI (rI M 68 b - rI M 67 b) + 1))), M3) := by
      simp [fX12_tollOf, tg_51 hZ, g1, fr_51_24 hF3, if_pos a69, hix, miles_m hZ hF3 (show b < 12 by omega), v67, v68, v69, Int32.mul_assoc]
    by_cases q : z ≤ s1
    · rw [if_pos q]
      rw [ez] at q
      simp [fX12_bill, fX12_isBoat, fX12_isDay, tg_51 hZ, v21, in_m1_e, in_0_e, in_0_1, in_0_2, in_0_23, in_0_3, in_0_4, in_0_40, in_0_5, in_0_50, in_0_599, in_0_6, in_0_7, in_0_9, in_0_99, in_0_999, in_0_9999, in_0_99999, in_0_999999, in_1_100, in_1_200, in_1_6, in_1_9, in_1_999, in_10_17, in_10_200, in_48_57, in_6_17, in_e_99, in_e_9999, in_within, c2, c3, fr_51_72 hF0, if_pos a100, hix, v100, fr_51_27 hF0, if_pos a72, fr_51_71 hF0, v72, if_pos a99, etl, hixc, v99, pu, k1, q, fr_51_72 hF4, fr_51_27 hF4, fr_51_71 hF4, rI_wI, rJ_wI, rR_wI, rI_wJ, rJ_wJ, rR_wJ, rI_wR, rJ_wR, rR_wR, v72', ez]
    · rw [if_neg q]
      rw [ez] at q
      simp [fX12_bill, fX12_isBoat, fX12_isDay, tg_51 hZ, v21, in_m1_e, in_0_e, in_0_1, in_0_2, in_0_23, in_0_3, in_0_4, in_0_40, in_0_5, in_0_50, in_0_599, in_0_6, in_0_7, in_0_9, in_0_99, in_0_999, in_0_9999, in_0_99999, in_0_999999, in_1_100, in_1_200, in_1_6, in_1_9, in_1_999, in_10_17, in_10_200, in_48_57, in_6_17, in_e_99, in_e_9999, in_within, c2, c3, fr_51_72 hF0, if_pos a100, hix, v100, fr_51_27 hF0, if_pos a72, fr_51_71 hF0, v72, if_pos a99, etl, hixc, v99, pu, k1, q]
  have hcl : fX11_bill Z M 2 (nI b) x2 = if z ≤ s1 then some (z, wI (wI M (rR M 8 b) 9 1) 40 c z) else some (-1, M) := by
    have v9 : ¬ ((rR M 8 b) = (rR M 8 b) ∧ (4 : Nat) = 9) := by omega
    by_cases q : z ≤ s1
    · rw [if_pos q]
      rw [ez] at q
      simp [fX11_bill, fX1_tonMiles, c2, tg_2 hZ, tg_3 hZ, tg_4 hZ, tg_5 hZ, tg_6 hZ, tg_7 hZ, tg_8 hZ, tg_24 hZ, tg_25 hZ, tg_26 hZ, tg_27 hZ, tg_28 hZ, tg_29 hZ, tg_30 hZ, tg_31 hZ, tg_32 hZ, tg_33 hZ, tg_34 hZ, tg_35 hZ, tg_36 hZ, tg_37 hZ, tg_38 hZ, tg_39 hZ, tg_40 hZ, tg_41 hZ, tg_42 hZ, tg_43 hZ, tg_44 hZ, tg_45 hZ, tg_46 hZ, tg_47 hZ, tg_48 hZ, tg_49 hZ, tg_50 hZ, fr_2_0 hF, fr_3_0 hF, fr_3_1 hF, fr_3_2 hF, fr_3_3 hF, fr_3_4 hF, fr_2_1 hF, fr_24_0 hF, fr_24_2 hF, fr_2_2 hF, fr_27_0 hF, fr_27_1 hF, fr_27_2 hF, fr_27_8 hF, fr_2_3 hF, fr_32_0 hF, fr_32_1 hF, fr_32_3 hF, fr_32_4 hF, fr_32_5 hF, fr_32_6 hF, fr_2_4 hF, fr_39_0 hF, fr_39_1 hF, fr_39_2 hF, fr_39_3 hF, fr_39_4 hF, fr_39_5 hF, fr_39_6 hF, fr_2_5 hF, fr_47_0 hF, fr_47_1 hF, fr_47_2 hF, hbn, h0, u2, e9, c4, e4, l4, if_pos a40, hixc, o1, hs0, hs1, e1, e5, pu, q, rI_wI, rJ_wI, rR_wI, rI_wJ, rJ_wJ, rR_wJ, rI_wR, rJ_wR, rR_wR, ez]
    · rw [if_neg q]
      rw [ez] at q
      simp [fX11_bill, fX1_tonMiles, c2, tg_2 hZ, tg_3 hZ, tg_4 hZ, tg_5 hZ, tg_6 hZ, tg_7 hZ, tg_8 hZ, tg_24 hZ, tg_25 hZ, tg_26 hZ, tg_27 hZ, tg_28 hZ, tg_29 hZ, tg_30 hZ, tg_31 hZ, tg_32 hZ, tg_33 hZ, tg_34 hZ, tg_35 hZ, tg_36 hZ, tg_37 hZ, tg_38 hZ, tg_39 hZ, tg_40 hZ, tg_41 hZ, tg_42 hZ, tg_43 hZ, tg_44 hZ, tg_45 hZ, tg_46 hZ, tg_47 hZ, tg_48 hZ, tg_49 hZ, tg_50 hZ, fr_2_0 hF, fr_3_0 hF, fr_3_1 hF, fr_3_2 hF, fr_3_3 hF, fr_3_4 hF, fr_2_1 hF, fr_24_0 hF, fr_24_2 hF, fr_2_2 hF, fr_27_0 hF, fr_27_1 hF, fr_27_2 hF, fr_27_8 hF, fr_2_3 hF, fr_32_0 hF, fr_32_1 hF, fr_32_3 hF, fr_32_4 hF, fr_32_5 hF, fr_32_6 hF, fr_2_4 hF, fr_39_0 hF, fr_39_1 hF, fr_39_2 hF, fr_39_3 hF, fr_39_4 hF, fr_39_5 hF, fr_39_6 hF, fr_2_5 hF, fr_47_0 hF, fr_47_1 hF, fr_47_2 hF, hbn, h0, u2, e9, c4, e4, l4, if_pos a40, hixc, o1, hs0, hs1, e1, e5, pu, q]
  have qt : (tg Z (rR M 8 b)).1 ∈ [2] := by rw [u2]; simp
  have s1b := say_bd (f := spB Z M 1 (rR M 8 b) x2) ht t3
  rw [← es1] at s1b
  by_cases q : z ≤ s1
  · rw [if_pos q] at hcl
    have w1 : Wr Z [(40, none), (89, none)] [2] [] M (wI (wI M (rR M 8 b) 9 1) 40 c z) := (Wr.rf.sD u1 qt).sI (by simp [inF])
    obtain ⟨M3, g1, g2, g3⟩ := mrd _ w1
    rw [if_pos q] at g3
    have w3 : Wr Z FBill [2] [] M (wI (wI M3 100 b 1) 99 c z) := ((g1.mono (by decide) (by simp) (by simp)).sI (by simp [inF])).sI (by simp [inF])
    have rd : ∀ a k, a ≠ 89 → rI M3 a k = rI (wI (wI M (rR M 8 b) 9 1) 40 c z) a k := by
      intro a k ha
      refine (g2.1 a k ?_ (fun h => by simp at h)).1
      rintro (h | h)
      · simp at h; omega
      · simp at h
    have rr : ∀ a k, rR M3 a k = rR M a k := by
      intro a k
      rw [g2.2 a k (by simp) (by simp), rR_wI, rR_wI]
    obtain ⟨M2, eM2⟩ : ∃ M2, M2 = wI (wI M3 100 b 1) 99 c z := ⟨_, rfl⟩
    have rr2 : ∀ a k, rR M2 a k = rR M a k := by
      intro a k
      rw [eM2, rR_wI, rR_wI, rr]
    have rd2 : ∀ a k, a ≠ 89 → a ≠ 99 → a ≠ 100 → a ≠ 40 → (a ≠ rR M 8 b ∨ k ≠ 9) → rI M2 a k = rI M a k := by
      intro a k h1 h2 h3 h4 h5
      rw [eM2, rI_wI, if_neg (by omega), rI_wI, if_neg (by omega), rd a k h1, rI_wI, if_neg (by omega), rI_wI, if_neg (by omega)]
    have r100 : ∀ k, rI M2 100 k = if k = b then 1 else rI M 100 k := by
      intro k
      rw [eM2, rI_wI, if_neg (by omega), rI_wI]
      by_cases h : k = b
      · rw [if_pos ⟨rfl, h⟩, if_pos h]
      · rw [if_neg (fun h2 => h h2.2), if_neg h, rd 100 k (by omega), rI_wI, if_neg (by omega), rI_wI, if_neg (by omega)]
    rw [← eM2] at g3 w3
    refine ⟨z, _, M2, hcl, g3, ?_, ?_, w3⟩
    · refine ⟨n, hn, ?_, ?_, fun k hk => ?_, fun j k => ?_, fun k hk => ?_⟩
      · rw [rd2 3 6 (by omega) (by omega) (by omega) (by omega) (by omega), b1]
      · rw [rd2 51 21 (by omega) (by omega) (by omega) (by omega) (by omega), b2]
      · have hk0 := b3 k hk
        have hk1 := hk0.1.1
        have F : ∀ j, j ≠ 9 → rI M2 (rR M 8 k) j = rI M (rR M 8 k) j := fun j hj => rd2 _ j (by omega) (by omega) (by omega) (by omega) (Or.inr hj)
        have G : ∀ a, 67 ≤ a → a ≤ 75 → rI M2 a k = rI M a k := fun a h1 h2 => rd2 a k (by omega) (by omega) (by omega) (by omega) (by omega)
        have F9 : rI M2 (rR M 8 k) 9 = rI M2 100 k := by
          rw [r100]
          by_cases h : k = b
          · subst h
            rw [if_pos rfl, eM2, rI_wI, if_neg (by omega), rI_wI, if_neg (by omega), rd _ _ (by omega), rI_wI, if_neg (by omega), rI_wI, if_pos ⟨rfl, rfl⟩]
          · have hne : rR M 8 k ≠ rR M 8 b := by
              rcases Nat.lt_or_ge k b with h2 | h2
              · exact b4 k b h2 hb
              · exact (b4 b k (by omega) hk).symm
            rw [if_neg h, rd2 _ _ (by omega) (by omega) (by omega) (by omega) (Or.inl hne)]
            exact hk0.2.2.2.2.2.2.2.2.2.2.1
        have R9 : rI M2 100 k = 0 ∨ rI M2 100 k = 1 := by
          rw [r100]
          by_cases h : k = b
          · rw [if_pos h]; exact Or.inr rfl
          · rw [if_neg h]; exact hk0.2.2.2.2.2.2.2.2.2.2.2.2.2.2.2.2
        obtain ⟨y0, y1, y2, y3, y4, y5, y6, y7, y8, y9, y10, y11, y12, y13, y14, y15, y16⟩ := hk0
        unfold btOk
        rw [rr2, F9, F 0 (by omega), F 1 (by omega), F 2 (by omega), F 3 (by omega), F 4 (by omega), F 5 (by omega), F 6 (by omega), F 7 (by omega), F 8 (by omega), G 67 (by omega) (by omega), G 68 (by omega) (by omega), G 69 (by omega) (by omega), G 70 (by omega) (by omega), G 71 (by omega) (by omega), G 72 (by omega) (by omega), G 73 (by omega) (by omega), G 74 (by omega) (by omega), G 75 (by omega) (by omega)]
        exact ⟨y0, y1, y2, y3, y4, y5, y6, y7, y8, y9, rfl, y11, y12, y13, y14, y15, R9⟩
      · rw [rr2, rr2]
        exact b4 j k
      · rw [rd2 75 k (by omega) (by omega) (by omega) (by omega) (by omega), r100, if_neg (by omega)]
        exact b5 k hk
    · have v40 : ∀ k, rI M2 40 k = if k = c then z else rI M 40 k := by
        intro k
        rw [eM2, rI_wI, if_neg (by omega), rI_wI, if_neg (by omega), rd 40 k (by omega), rI_wI]
        by_cases h : k = c
        · rw [if_pos ⟨rfl, h⟩, if_pos h]
        · rw [if_neg (fun h2 => h h2.2), if_neg h, rI_wI, if_neg (by omega)]
      have v99 : ∀ k, rI M2 99 k = if k = c then z else rI M 99 k := by
        intro k
        rw [eM2, rI_wI]
        by_cases h : k = c
        · rw [if_pos ⟨rfl, h⟩, if_pos h]
        · rw [if_neg (fun h2 => h h2.2), if_neg h, rI_wI, if_neg (by omega), rd 99 k (by omega), rI_wI, if_neg (by omega), rI_wI, if_neg (by omega)]
      refine ⟨fun k => ?_, fun k => ?_⟩
      · rw [v40, v99, o1]
      · rw [v99]
        by_cases h : k = c
        · rw [if_pos h]
          rw [i32_le] at q
          omega
        · rw [if_neg h]
          exact o2 k
  · rw [if_neg q] at hcl
    obtain ⟨M3, g1, g2, g3⟩ := mrd M Wr.rf
    rw [if_neg q] at g3
    have w3 : Wr Z FBill [] [] M M3 := g2.mono (by decide) (by simp) (by simp)
    refine ⟨-1, M, M3, hcl, g3, ?_, ?_, g1.mono (by decide) (by simp) (by simp)⟩
    · exact hB.keep (Ext_rf Z) g2 (by decide) (by decide) (by simp) (by decide)
    · exact hO.keep g2 (by decide)
