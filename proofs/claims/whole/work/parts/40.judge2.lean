/-! judge -/
theorem orUp_has {d : Nat → Nat} : ∀ m k, k < m → orUp d m ||| ((1 : Int32) <<< (nI (d k) &&& 31)) = orUp d m := by
  intro m
  induction m with
  | zero => exact fun k h => absurd h (by omega)
  | succ m ih =>
    intro k hk
    rw [orUp]
    by_cases e : k = m
    · subst e
      apply Int32.toBitVec_inj.mp
      simp only [Int32.toBitVec_or]
      rw [BitVec.or_assoc, BitVec.or_self]
    · have h := congrArg Int32.toBitVec (ih k (by omega))
      simp only [Int32.toBitVec_or] at h
      apply Int32.toBitVec_inj.mp
      simp only [Int32.toBitVec_or]
      rw [BitVec.or_assoc, BitVec.or_comm ((1 : Int32) <<< (nI (d m) &&& 31)).toBitVec, ← BitVec.or_assoc, h]
theorem order_c {Z : Shp} {M : Mem} (hZ : OKZ Z) {n : Nat} (hn : n ≤ 8) (h1 : rI M 27 3 = nI n) {j : Nat} (hj : j < 8 ^ n) : fX9_isOrder Z M 27 (nI j) = some (if orUp (dg j n) n = ((1 : Int32) <<< (nI n &&& 31)) - 1 then 1 else 0) := by
  obtain ⟨t1, t2, t3⟩ := cat_top n (by omega)
  unfold fX9_isOrder
  rw [if_pos (tg_27 hZ), h1, t1, if_neg (w_of (by rw [nI_toInt (by omega)]; exact Int.natCast_nonneg _) (by rw [nI_toInt (by omega), nI_toInt (by omega)]; omega))]
  refine bindL (loop_for (s0 := ((0 : Int32), (0 : Int32))) (fun k => (orUp (dg j n) k, nI k)) n (r := orUp (dg j n) n) rfl (fun k hk => ?_) (by simp)) ?_
  · have hle := nle hk (by omega)
    simp [hle, cat_c hZ hn h1 (show j < 2 ^ 31 by omega) hk, pu, orUp, nI_succ]
  · split <;> rfl
theorem op_judge {Z : Shp} {M : Mem} (hZ : OKZ Z) (hF : Fix M) (hI : ICome M) (x1 : Int32) : ∃ r M2, fX11_judge Z M 2 x1 = some r ∧ fX12_judge Z M 51 x1 = some (r, M2) ∧ Wr Z FJudge [] [] M M2 := by
  obtain ⟨n, hn, h1, h2, e1, e2, e3, hv⟩ := id hI
  by_cases n0 : n = 0
  · subst n0
    rw [show nI 0 = 0 by decide] at h1 h2
    exact ⟨-103, M, by simp [fX11_judge, tg_2 hZ, tg_3 hZ, tg_4 hZ, tg_5 hZ, tg_6 hZ, tg_7 hZ, tg_8 hZ, tg_24 hZ, tg_25 hZ, tg_26 hZ, tg_27 hZ, tg_28 hZ, tg_29 hZ, tg_30 hZ, tg_31 hZ, tg_32 hZ, tg_33 hZ, tg_34 hZ, tg_35 hZ, tg_36 hZ, tg_37 hZ, tg_38 hZ, tg_39 hZ, tg_40 hZ, tg_41 hZ, tg_42 hZ, tg_43 hZ, tg_44 hZ, tg_45 hZ, tg_46 hZ, tg_47 hZ, tg_48 hZ, tg_49 hZ, tg_50 hZ, fr_2_0 hF, fr_3_0 hF, fr_3_1 hF, fr_3_2 hF, fr_3_3 hF, fr_3_4 hF, fr_2_1 hF, fr_24_0 hF, fr_24_2 hF, fr_2_2 hF, fr_27_0 hF, fr_27_1 hF, fr_27_2 hF, fr_27_8 hF, fr_2_3 hF, fr_32_0 hF, fr_32_1 hF, fr_32_3 hF, fr_32_4 hF, fr_32_5 hF, fr_32_6 hF, fr_2_4 hF, fr_39_0 hF, fr_39_1 hF, fr_39_2 hF, fr_39_3 hF, fr_39_4 hF, fr_39_5 hF, fr_39_6 hF, fr_2_5 hF, fr_47_0 hF, fr_47_1 hF, fr_47_2 hF, h1], by simp [fX12_judge, tg_51 hZ, h2], Wr.rf⟩
  have hn0 : 0 < n := by omega
  have hne : ¬ nI n = 0 := nI_ne0 hn0 (by omega)
  obtain ⟨t1, t2, t3⟩ := cat_top n (by omega)
  by_cases c1 : x1 < 0
  · have hc : ¬ (0 : Int32) ≤ x1 := by
      rw [i32_lt] at c1
      rw [i32_le]
      omega
    have ho : fX9_isOrder Z M 27 x1 = some 0 := by
      unfold fX9_isOrder
      rw [if_pos (tg_27 hZ), if_pos ((w_iff _ _ _).mpr (fun h => hc h.1))]
    refine ⟨-102, M, by simp [fX11_judge, tg_2 hZ, tg_3 hZ, tg_4 hZ, tg_5 hZ, tg_6 hZ, tg_7 hZ, tg_8 hZ, tg_24 hZ, tg_25 hZ, tg_26 hZ, tg_27 hZ, tg_28 hZ, tg_29 hZ, tg_30 hZ, tg_31 hZ, tg_32 hZ, tg_33 hZ, tg_34 hZ, tg_35 hZ, tg_36 hZ, tg_37 hZ, tg_38 hZ, tg_39 hZ, tg_40 hZ, tg_41 hZ, tg_42 hZ, tg_43 hZ, tg_44 hZ, tg_45 hZ, tg_46 hZ, tg_47 hZ, tg_48 hZ, tg_49 hZ, tg_50 hZ, fr_2_0 hF, fr_3_0 hF, fr_3_1 hF, fr_3_2 hF, fr_3_3 hF, fr_3_4 hF, fr_2_1 hF, fr_24_0 hF, fr_24_2 hF, fr_2_2 hF, fr_27_0 hF, fr_27_1 hF, fr_27_2 hF, fr_27_8 hF, fr_2_3 hF, fr_32_0 hF, fr_32_1 hF, fr_32_3 hF, fr_32_4 hF, fr_32_5 hF, fr_32_6 hF, fr_2_4 hF, fr_39_0 hF, fr_39_1 hF, fr_39_2 hF, fr_39_3 hF, fr_39_4 hF, fr_39_5 hF, fr_39_6 hF, fr_2_5 hF, fr_47_0 hF, fr_47_1 hF, fr_47_2 hF, h1, hne, ho], ?_, Wr.rf⟩
    unfold fX12_judge
    rw [if_pos (tg_51 hZ), h2, if_neg hne]
    simp only [pu]
    refine bindL (v := (x1, (0 : Int32), M)) (loop_done ?_) (by simp [c1])
    have : ¬ nI n - 1 < 0 := by
      rw [nI_prd n0]
      exact nI_pos (by omega)
    simp [this, c1]
  obtain ⟨j, hj, rfl⟩ := nI_of c1
  have hw : Wr Z FJudge [] [] M (jdM M j n n) := Wr.rf.jd (by simp) n
  have hm : ∀ r, (if 0 < nI (j / 8 ^ n) then some ((-102 : Int32), jdM M j n n) else if jdS j n = ((1 : Int32) <<< (nI n &&& 31)) - 1 then Option.bind (fX12_workOff Z (jdM M j n n) 51) (fun v20 => if v20.1 = -1 then some (rI v20.2 51 64, v20.2) else some ((-1000 : Int32) - v20.1, v20.2)) else some ((-102 : Int32), jdM M j n n)) = r → fX12_judge Z M 51 (nI j) = r := by
    intro r hr
    unfold fX12_judge
    rw [if_pos (tg_51 hZ), h2, if_neg hne]
    simp only [pu]
    have hl := jd_loop hZ hF hn hn0 hj
    simp only [pu] at hl
    refine bindL hl ?_
    dsimp only
    have hr57 : rI (jdM M j n n) 51 57 = nI n := by rw [rI_jdM _ _ n (Nat.le_refl n), if_neg (by omega), h2]
    rw [if_neg c1, hr57]
    exact hr
  by_cases c2 : j < 8 ^ n
  case neg =>
    have ho : fX9_isOrder Z M 27 (nI j) = some 0 := by
      unfold fX9_isOrder
      rw [if_pos (tg_27 hZ), h1, t1, if_pos ((w_iff _ _ _).mpr (fun h => ?_))]
      have := (nI_leI hj (by omega)).mp h.2
      omega
    refine ⟨-102, jdM M j n n, by simp [fX11_judge, tg_2 hZ, tg_3 hZ, tg_4 hZ, tg_5 hZ, tg_6 hZ, tg_7 hZ, tg_8 hZ, tg_24 hZ, tg_25 hZ, tg_26 hZ, tg_27 hZ, tg_28 hZ, tg_29 hZ, tg_30 hZ, tg_31 hZ, tg_32 hZ, tg_33 hZ, tg_34 hZ, tg_35 hZ, tg_36 hZ, tg_37 hZ, tg_38 hZ, tg_39 hZ, tg_40 hZ, tg_41 hZ, tg_42 hZ, tg_43 hZ, tg_44 hZ, tg_45 hZ, tg_46 hZ, tg_47 hZ, tg_48 hZ, tg_49 hZ, tg_50 hZ, fr_2_0 hF, fr_3_0 hF, fr_3_1 hF, fr_3_2 hF, fr_3_3 hF, fr_3_4 hF, fr_2_1 hF, fr_24_0 hF, fr_24_2 hF, fr_2_2 hF, fr_27_0 hF, fr_27_1 hF, fr_27_2 hF, fr_27_8 hF, fr_2_3 hF, fr_32_0 hF, fr_32_1 hF, fr_32_3 hF, fr_32_4 hF, fr_32_5 hF, fr_32_6 hF, fr_2_4 hF, fr_39_0 hF, fr_39_1 hF, fr_39_2 hF, fr_39_3 hF, fr_39_4 hF, fr_39_5 hF, fr_39_6 hF, fr_2_5 hF, fr_47_0 hF, fr_47_1 hF, fr_47_2 hF, h1, hne, ho], hm _ ?_, hw⟩
    have hp : 0 < j / 8 ^ n := Nat.div_pos (by omega) (by omega)
    rw [if_pos]
    have := nI_lt hp (Nat.lt_of_le_of_lt (Nat.div_le_self _ _) hj)
    rwa [show nI 0 = 0 by decide] at this
  have hz : ¬ 0 < nI (j / 8 ^ n) := by
    rw [Nat.div_eq_of_lt c2]
    decide
  have ho := order_c hZ hn h1 c2
  have hs : jdS j n = orUp (dg j n) n := by
    have := or_up (j := j) (n := n) n (Nat.le_refl n)
    rw [Nat.sub_self, orUp] at this
    rw [← this]
    simp
  by_cases c3 : orUp (dg j n) n = ((1 : Int32) <<< (nI n &&& 31)) - 1
  case neg =>
    rw [if_neg c3] at ho
    refine ⟨-102, jdM M j n n, by simp [fX11_judge, tg_2 hZ, tg_3 hZ, tg_4 hZ, tg_5 hZ, tg_6 hZ, tg_7 hZ, tg_8 hZ, tg_24 hZ, tg_25 hZ, tg_26 hZ, tg_27 hZ, tg_28 hZ, tg_29 hZ, tg_30 hZ, tg_31 hZ, tg_32 hZ, tg_33 hZ, tg_34 hZ, tg_35 hZ, tg_36 hZ, tg_37 hZ, tg_38 hZ, tg_39 hZ, tg_40 hZ, tg_41 hZ, tg_42 hZ, tg_43 hZ, tg_44 hZ, tg_45 hZ, tg_46 hZ, tg_47 hZ, tg_48 hZ, tg_49 hZ, tg_50 hZ, fr_2_0 hF, fr_3_0 hF, fr_3_1 hF, fr_3_2 hF, fr_3_3 hF, fr_3_4 hF, fr_2_1 hF, fr_24_0 hF, fr_24_2 hF, fr_2_2 hF, fr_27_0 hF, fr_27_1 hF, fr_27_2 hF, fr_27_8 hF, fr_2_3 hF, fr_32_0 hF, fr_32_1 hF, fr_32_3 hF, fr_32_4 hF, fr_32_5 hF, fr_32_6 hF, fr_2_4 hF, fr_39_0 hF, fr_39_1 hF, fr_39_2 hF, fr_39_3 hF, fr_39_4 hF, fr_39_5 hF, fr_39_6 hF, fr_2_5 hF, fr_47_0 hF, fr_47_1 hF, fr_47_2 hF, h1, hne, ho], hm _ ?_, hw⟩
    rw [if_neg hz, hs, if_neg c3]
  rw [if_pos c3] at ho
  have hdg : ∀ k, k < n → dg j n k < n := by
    intro k hk
    refine Classical.byContradiction fun h => ?_
    obtain ⟨x, hx, e⟩ := orUp_nI (d := dg j n) n (fun i _ => Nat.mod_lt _ (by decide))
    have h3 := orUp_has (d := dg j n) n k hk
    rw [e] at h3 c3
    have := orUp_all n (by omega) (dg j n k) (Nat.mod_lt _ (by decide)) (by omega) x hx
    rw [h3] at this
    exact this c3
  have hT : tOk M n := tOk_of hv
  have hf := fill_j hZ hF hn h1 e1 e2 e3 hT hj hdg
  have hd : dis FJudge FCome = true := by decide
  have r90 := fun k => hw.row hd (a := 90) (by simp) (by omega) k
  have r91 := fun k => hw.row hd (a := 91) (by simp) (by omega) k
  have r92 := fun k => hw.row hd (a := 92) (by simp) (by omega) k
  have m1 : ∀ c, tu (jdM M j n n) c = tu M c := fun c => by rw [tu, tu, r90]
  have m2 : ∀ c, tf (jdM M j n n) c = tf M c := fun c => by rw [tf, tf, r91]
  have m3 : ∀ c, tb (jdM M j n n) c = tb M c := fun c => by rw [tb, tb, r92]
  have hT1 : tOk (jdM M j n n) n := by
    intro c hc
    rw [m1, m2, m3, r90, r91, r92]
    exact hT c hc
  have m4 : ∀ k, trn (jdM M j n n) (dg j n) k = trn M (dg j n) k := by
    intro k
    induction k with
    | zero => rfl
    | succ k ih => rw [trn, trn, ih, tst, tst, m1, m2]
  have m5 : ∀ k, tlate (jdM M j n n) (dg j n) k = tlate M (dg j n) k := by
    intro k
    induction k with
    | zero => rfl
    | succ k ih => rw [tlate, tlate, ih, m4, m2, m3]
  have hwk := workOff_m hZ (hw.fix hF (by decide)) hn (by rw [hw.at hd (a := 51) (k := 57) (by simp) (by omega), h2]) hT1 (d := dg j n) (fun k hk => ⟨by rw [rI_jdM _ _ n (Nat.le_refl n), if_pos (by omega)], hdg k hk⟩)
  rw [m4, m5] at hwk
  have hw2 : Wr Z FJudge [] [] M (wI (wI (jdM M j n n) 51 64 (nI (trn M (dg j n) n).2.2)) 51 65 (nI (trn M (dg j n) n).1 - 1)) := (hw.sI (by simp [inF])).sI (by simp [inF])
  have k1 : ¬ (1 : Int32) = 0 := by decide
  refine ⟨match tlate M (dg j n) n with | none => nI (trn M (dg j n) n).2.2 | some x => -1000 - nI x, _, ?_, hm _ ?_, hw2⟩
  · simp [fX11_judge, tg_2 hZ, tg_3 hZ, tg_4 hZ, tg_5 hZ, tg_6 hZ, tg_7 hZ, tg_8 hZ, tg_24 hZ, tg_25 hZ, tg_26 hZ, tg_27 hZ, tg_28 hZ, tg_29 hZ, tg_30 hZ, tg_31 hZ, tg_32 hZ, tg_33 hZ, tg_34 hZ, tg_35 hZ, tg_36 hZ, tg_37 hZ, tg_38 hZ, tg_39 hZ, tg_40 hZ, tg_41 hZ, tg_42 hZ, tg_43 hZ, tg_44 hZ, tg_45 hZ, tg_46 hZ, tg_47 hZ, tg_48 hZ, tg_49 hZ, tg_50 hZ, fr_2_0 hF, fr_3_0 hF, fr_3_1 hF, fr_3_2 hF, fr_3_3 hF, fr_3_4 hF, fr_2_1 hF, fr_24_0 hF, fr_24_2 hF, fr_2_2 hF, fr_27_0 hF, fr_27_1 hF, fr_27_2 hF, fr_27_8 hF, fr_2_3 hF, fr_32_0 hF, fr_32_1 hF, fr_32_3 hF, fr_32_4 hF, fr_32_5 hF, fr_32_6 hF, fr_2_4 hF, fr_39_0 hF, fr_39_1 hF, fr_39_2 hF, fr_39_3 hF, fr_39_4 hF, fr_39_5 hF, fr_39_6 hF, fr_2_5 hF, fr_47_0 hF, fr_47_1 hF, fr_47_2 hF, h1, hne, ho, hf]
    cases tlate M (dg j n) n <;> rfl
  · rw [if_neg hz, hs, if_pos c3, hwk, Option.bind_some]
    cases e : tlate M (dg j n) n with
    | none => simp [lt32, rI_wI]
    | some x =>
      have := tlate_lt n x e
      simp [lt32, nm1 (show x < 2 ^ 31 by omega)]
